section
-- ===== PART A: goes FIRST, ahead of the names: the tables' words, and 'selects' of the private methods out of them =====
/-- a private method of a class that the tables say can be made, by its rows of tables_1 -/
def lw_okq (q : MethodName × Nat) : Prop := (q.1.cls ≠ "java/lang/invoke/MethodHandle" ∧ q.1.cls ≠ "java/lang/invoke/VarHandle") ∧ Cond.instantiable q.1.cls q.2 ∈ tables_1 ∧ Cond.privateMethod q.1 ∈ tables_1 ∧ Cond.instanceMethod q.1 ∈ tables_1
theorem lw_p0 : lw_okq (⟨"RideLaws$Reader", "readRun", "()V"⟩, 11) := ⟨⟨by decide +kernel, by decide +kernel⟩, List.mem_of_getElem? (i := 35) (by decide +kernel), List.mem_of_getElem? (i := 521) (by decide +kernel), List.mem_of_getElem? (i := 522) (by decide +kernel)⟩
theorem lw_p1 : lw_okq (⟨"RideLaws$Reader", "takeWord", "(J)V"⟩, 11) := ⟨⟨by decide +kernel, by decide +kernel⟩, List.mem_of_getElem? (i := 35) (by decide +kernel), List.mem_of_getElem? (i := 525) (by decide +kernel), List.mem_of_getElem? (i := 526) (by decide +kernel)⟩
theorem lw_p2 : lw_okq (⟨"RideLaws$RideText", "readLine", "()Z"⟩, 3) := ⟨⟨by decide +kernel, by decide +kernel⟩, List.mem_of_getElem? (i := 342) (by decide +kernel), List.mem_of_getElem? (i := 532) (by decide +kernel), List.mem_of_getElem? (i := 533) (by decide +kernel)⟩
theorem lw_p3 : lw_okq (⟨"RideLaws$RideText", "readRing", "()Z"⟩, 3) := ⟨⟨by decide +kernel, by decide +kernel⟩, List.mem_of_getElem? (i := 342) (by decide +kernel), List.mem_of_getElem? (i := 540) (by decide +kernel), List.mem_of_getElem? (i := 541) (by decide +kernel)⟩
theorem lw_p4 : lw_okq (⟨"RideLaws$RideText", "readNew", "(I)J"⟩, 3) := ⟨⟨by decide +kernel, by decide +kernel⟩, List.mem_of_getElem? (i := 342) (by decide +kernel), List.mem_of_getElem? (i := 544) (by decide +kernel), List.mem_of_getElem? (i := 545) (by decide +kernel)⟩
theorem lw_p5 : lw_okq (⟨"RideLaws$RideText", "readSeat", "()Z"⟩, 3) := ⟨⟨by decide +kernel, by decide +kernel⟩, List.mem_of_getElem? (i := 342) (by decide +kernel), List.mem_of_getElem? (i := 576) (by decide +kernel), List.mem_of_getElem? (i := 577) (by decide +kernel)⟩
theorem lw_p6 : lw_okq (⟨"RideLaws$RideText", "isTaken", "(II)Z"⟩, 3) := ⟨⟨by decide +kernel, by decide +kernel⟩, List.mem_of_getElem? (i := 342) (by decide +kernel), List.mem_of_getElem? (i := 585) (by decide +kernel), List.mem_of_getElem? (i := 586) (by decide +kernel)⟩
theorem lw_p7 : lw_okq (⟨"RideLaws$RideText", "readWord", "()Z"⟩, 3) := ⟨⟨by decide +kernel, by decide +kernel⟩, List.mem_of_getElem? (i := 342) (by decide +kernel), List.mem_of_getElem? (i := 593) (by decide +kernel), List.mem_of_getElem? (i := 594) (by decide +kernel)⟩
theorem lw_p8 : lw_okq (⟨"RideLaws$RideText", "readRider", "()Z"⟩, 3) := ⟨⟨by decide +kernel, by decide +kernel⟩, List.mem_of_getElem? (i := 342) (by decide +kernel), List.mem_of_getElem? (i := 598) (by decide +kernel), List.mem_of_getElem? (i := 599) (by decide +kernel)⟩
theorem lw_p9 : lw_okq (⟨"RideLaws$RideText", "readSays", "()Z"⟩, 3) := ⟨⟨by decide +kernel, by decide +kernel⟩, List.mem_of_getElem? (i := 342) (by decide +kernel), List.mem_of_getElem? (i := 606) (by decide +kernel), List.mem_of_getElem? (i := 607) (by decide +kernel)⟩
theorem lw_p10 : lw_okq (⟨"RideLaws$RideText", "readLaw", "()Z"⟩, 3) := ⟨⟨by decide +kernel, by decide +kernel⟩, List.mem_of_getElem? (i := 342) (by decide +kernel), List.mem_of_getElem? (i := 618) (by decide +kernel), List.mem_of_getElem? (i := 619) (by decide +kernel)⟩
theorem lw_p11 : lw_okq (⟨"RideLaws$RideText", "readClash", "()Z"⟩, 3) := ⟨⟨by decide +kernel, by decide +kernel⟩, List.mem_of_getElem? (i := 342) (by decide +kernel), List.mem_of_getElem? (i := 626) (by decide +kernel), List.mem_of_getElem? (i := 627) (by decide +kernel)⟩
theorem lw_p12 : lw_okq (⟨"RideLaws", "closeText", "()V"⟩, 15) := ⟨⟨by decide +kernel, by decide +kernel⟩, List.mem_of_getElem? (i := 27) (by decide +kernel), List.mem_of_getElem? (i := 642) (by decide +kernel), List.mem_of_getElem? (i := 643) (by decide +kernel)⟩
theorem lw_p13 : lw_okq (⟨"RideLaws", "has", "(II)Z"⟩, 15) := ⟨⟨by decide +kernel, by decide +kernel⟩, List.mem_of_getElem? (i := 27) (by decide +kernel), List.mem_of_getElem? (i := 679) (by decide +kernel), List.mem_of_getElem? (i := 680) (by decide +kernel)⟩
theorem lw_p14 : lw_okq (⟨"RideLaws", "seatsAtBox", "()I"⟩, 15) := ⟨⟨by decide +kernel, by decide +kernel⟩, List.mem_of_getElem? (i := 27) (by decide +kernel), List.mem_of_getElem? (i := 703) (by decide +kernel), List.mem_of_getElem? (i := 704) (by decide +kernel)⟩
theorem lw_p15 : lw_okq (⟨"RideLaws", "seatsTaken", "()I"⟩, 15) := ⟨⟨by decide +kernel, by decide +kernel⟩, List.mem_of_getElem? (i := 27) (by decide +kernel), List.mem_of_getElem? (i := 707) (by decide +kernel), List.mem_of_getElem? (i := 708) (by decide +kernel)⟩
def lw_privs_1 : List (MethodName × Nat) := [(⟨"RideLaws$Reader", "readRun", "()V"⟩, 11), (⟨"RideLaws$Reader", "takeWord", "(J)V"⟩, 11), (⟨"RideLaws$RideText", "readLine", "()Z"⟩, 3), (⟨"RideLaws$RideText", "readRing", "()Z"⟩, 3), (⟨"RideLaws$RideText", "readNew", "(I)J"⟩, 3), (⟨"RideLaws$RideText", "readSeat", "()Z"⟩, 3), (⟨"RideLaws$RideText", "isTaken", "(II)Z"⟩, 3), (⟨"RideLaws$RideText", "readWord", "()Z"⟩, 3), (⟨"RideLaws$RideText", "readRider", "()Z"⟩, 3), (⟨"RideLaws$RideText", "readSays", "()Z"⟩, 3), (⟨"RideLaws$RideText", "readLaw", "()Z"⟩, 3), (⟨"RideLaws$RideText", "readClash", "()Z"⟩, 3), (⟨"RideLaws", "closeText", "()V"⟩, 15), (⟨"RideLaws", "has", "(II)Z"⟩, 15), (⟨"RideLaws", "seatsAtBox", "()I"⟩, 15), (⟨"RideLaws", "seatsTaken", "()I"⟩, 15)]
theorem lw_r1 : ∀ q ∈ lw_privs_1, lw_okq q := List.forall_mem_cons.mpr ⟨lw_p0, List.forall_mem_cons.mpr ⟨lw_p1, List.forall_mem_cons.mpr ⟨lw_p2, List.forall_mem_cons.mpr ⟨lw_p3, List.forall_mem_cons.mpr ⟨lw_p4, List.forall_mem_cons.mpr ⟨lw_p5, List.forall_mem_cons.mpr ⟨lw_p6, List.forall_mem_cons.mpr ⟨lw_p7, List.forall_mem_cons.mpr ⟨lw_p8, List.forall_mem_cons.mpr ⟨lw_p9, List.forall_mem_cons.mpr ⟨lw_p10, List.forall_mem_cons.mpr ⟨lw_p11, List.forall_mem_cons.mpr ⟨lw_p12, List.forall_mem_cons.mpr ⟨lw_p13, List.forall_mem_cons.mpr ⟨lw_p14, List.forall_mem_cons.mpr ⟨lw_p15, fun _ h => absurd h List.not_mem_nil⟩⟩⟩⟩⟩⟩⟩⟩⟩⟩⟩⟩⟩⟩⟩⟩
theorem lw_p16 : lw_okq (⟨"RideLaws$History", "dropOldest", "()V"⟩, 2) := ⟨⟨by decide +kernel, by decide +kernel⟩, List.mem_of_getElem? (i := 325) (by decide +kernel), List.mem_of_getElem? (i := 723) (by decide +kernel), List.mem_of_getElem? (i := 724) (by decide +kernel)⟩
theorem lw_p17 : lw_okq (⟨"RideLaws$State", "speak", "(LRideLaws$Plan;I)V"⟩, 14) := ⟨⟨by decide +kernel, by decide +kernel⟩, List.mem_of_getElem? (i := 207) (by decide +kernel), List.mem_of_getElem? (i := 781) (by decide +kernel), List.mem_of_getElem? (i := 782) (by decide +kernel)⟩
theorem lw_p18 : lw_okq (⟨"RideLaws$Outlook", "ticksTillTrialHolds", "(II)I"⟩, 3) := ⟨⟨by decide +kernel, by decide +kernel⟩, List.mem_of_getElem? (i := 387) (by decide +kernel), List.mem_of_getElem? (i := 821) (by decide +kernel), List.mem_of_getElem? (i := 822) (by decide +kernel)⟩
theorem lw_p19 : lw_okq (⟨"RideLaws$Outlook", "needs", "(I)I"⟩, 3) := ⟨⟨by decide +kernel, by decide +kernel⟩, List.mem_of_getElem? (i := 387) (by decide +kernel), List.mem_of_getElem? (i := 852) (by decide +kernel), List.mem_of_getElem? (i := 853) (by decide +kernel)⟩
theorem lw_p20 : lw_okq (⟨"RideLaws$Outlook", "isPeaceful", "(I)Z"⟩, 3) := ⟨⟨by decide +kernel, by decide +kernel⟩, List.mem_of_getElem? (i := 387) (by decide +kernel), List.mem_of_getElem? (i := 870) (by decide +kernel), List.mem_of_getElem? (i := 871) (by decide +kernel)⟩
theorem lw_p21 : lw_okq (⟨"RideLaws$Outlook", "stillSilent", "(I)I"⟩, 3) := ⟨⟨by decide +kernel, by decide +kernel⟩, List.mem_of_getElem? (i := 387) (by decide +kernel), List.mem_of_getElem? (i := 887) (by decide +kernel), List.mem_of_getElem? (i := 888) (by decide +kernel)⟩
theorem lw_p22 : lw_okq (⟨"RideLaws$Line", "addByte", "(I)V"⟩, 2) := ⟨⟨by decide +kernel, by decide +kernel⟩, List.mem_of_getElem? (i := 414) (by decide +kernel), List.mem_of_getElem? (i := 908) (by decide +kernel), List.mem_of_getElem? (i := 909) (by decide +kernel)⟩
theorem lw_p23 : lw_okq (⟨"RideLaws$State", "mountOrAlight", "(II)V"⟩, 14) := ⟨⟨by decide +kernel, by decide +kernel⟩, List.mem_of_getElem? (i := 207) (by decide +kernel), List.mem_of_getElem? (i := 943) (by decide +kernel), List.mem_of_getElem? (i := 944) (by decide +kernel)⟩
theorem lw_p24 : lw_okq (⟨"RideLaws$BookText", "readLine", "()Z"⟩, 7) := ⟨⟨by decide +kernel, by decide +kernel⟩, List.mem_of_getElem? (i := 358) (by decide +kernel), List.mem_of_getElem? (i := 974) (by decide +kernel), List.mem_of_getElem? (i := 975) (by decide +kernel)⟩
theorem lw_p25 : lw_okq (⟨"RideLaws$BookText", "add", "(III)Z"⟩, 7) := ⟨⟨by decide +kernel, by decide +kernel⟩, List.mem_of_getElem? (i := 358) (by decide +kernel), List.mem_of_getElem? (i := 985) (by decide +kernel), List.mem_of_getElem? (i := 986) (by decide +kernel)⟩
theorem lw_p26 : lw_okq (⟨"RideLaws$BookText", "readTicks", "()Z"⟩, 7) := ⟨⟨by decide +kernel, by decide +kernel⟩, List.mem_of_getElem? (i := 358) (by decide +kernel), List.mem_of_getElem? (i := 989) (by decide +kernel), List.mem_of_getElem? (i := 990) (by decide +kernel)⟩
theorem lw_p27 : lw_okq (⟨"RideLaws$BookText", "readAct", "(I)Z"⟩, 7) := ⟨⟨by decide +kernel, by decide +kernel⟩, List.mem_of_getElem? (i := 358) (by decide +kernel), List.mem_of_getElem? (i := 994) (by decide +kernel), List.mem_of_getElem? (i := 995) (by decide +kernel)⟩
theorem lw_p28 : lw_okq (⟨"RideLaws$BookText", "liveLine", "(ILRideLaws$State;)I"⟩, 7) := ⟨⟨by decide +kernel, by decide +kernel⟩, List.mem_of_getElem? (i := 358) (by decide +kernel), List.mem_of_getElem? (i := 1004) (by decide +kernel), List.mem_of_getElem? (i := 1005) (by decide +kernel)⟩
theorem lw_p29 : lw_okq (⟨"RideLaws$BookText", "liveTicks", "(ILRideLaws$State;)I"⟩, 7) := ⟨⟨by decide +kernel, by decide +kernel⟩, List.mem_of_getElem? (i := 358) (by decide +kernel), List.mem_of_getElem? (i := 1019) (by decide +kernel), List.mem_of_getElem? (i := 1020) (by decide +kernel)⟩
theorem lw_p30 : lw_okq (⟨"RideLaws$Sentence", "readCond", "(LRideLaws$Reader;LRideLaws$Plan;I)Z"⟩, 6) := ⟨⟨by decide +kernel, by decide +kernel⟩, List.mem_of_getElem? (i := 279) (by decide +kernel), List.mem_of_getElem? (i := 1039) (by decide +kernel), List.mem_of_getElem? (i := 1040) (by decide +kernel)⟩
theorem lw_p31 : lw_okq (⟨"RideLaws$Sentence", "readOne", "(LRideLaws$Reader;LRideLaws$Plan;I)Z"⟩, 6) := ⟨⟨by decide +kernel, by decide +kernel⟩, List.mem_of_getElem? (i := 279) (by decide +kernel), List.mem_of_getElem? (i := 1043) (by decide +kernel), List.mem_of_getElem? (i := 1044) (by decide +kernel)⟩
def lw_privs_2 : List (MethodName × Nat) := [(⟨"RideLaws$History", "dropOldest", "()V"⟩, 2), (⟨"RideLaws$State", "speak", "(LRideLaws$Plan;I)V"⟩, 14), (⟨"RideLaws$Outlook", "ticksTillTrialHolds", "(II)I"⟩, 3), (⟨"RideLaws$Outlook", "needs", "(I)I"⟩, 3), (⟨"RideLaws$Outlook", "isPeaceful", "(I)Z"⟩, 3), (⟨"RideLaws$Outlook", "stillSilent", "(I)I"⟩, 3), (⟨"RideLaws$Line", "addByte", "(I)V"⟩, 2), (⟨"RideLaws$State", "mountOrAlight", "(II)V"⟩, 14), (⟨"RideLaws$BookText", "readLine", "()Z"⟩, 7), (⟨"RideLaws$BookText", "add", "(III)Z"⟩, 7), (⟨"RideLaws$BookText", "readTicks", "()Z"⟩, 7), (⟨"RideLaws$BookText", "readAct", "(I)Z"⟩, 7), (⟨"RideLaws$BookText", "liveLine", "(ILRideLaws$State;)I"⟩, 7), (⟨"RideLaws$BookText", "liveTicks", "(ILRideLaws$State;)I"⟩, 7), (⟨"RideLaws$Sentence", "readCond", "(LRideLaws$Reader;LRideLaws$Plan;I)Z"⟩, 6), (⟨"RideLaws$Sentence", "readOne", "(LRideLaws$Reader;LRideLaws$Plan;I)Z"⟩, 6)]
theorem lw_r2 : ∀ q ∈ lw_privs_2, lw_okq q := List.forall_mem_cons.mpr ⟨lw_p16, List.forall_mem_cons.mpr ⟨lw_p17, List.forall_mem_cons.mpr ⟨lw_p18, List.forall_mem_cons.mpr ⟨lw_p19, List.forall_mem_cons.mpr ⟨lw_p20, List.forall_mem_cons.mpr ⟨lw_p21, List.forall_mem_cons.mpr ⟨lw_p22, List.forall_mem_cons.mpr ⟨lw_p23, List.forall_mem_cons.mpr ⟨lw_p24, List.forall_mem_cons.mpr ⟨lw_p25, List.forall_mem_cons.mpr ⟨lw_p26, List.forall_mem_cons.mpr ⟨lw_p27, List.forall_mem_cons.mpr ⟨lw_p28, List.forall_mem_cons.mpr ⟨lw_p29, List.forall_mem_cons.mpr ⟨lw_p30, List.forall_mem_cons.mpr ⟨lw_p31, fun _ h => absurd h List.not_mem_nil⟩⟩⟩⟩⟩⟩⟩⟩⟩⟩⟩⟩⟩⟩⟩⟩
theorem lw_p32 : lw_okq (⟨"RideLaws$Sentence", "add", "(III)Z"⟩, 6) := ⟨⟨by decide +kernel, by decide +kernel⟩, List.mem_of_getElem? (i := 279) (by decide +kernel), List.mem_of_getElem? (i := 1054) (by decide +kernel), List.mem_of_getElem? (i := 1055) (by decide +kernel)⟩
theorem lw_p33 : lw_okq (⟨"RideLaws$Sentence", "readNamed", "(LRideLaws$Reader;LRideLaws$Plan;II)Z"⟩, 6) := ⟨⟨by decide +kernel, by decide +kernel⟩, List.mem_of_getElem? (i := 279) (by decide +kernel), List.mem_of_getElem? (i := 1058) (by decide +kernel), List.mem_of_getElem? (i := 1059) (by decide +kernel)⟩
theorem lw_p34 : lw_okq (⟨"RideLaws$Sentence", "readCompared", "(LRideLaws$Reader;I)Z"⟩, 6) := ⟨⟨by decide +kernel, by decide +kernel⟩, List.mem_of_getElem? (i := 279) (by decide +kernel), List.mem_of_getElem? (i := 1063) (by decide +kernel), List.mem_of_getElem? (i := 1064) (by decide +kernel)⟩
theorem lw_p35 : lw_okq (⟨"RideLaws$Sentence", "isTrue", "(ILRideLaws$State;I)Z"⟩, 6) := ⟨⟨by decide +kernel, by decide +kernel⟩, List.mem_of_getElem? (i := 279) (by decide +kernel), List.mem_of_getElem? (i := 1078) (by decide +kernel), List.mem_of_getElem? (i := 1079) (by decide +kernel)⟩
theorem lw_p36 : lw_okq (⟨"java/lang/Throwable", "fillInStackTrace", "(I)Ljava/lang/Throwable;"⟩, 6) := ⟨⟨by decide +kernel, by decide +kernel⟩, List.mem_of_getElem? (i := 1142) (by decide +kernel), List.mem_of_getElem? (i := 1140) (by decide +kernel), List.mem_of_getElem? (i := 1141) (by decide +kernel)⟩
theorem lw_p37 : lw_okq (⟨"RideLaws$Outlook", "knownTo", "(I)I"⟩, 3) := ⟨⟨by decide +kernel, by decide +kernel⟩, List.mem_of_getElem? (i := 387) (by decide +kernel), List.mem_of_getElem? (i := 1184) (by decide +kernel), List.mem_of_getElem? (i := 1185) (by decide +kernel)⟩
theorem lw_p38 : lw_okq (⟨"RideLawsModel", "four", "(I)V"⟩, 43) := ⟨⟨by decide +kernel, by decide +kernel⟩, List.mem_of_getElem? (i := 1209) (by decide +kernel), List.mem_of_getElem? (i := 1207) (by decide +kernel), List.mem_of_getElem? (i := 1208) (by decide +kernel)⟩
theorem lw_p39 : lw_okq (⟨"RideLawsModel", "clears", "()V"⟩, 43) := ⟨⟨by decide +kernel, by decide +kernel⟩, List.mem_of_getElem? (i := 1209) (by decide +kernel), List.mem_of_getElem? (i := 1244) (by decide +kernel), List.mem_of_getElem? (i := 1245) (by decide +kernel)⟩
theorem lw_p40 : lw_okq (⟨"RideLawsModel", "taken", "(I)V"⟩, 43) := ⟨⟨by decide +kernel, by decide +kernel⟩, List.mem_of_getElem? (i := 1209) (by decide +kernel), List.mem_of_getElem? (i := 1383) (by decide +kernel), List.mem_of_getElem? (i := 1384) (by decide +kernel)⟩
theorem lw_p41 : lw_okq (⟨"RideLawsModel", "next", "()V"⟩, 43) := ⟨⟨by decide +kernel, by decide +kernel⟩, List.mem_of_getElem? (i := 1209) (by decide +kernel), List.mem_of_getElem? (i := 1387) (by decide +kernel), List.mem_of_getElem? (i := 1388) (by decide +kernel)⟩
theorem lw_p42 : lw_okq (⟨"RideLawsModel", "peek", "()I"⟩, 43) := ⟨⟨by decide +kernel, by decide +kernel⟩, List.mem_of_getElem? (i := 1209) (by decide +kernel), List.mem_of_getElem? (i := 1391) (by decide +kernel), List.mem_of_getElem? (i := 1392) (by decide +kernel)⟩
theorem lw_p43 : lw_okq (⟨"RideLawsModel", "readLine", "()Z"⟩, 43) := ⟨⟨by decide +kernel, by decide +kernel⟩, List.mem_of_getElem? (i := 1209) (by decide +kernel), List.mem_of_getElem? (i := 1401) (by decide +kernel), List.mem_of_getElem? (i := 1402) (by decide +kernel)⟩
theorem lw_p44 : lw_okq (⟨"RideLawsModel", "isWord", "(J)Z"⟩, 43) := ⟨⟨by decide +kernel, by decide +kernel⟩, List.mem_of_getElem? (i := 1209) (by decide +kernel), List.mem_of_getElem? (i := 1405) (by decide +kernel), List.mem_of_getElem? (i := 1406) (by decide +kernel)⟩
theorem lw_p45 : lw_okq (⟨"RideLawsModel", "readRing", "()Z"⟩, 43) := ⟨⟨by decide +kernel, by decide +kernel⟩, List.mem_of_getElem? (i := 1209) (by decide +kernel), List.mem_of_getElem? (i := 1409) (by decide +kernel), List.mem_of_getElem? (i := 1410) (by decide +kernel)⟩
theorem lw_p46 : lw_okq (⟨"RideLawsModel", "bad", "(I)Z"⟩, 43) := ⟨⟨by decide +kernel, by decide +kernel⟩, List.mem_of_getElem? (i := 1209) (by decide +kernel), List.mem_of_getElem? (i := 1413) (by decide +kernel), List.mem_of_getElem? (i := 1414) (by decide +kernel)⟩
theorem lw_p47 : lw_okq (⟨"RideLawsModel", "fresh", "(I)Z"⟩, 43) := ⟨⟨by decide +kernel, by decide +kernel⟩, List.mem_of_getElem? (i := 1209) (by decide +kernel), List.mem_of_getElem? (i := 1417) (by decide +kernel), List.mem_of_getElem? (i := 1418) (by decide +kernel)⟩
def lw_privs_3 : List (MethodName × Nat) := [(⟨"RideLaws$Sentence", "add", "(III)Z"⟩, 6), (⟨"RideLaws$Sentence", "readNamed", "(LRideLaws$Reader;LRideLaws$Plan;II)Z"⟩, 6), (⟨"RideLaws$Sentence", "readCompared", "(LRideLaws$Reader;I)Z"⟩, 6), (⟨"RideLaws$Sentence", "isTrue", "(ILRideLaws$State;I)Z"⟩, 6), (⟨"java/lang/Throwable", "fillInStackTrace", "(I)Ljava/lang/Throwable;"⟩, 6), (⟨"RideLaws$Outlook", "knownTo", "(I)I"⟩, 3), (⟨"RideLawsModel", "four", "(I)V"⟩, 43), (⟨"RideLawsModel", "clears", "()V"⟩, 43), (⟨"RideLawsModel", "taken", "(I)V"⟩, 43), (⟨"RideLawsModel", "next", "()V"⟩, 43), (⟨"RideLawsModel", "peek", "()I"⟩, 43), (⟨"RideLawsModel", "readLine", "()Z"⟩, 43), (⟨"RideLawsModel", "isWord", "(J)Z"⟩, 43), (⟨"RideLawsModel", "readRing", "()Z"⟩, 43), (⟨"RideLawsModel", "bad", "(I)Z"⟩, 43), (⟨"RideLawsModel", "fresh", "(I)Z"⟩, 43)]
theorem lw_r3 : ∀ q ∈ lw_privs_3, lw_okq q := List.forall_mem_cons.mpr ⟨lw_p32, List.forall_mem_cons.mpr ⟨lw_p33, List.forall_mem_cons.mpr ⟨lw_p34, List.forall_mem_cons.mpr ⟨lw_p35, List.forall_mem_cons.mpr ⟨lw_p36, List.forall_mem_cons.mpr ⟨lw_p37, List.forall_mem_cons.mpr ⟨lw_p38, List.forall_mem_cons.mpr ⟨lw_p39, List.forall_mem_cons.mpr ⟨lw_p40, List.forall_mem_cons.mpr ⟨lw_p41, List.forall_mem_cons.mpr ⟨lw_p42, List.forall_mem_cons.mpr ⟨lw_p43, List.forall_mem_cons.mpr ⟨lw_p44, List.forall_mem_cons.mpr ⟨lw_p45, List.forall_mem_cons.mpr ⟨lw_p46, List.forall_mem_cons.mpr ⟨lw_p47, fun _ h => absurd h List.not_mem_nil⟩⟩⟩⟩⟩⟩⟩⟩⟩⟩⟩⟩⟩⟩⟩⟩
theorem lw_p48 : lw_okq (⟨"RideLawsModel", "isName", "()Z"⟩, 43) := ⟨⟨by decide +kernel, by decide +kernel⟩, List.mem_of_getElem? (i := 1209) (by decide +kernel), List.mem_of_getElem? (i := 1421) (by decide +kernel), List.mem_of_getElem? (i := 1422) (by decide +kernel)⟩
theorem lw_p49 : lw_okq (⟨"RideLawsModel", "seek", "(II)I"⟩, 43) := ⟨⟨by decide +kernel, by decide +kernel⟩, List.mem_of_getElem? (i := 1209) (by decide +kernel), List.mem_of_getElem? (i := 1425) (by decide +kernel), List.mem_of_getElem? (i := 1426) (by decide +kernel)⟩
theorem lw_p50 : lw_okq (⟨"RideLawsModel", "puts", "(III)Z"⟩, 43) := ⟨⟨by decide +kernel, by decide +kernel⟩, List.mem_of_getElem? (i := 1209) (by decide +kernel), List.mem_of_getElem? (i := 1429) (by decide +kernel), List.mem_of_getElem? (i := 1430) (by decide +kernel)⟩
theorem lw_p51 : lw_okq (⟨"RideLawsModel", "takes", "(II)Z"⟩, 43) := ⟨⟨by decide +kernel, by decide +kernel⟩, List.mem_of_getElem? (i := 1209) (by decide +kernel), List.mem_of_getElem? (i := 1433) (by decide +kernel), List.mem_of_getElem? (i := 1434) (by decide +kernel)⟩
theorem lw_p52 : lw_okq (⟨"RideLawsModel", "readSeat", "()Z"⟩, 43) := ⟨⟨by decide +kernel, by decide +kernel⟩, List.mem_of_getElem? (i := 1209) (by decide +kernel), List.mem_of_getElem? (i := 1440) (by decide +kernel), List.mem_of_getElem? (i := 1441) (by decide +kernel)⟩
theorem lw_p53 : lw_okq (⟨"RideLawsModel", "takesName", "(II)Z"⟩, 43) := ⟨⟨by decide +kernel, by decide +kernel⟩, List.mem_of_getElem? (i := 1209) (by decide +kernel), List.mem_of_getElem? (i := 1444) (by decide +kernel), List.mem_of_getElem? (i := 1445) (by decide +kernel)⟩
theorem lw_p54 : lw_okq (⟨"RideLawsModel", "looksAt", "(II)Z"⟩, 43) := ⟨⟨by decide +kernel, by decide +kernel⟩, List.mem_of_getElem? (i := 1209) (by decide +kernel), List.mem_of_getElem? (i := 1448) (by decide +kernel), List.mem_of_getElem? (i := 1449) (by decide +kernel)⟩
theorem lw_p55 : lw_okq (⟨"RideLawsModel", "readWord", "()Z"⟩, 43) := ⟨⟨by decide +kernel, by decide +kernel⟩, List.mem_of_getElem? (i := 1209) (by decide +kernel), List.mem_of_getElem? (i := 1452) (by decide +kernel), List.mem_of_getElem? (i := 1453) (by decide +kernel)⟩
theorem lw_p56 : lw_okq (⟨"RideLawsModel", "readRider", "()Z"⟩, 43) := ⟨⟨by decide +kernel, by decide +kernel⟩, List.mem_of_getElem? (i := 1209) (by decide +kernel), List.mem_of_getElem? (i := 1456) (by decide +kernel), List.mem_of_getElem? (i := 1457) (by decide +kernel)⟩
theorem lw_p57 : lw_okq (⟨"RideLawsModel", "readSays", "()Z"⟩, 43) := ⟨⟨by decide +kernel, by decide +kernel⟩, List.mem_of_getElem? (i := 1209) (by decide +kernel), List.mem_of_getElem? (i := 1460) (by decide +kernel), List.mem_of_getElem? (i := 1461) (by decide +kernel)⟩
theorem lw_p58 : lw_okq (⟨"RideLawsModel", "readLaw", "()Z"⟩, 43) := ⟨⟨by decide +kernel, by decide +kernel⟩, List.mem_of_getElem? (i := 1209) (by decide +kernel), List.mem_of_getElem? (i := 1464) (by decide +kernel), List.mem_of_getElem? (i := 1465) (by decide +kernel)⟩
theorem lw_p59 : lw_okq (⟨"RideLawsModel", "readClash", "()Z"⟩, 43) := ⟨⟨by decide +kernel, by decide +kernel⟩, List.mem_of_getElem? (i := 1209) (by decide +kernel), List.mem_of_getElem? (i := 1468) (by decide +kernel), List.mem_of_getElem? (i := 1469) (by decide +kernel)⟩
theorem lw_p60 : lw_okq (⟨"RideLawsModel", "sign", "(I)Z"⟩, 43) := ⟨⟨by decide +kernel, by decide +kernel⟩, List.mem_of_getElem? (i := 1209) (by decide +kernel), List.mem_of_getElem? (i := 1475) (by decide +kernel), List.mem_of_getElem? (i := 1476) (by decide +kernel)⟩
theorem lw_p61 : lw_okq (⟨"RideLawsModel", "isSign", "(I)Z"⟩, 43) := ⟨⟨by decide +kernel, by decide +kernel⟩, List.mem_of_getElem? (i := 1209) (by decide +kernel), List.mem_of_getElem? (i := 1479) (by decide +kernel), List.mem_of_getElem? (i := 1480) (by decide +kernel)⟩
theorem lw_p62 : lw_okq (⟨"RideLawsModel", "isRider", "(I)Z"⟩, 43) := ⟨⟨by decide +kernel, by decide +kernel⟩, List.mem_of_getElem? (i := 1209) (by decide +kernel), List.mem_of_getElem? (i := 1491) (by decide +kernel), List.mem_of_getElem? (i := 1492) (by decide +kernel)⟩
theorem lw_p63 : lw_okq (⟨"RideLawsModel", "throwsIf", "(Z)Z"⟩, 43) := ⟨⟨by decide +kernel, by decide +kernel⟩, List.mem_of_getElem? (i := 1209) (by decide +kernel), List.mem_of_getElem? (i := 1495) (by decide +kernel), List.mem_of_getElem? (i := 1496) (by decide +kernel)⟩
def lw_privs_4 : List (MethodName × Nat) := [(⟨"RideLawsModel", "isName", "()Z"⟩, 43), (⟨"RideLawsModel", "seek", "(II)I"⟩, 43), (⟨"RideLawsModel", "puts", "(III)Z"⟩, 43), (⟨"RideLawsModel", "takes", "(II)Z"⟩, 43), (⟨"RideLawsModel", "readSeat", "()Z"⟩, 43), (⟨"RideLawsModel", "takesName", "(II)Z"⟩, 43), (⟨"RideLawsModel", "looksAt", "(II)Z"⟩, 43), (⟨"RideLawsModel", "readWord", "()Z"⟩, 43), (⟨"RideLawsModel", "readRider", "()Z"⟩, 43), (⟨"RideLawsModel", "readSays", "()Z"⟩, 43), (⟨"RideLawsModel", "readLaw", "()Z"⟩, 43), (⟨"RideLawsModel", "readClash", "()Z"⟩, 43), (⟨"RideLawsModel", "sign", "(I)Z"⟩, 43), (⟨"RideLawsModel", "isSign", "(I)Z"⟩, 43), (⟨"RideLawsModel", "isRider", "(I)Z"⟩, 43), (⟨"RideLawsModel", "throwsIf", "(Z)Z"⟩, 43)]
theorem lw_r4 : ∀ q ∈ lw_privs_4, lw_okq q := List.forall_mem_cons.mpr ⟨lw_p48, List.forall_mem_cons.mpr ⟨lw_p49, List.forall_mem_cons.mpr ⟨lw_p50, List.forall_mem_cons.mpr ⟨lw_p51, List.forall_mem_cons.mpr ⟨lw_p52, List.forall_mem_cons.mpr ⟨lw_p53, List.forall_mem_cons.mpr ⟨lw_p54, List.forall_mem_cons.mpr ⟨lw_p55, List.forall_mem_cons.mpr ⟨lw_p56, List.forall_mem_cons.mpr ⟨lw_p57, List.forall_mem_cons.mpr ⟨lw_p58, List.forall_mem_cons.mpr ⟨lw_p59, List.forall_mem_cons.mpr ⟨lw_p60, List.forall_mem_cons.mpr ⟨lw_p61, List.forall_mem_cons.mpr ⟨lw_p62, List.forall_mem_cons.mpr ⟨lw_p63, fun _ h => absurd h List.not_mem_nil⟩⟩⟩⟩⟩⟩⟩⟩⟩⟩⟩⟩⟩⟩⟩⟩
theorem lw_p64 : lw_okq (⟨"RideLawsModel", "nextWord", "(I)I"⟩, 43) := ⟨⟨by decide +kernel, by decide +kernel⟩, List.mem_of_getElem? (i := 1209) (by decide +kernel), List.mem_of_getElem? (i := 1499) (by decide +kernel), List.mem_of_getElem? (i := 1500) (by decide +kernel)⟩
theorem lw_p65 : lw_okq (⟨"RideLawsModel", "knownTo", "(I)I"⟩, 43) := ⟨⟨by decide +kernel, by decide +kernel⟩, List.mem_of_getElem? (i := 1209) (by decide +kernel), List.mem_of_getElem? (i := 1503) (by decide +kernel), List.mem_of_getElem? (i := 1504) (by decide +kernel)⟩
theorem lw_p66 : lw_okq (⟨"RideLawsModel", "isSeat", "(I)Z"⟩, 43) := ⟨⟨by decide +kernel, by decide +kernel⟩, List.mem_of_getElem? (i := 1209) (by decide +kernel), List.mem_of_getElem? (i := 1515) (by decide +kernel), List.mem_of_getElem? (i := 1516) (by decide +kernel)⟩
theorem lw_p67 : lw_okq (⟨"RideLawsModel", "riderOn", "(I)I"⟩, 43) := ⟨⟨by decide +kernel, by decide +kernel⟩, List.mem_of_getElem? (i := 1209) (by decide +kernel), List.mem_of_getElem? (i := 1519) (by decide +kernel), List.mem_of_getElem? (i := 1520) (by decide +kernel)⟩
theorem lw_p68 : lw_okq (⟨"RideLawsModel", "isLaw", "(I)Z"⟩, 43) := ⟨⟨by decide +kernel, by decide +kernel⟩, List.mem_of_getElem? (i := 1209) (by decide +kernel), List.mem_of_getElem? (i := 1527) (by decide +kernel), List.mem_of_getElem? (i := 1528) (by decide +kernel)⟩
theorem lw_p69 : lw_okq (⟨"RideLawsModel", "saidInAll", "()I"⟩, 43) := ⟨⟨by decide +kernel, by decide +kernel⟩, List.mem_of_getElem? (i := 1209) (by decide +kernel), List.mem_of_getElem? (i := 1535) (by decide +kernel), List.mem_of_getElem? (i := 1536) (by decide +kernel)⟩
theorem lw_p70 : lw_okq (⟨"RideLawsModel", "whyMount", "(II)I"⟩, 43) := ⟨⟨by decide +kernel, by decide +kernel⟩, List.mem_of_getElem? (i := 1209) (by decide +kernel), List.mem_of_getElem? (i := 1543) (by decide +kernel), List.mem_of_getElem? (i := 1544) (by decide +kernel)⟩
theorem lw_p71 : lw_okq (⟨"RideLawsModel", "keep", "()V"⟩, 43) := ⟨⟨by decide +kernel, by decide +kernel⟩, List.mem_of_getElem? (i := 1209) (by decide +kernel), List.mem_of_getElem? (i := 1547) (by decide +kernel), List.mem_of_getElem? (i := 1548) (by decide +kernel)⟩
theorem lw_p72 : lw_okq (⟨"RideLawsModel", "whyLearn", "(I)I"⟩, 43) := ⟨⟨by decide +kernel, by decide +kernel⟩, List.mem_of_getElem? (i := 1209) (by decide +kernel), List.mem_of_getElem? (i := 1559) (by decide +kernel), List.mem_of_getElem? (i := 1560) (by decide +kernel)⟩
theorem lw_p73 : lw_okq (⟨"RideLawsModel", "learns", "(II)V"⟩, 43) := ⟨⟨by decide +kernel, by decide +kernel⟩, List.mem_of_getElem? (i := 1209) (by decide +kernel), List.mem_of_getElem? (i := 1563) (by decide +kernel), List.mem_of_getElem? (i := 1564) (by decide +kernel)⟩
theorem lw_p74 : lw_okq (⟨"RideLawsModel", "whyWhistle", "()I"⟩, 43) := ⟨⟨by decide +kernel, by decide +kernel⟩, List.mem_of_getElem? (i := 1209) (by decide +kernel), List.mem_of_getElem? (i := 1571) (by decide +kernel), List.mem_of_getElem? (i := 1572) (by decide +kernel)⟩
theorem lw_p75 : lw_okq (⟨"RideLawsModel", "blows", "()V"⟩, 43) := ⟨⟨by decide +kernel, by decide +kernel⟩, List.mem_of_getElem? (i := 1209) (by decide +kernel), List.mem_of_getElem? (i := 1575) (by decide +kernel), List.mem_of_getElem? (i := 1576) (by decide +kernel)⟩
theorem lw_p76 : lw_okq (⟨"RideLawsModel", "goesOn", "(I)I"⟩, 43) := ⟨⟨by decide +kernel, by decide +kernel⟩, List.mem_of_getElem? (i := 1209) (by decide +kernel), List.mem_of_getElem? (i := 1583) (by decide +kernel), List.mem_of_getElem? (i := 1584) (by decide +kernel)⟩
theorem lw_p77 : lw_okq (⟨"RideLawsModel", "tick", "()V"⟩, 43) := ⟨⟨by decide +kernel, by decide +kernel⟩, List.mem_of_getElem? (i := 1209) (by decide +kernel), List.mem_of_getElem? (i := 1587) (by decide +kernel), List.mem_of_getElem? (i := 1588) (by decide +kernel)⟩
theorem lw_p78 : lw_okq (⟨"RideLawsModel", "saysOne", "(I)V"⟩, 43) := ⟨⟨by decide +kernel, by decide +kernel⟩, List.mem_of_getElem? (i := 1209) (by decide +kernel), List.mem_of_getElem? (i := 1591) (by decide +kernel), List.mem_of_getElem? (i := 1592) (by decide +kernel)⟩
theorem lw_p79 : lw_okq (⟨"RideLawsModel", "stepIn", "(II)I"⟩, 43) := ⟨⟨by decide +kernel, by decide +kernel⟩, List.mem_of_getElem? (i := 1209) (by decide +kernel), List.mem_of_getElem? (i := 1603) (by decide +kernel), List.mem_of_getElem? (i := 1604) (by decide +kernel)⟩
def lw_privs_5 : List (MethodName × Nat) := [(⟨"RideLawsModel", "nextWord", "(I)I"⟩, 43), (⟨"RideLawsModel", "knownTo", "(I)I"⟩, 43), (⟨"RideLawsModel", "isSeat", "(I)Z"⟩, 43), (⟨"RideLawsModel", "riderOn", "(I)I"⟩, 43), (⟨"RideLawsModel", "isLaw", "(I)Z"⟩, 43), (⟨"RideLawsModel", "saidInAll", "()I"⟩, 43), (⟨"RideLawsModel", "whyMount", "(II)I"⟩, 43), (⟨"RideLawsModel", "keep", "()V"⟩, 43), (⟨"RideLawsModel", "whyLearn", "(I)I"⟩, 43), (⟨"RideLawsModel", "learns", "(II)V"⟩, 43), (⟨"RideLawsModel", "whyWhistle", "()I"⟩, 43), (⟨"RideLawsModel", "blows", "()V"⟩, 43), (⟨"RideLawsModel", "goesOn", "(I)I"⟩, 43), (⟨"RideLawsModel", "tick", "()V"⟩, 43), (⟨"RideLawsModel", "saysOne", "(I)V"⟩, 43), (⟨"RideLawsModel", "stepIn", "(II)I"⟩, 43)]
theorem lw_r5 : ∀ q ∈ lw_privs_5, lw_okq q := List.forall_mem_cons.mpr ⟨lw_p64, List.forall_mem_cons.mpr ⟨lw_p65, List.forall_mem_cons.mpr ⟨lw_p66, List.forall_mem_cons.mpr ⟨lw_p67, List.forall_mem_cons.mpr ⟨lw_p68, List.forall_mem_cons.mpr ⟨lw_p69, List.forall_mem_cons.mpr ⟨lw_p70, List.forall_mem_cons.mpr ⟨lw_p71, List.forall_mem_cons.mpr ⟨lw_p72, List.forall_mem_cons.mpr ⟨lw_p73, List.forall_mem_cons.mpr ⟨lw_p74, List.forall_mem_cons.mpr ⟨lw_p75, List.forall_mem_cons.mpr ⟨lw_p76, List.forall_mem_cons.mpr ⟨lw_p77, List.forall_mem_cons.mpr ⟨lw_p78, List.forall_mem_cons.mpr ⟨lw_p79, fun _ h => absurd h List.not_mem_nil⟩⟩⟩⟩⟩⟩⟩⟩⟩⟩⟩⟩⟩⟩⟩⟩
theorem lw_p80 : lw_okq (⟨"RideLawsModel", "tries", "()V"⟩, 43) := ⟨⟨by decide +kernel, by decide +kernel⟩, List.mem_of_getElem? (i := 1209) (by decide +kernel), List.mem_of_getElem? (i := 1615) (by decide +kernel), List.mem_of_getElem? (i := 1616) (by decide +kernel)⟩
theorem lw_p81 : lw_okq (⟨"RideLawsModel", "holdsIn", "(III)I"⟩, 43) := ⟨⟨by decide +kernel, by decide +kernel⟩, List.mem_of_getElem? (i := 1209) (by decide +kernel), List.mem_of_getElem? (i := 1619) (by decide +kernel), List.mem_of_getElem? (i := 1620) (by decide +kernel)⟩
theorem lw_p82 : lw_okq (⟨"RideLawsModel", "back", "()V"⟩, 43) := ⟨⟨by decide +kernel, by decide +kernel⟩, List.mem_of_getElem? (i := 1209) (by decide +kernel), List.mem_of_getElem? (i := 1623) (by decide +kernel), List.mem_of_getElem? (i := 1624) (by decide +kernel)⟩
theorem lw_p83 : lw_okq (⟨"RideLawsModel", "needOf", "(I)I"⟩, 43) := ⟨⟨by decide +kernel, by decide +kernel⟩, List.mem_of_getElem? (i := 1209) (by decide +kernel), List.mem_of_getElem? (i := 1643) (by decide +kernel), List.mem_of_getElem? (i := 1644) (by decide +kernel)⟩
theorem lw_p84 : lw_okq (⟨"RideLawsModel", "knownToAll", "(I)I"⟩, 43) := ⟨⟨by decide +kernel, by decide +kernel⟩, List.mem_of_getElem? (i := 1209) (by decide +kernel), List.mem_of_getElem? (i := 1651) (by decide +kernel), List.mem_of_getElem? (i := 1652) (by decide +kernel)⟩
theorem lw_p85 : lw_okq (⟨"RideLawsModel", "spells", "(J)V"⟩, 43) := ⟨⟨by decide +kernel, by decide +kernel⟩, List.mem_of_getElem? (i := 1209) (by decide +kernel), List.mem_of_getElem? (i := 1681) (by decide +kernel), List.mem_of_getElem? (i := 1682) (by decide +kernel)⟩
theorem lw_p86 : lw_okq (⟨"RideLawsModel", "lays", "(I)V"⟩, 43) := ⟨⟨by decide +kernel, by decide +kernel⟩, List.mem_of_getElem? (i := 1209) (by decide +kernel), List.mem_of_getElem? (i := 1686) (by decide +kernel), List.mem_of_getElem? (i := 1687) (by decide +kernel)⟩
theorem lw_p87 : lw_okq (⟨"RideLawsModel", "says", "(J)V"⟩, 43) := ⟨⟨by decide +kernel, by decide +kernel⟩, List.mem_of_getElem? (i := 1209) (by decide +kernel), List.mem_of_getElem? (i := 1690) (by decide +kernel), List.mem_of_getElem? (i := 1691) (by decide +kernel)⟩
theorem lw_p88 : lw_okq (⟨"RideLawsModel", "draws", "(II)I"⟩, 43) := ⟨⟨by decide +kernel, by decide +kernel⟩, List.mem_of_getElem? (i := 1209) (by decide +kernel), List.mem_of_getElem? (i := 1704) (by decide +kernel), List.mem_of_getElem? (i := 1705) (by decide +kernel)⟩
theorem lw_p89 : lw_okq (⟨"RideLawsModel", "drawTick", "()V"⟩, 43) := ⟨⟨by decide +kernel, by decide +kernel⟩, List.mem_of_getElem? (i := 1209) (by decide +kernel), List.mem_of_getElem? (i := 1708) (by decide +kernel), List.mem_of_getElem? (i := 1709) (by decide +kernel)⟩
theorem lw_p90 : lw_okq (⟨"RideLawsModel", "draw", "(I)I"⟩, 43) := ⟨⟨by decide +kernel, by decide +kernel⟩, List.mem_of_getElem? (i := 1209) (by decide +kernel), List.mem_of_getElem? (i := 1712) (by decide +kernel), List.mem_of_getElem? (i := 1713) (by decide +kernel)⟩
theorem lw_p91 : lw_okq (⟨"RideLawsModel", "bookLine", "()Z"⟩, 43) := ⟨⟨by decide +kernel, by decide +kernel⟩, List.mem_of_getElem? (i := 1209) (by decide +kernel), List.mem_of_getElem? (i := 1725) (by decide +kernel), List.mem_of_getElem? (i := 1726) (by decide +kernel)⟩
theorem lw_p92 : lw_okq (⟨"RideLawsModel", "does", "(III)I"⟩, 43) := ⟨⟨by decide +kernel, by decide +kernel⟩, List.mem_of_getElem? (i := 1209) (by decide +kernel), List.mem_of_getElem? (i := 1729) (by decide +kernel), List.mem_of_getElem? (i := 1730) (by decide +kernel)⟩
theorem lw_p93 : lw_okq (⟨"RideLawsModel", "nots", "()V"⟩, 43) := ⟨⟨by decide +kernel, by decide +kernel⟩, List.mem_of_getElem? (i := 1209) (by decide +kernel), List.mem_of_getElem? (i := 1741) (by decide +kernel), List.mem_of_getElem? (i := 1742) (by decide +kernel)⟩
theorem lw_p94 : lw_okq (⟨"RideLawsModel", "code", "(III)V"⟩, 43) := ⟨⟨by decide +kernel, by decide +kernel⟩, List.mem_of_getElem? (i := 1209) (by decide +kernel), List.mem_of_getElem? (i := 1745) (by decide +kernel), List.mem_of_getElem? (i := 1746) (by decide +kernel)⟩
theorem lw_p95 : lw_okq (⟨"RideLawsModel", "joins", "(I)V"⟩, 43) := ⟨⟨by decide +kernel, by decide +kernel⟩, List.mem_of_getElem? (i := 1209) (by decide +kernel), List.mem_of_getElem? (i := 1749) (by decide +kernel), List.mem_of_getElem? (i := 1750) (by decide +kernel)⟩
def lw_privs_6 : List (MethodName × Nat) := [(⟨"RideLawsModel", "tries", "()V"⟩, 43), (⟨"RideLawsModel", "holdsIn", "(III)I"⟩, 43), (⟨"RideLawsModel", "back", "()V"⟩, 43), (⟨"RideLawsModel", "needOf", "(I)I"⟩, 43), (⟨"RideLawsModel", "knownToAll", "(I)I"⟩, 43), (⟨"RideLawsModel", "spells", "(J)V"⟩, 43), (⟨"RideLawsModel", "lays", "(I)V"⟩, 43), (⟨"RideLawsModel", "says", "(J)V"⟩, 43), (⟨"RideLawsModel", "draws", "(II)I"⟩, 43), (⟨"RideLawsModel", "drawTick", "()V"⟩, 43), (⟨"RideLawsModel", "draw", "(I)I"⟩, 43), (⟨"RideLawsModel", "bookLine", "()Z"⟩, 43), (⟨"RideLawsModel", "does", "(III)I"⟩, 43), (⟨"RideLawsModel", "nots", "()V"⟩, 43), (⟨"RideLawsModel", "code", "(III)V"⟩, 43), (⟨"RideLawsModel", "joins", "(I)V"⟩, 43)]
theorem lw_r6 : ∀ q ∈ lw_privs_6, lw_okq q := List.forall_mem_cons.mpr ⟨lw_p80, List.forall_mem_cons.mpr ⟨lw_p81, List.forall_mem_cons.mpr ⟨lw_p82, List.forall_mem_cons.mpr ⟨lw_p83, List.forall_mem_cons.mpr ⟨lw_p84, List.forall_mem_cons.mpr ⟨lw_p85, List.forall_mem_cons.mpr ⟨lw_p86, List.forall_mem_cons.mpr ⟨lw_p87, List.forall_mem_cons.mpr ⟨lw_p88, List.forall_mem_cons.mpr ⟨lw_p89, List.forall_mem_cons.mpr ⟨lw_p90, List.forall_mem_cons.mpr ⟨lw_p91, List.forall_mem_cons.mpr ⟨lw_p92, List.forall_mem_cons.mpr ⟨lw_p93, List.forall_mem_cons.mpr ⟨lw_p94, List.forall_mem_cons.mpr ⟨lw_p95, fun _ h => absurd h List.not_mem_nil⟩⟩⟩⟩⟩⟩⟩⟩⟩⟩⟩⟩⟩⟩⟩⟩
theorem lw_p96 : lw_okq (⟨"RideLawsModel", "behind", "()Z"⟩, 43) := ⟨⟨by decide +kernel, by decide +kernel⟩, List.mem_of_getElem? (i := 1209) (by decide +kernel), List.mem_of_getElem? (i := 1753) (by decide +kernel), List.mem_of_getElem? (i := 1754) (by decide +kernel)⟩
theorem lw_p97 : lw_okq (⟨"RideLawsModel", "operand", "()Z"⟩, 43) := ⟨⟨by decide +kernel, by decide +kernel⟩, List.mem_of_getElem? (i := 1209) (by decide +kernel), List.mem_of_getElem? (i := 1757) (by decide +kernel), List.mem_of_getElem? (i := 1758) (by decide +kernel)⟩
theorem lw_p98 : lw_okq (⟨"RideLawsModel", "leafOf", "()I"⟩, 43) := ⟨⟨by decide +kernel, by decide +kernel⟩, List.mem_of_getElem? (i := 1209) (by decide +kernel), List.mem_of_getElem? (i := 1761) (by decide +kernel), List.mem_of_getElem? (i := 1762) (by decide +kernel)⟩
theorem lw_p99 : lw_okq (⟨"RideLawsModel", "isSaid", "(I)Z"⟩, 43) := ⟨⟨by decide +kernel, by decide +kernel⟩, List.mem_of_getElem? (i := 1209) (by decide +kernel), List.mem_of_getElem? (i := 1769) (by decide +kernel), List.mem_of_getElem? (i := 1770) (by decide +kernel)⟩
theorem lw_p100 : lw_okq (⟨"RideLawsModel", "isLeaf", "(IIII)Z"⟩, 43) := ⟨⟨by decide +kernel, by decide +kernel⟩, List.mem_of_getElem? (i := 1209) (by decide +kernel), List.mem_of_getElem? (i := 1773) (by decide +kernel), List.mem_of_getElem? (i := 1774) (by decide +kernel)⟩
def lw_privs_7 : List (MethodName × Nat) := [(⟨"RideLawsModel", "behind", "()Z"⟩, 43), (⟨"RideLawsModel", "operand", "()Z"⟩, 43), (⟨"RideLawsModel", "leafOf", "()I"⟩, 43), (⟨"RideLawsModel", "isSaid", "(I)Z"⟩, 43), (⟨"RideLawsModel", "isLeaf", "(IIII)Z"⟩, 43)]
theorem lw_r7 : ∀ q ∈ lw_privs_7, lw_okq q := List.forall_mem_cons.mpr ⟨lw_p96, List.forall_mem_cons.mpr ⟨lw_p97, List.forall_mem_cons.mpr ⟨lw_p98, List.forall_mem_cons.mpr ⟨lw_p99, List.forall_mem_cons.mpr ⟨lw_p100, fun _ h => absurd h List.not_mem_nil⟩⟩⟩⟩⟩
def lw_privs : List (MethodName × Nat) := lw_privs_1 ++ (lw_privs_2 ++ (lw_privs_3 ++ (lw_privs_4 ++ (lw_privs_5 ++ (lw_privs_6 ++ (lw_privs_7))))))
def lw_tbl : List Cond := k2_sels lw_privs ++ tables_1
theorem lw_privs_ok : ∀ q ∈ lw_privs, lw_okq q := by
  show ∀ q ∈ lw_privs_1 ++ (lw_privs_2 ++ (lw_privs_3 ++ (lw_privs_4 ++ (lw_privs_5 ++ (lw_privs_6 ++ (lw_privs_7)))))), lw_okq q
  exact List.forall_mem_append.mpr ⟨lw_r1, List.forall_mem_append.mpr ⟨lw_r2, List.forall_mem_append.mpr ⟨lw_r3, List.forall_mem_append.mpr ⟨lw_r4, List.forall_mem_append.mpr ⟨lw_r5, List.forall_mem_append.mpr ⟨lw_r6, lw_r7⟩⟩⟩⟩⟩⟩
-- ===== end of PART A; then your names; then what follows =====
/-! THE CLAIM OUT OF ONE WALK OF THE LAW'S BODY. Your part is whole_start (and what it stands on); all else here is the same for every law, but numbers. -/
def R_law : String := "RideLawsLaw"
def lw_P (b : Addr) (xs : List Int32) (args : Array Value) (s : State) : Prop := args = #[.ref b] ∧ s.IntsAt b xs ∧ xs.length ≤ 6 ∧ (Jvm.Cond.and given_1 narrow_1).before args s = true
def lw_Q (_ : Array Value) (s : State) (o : Outcome) (t : State) : Prop := o = .returned (some (.int 1)) ∧ Framed s o t [] 600002 7302232
def lw_Z (below : List Frame) (a : Array Value) (s : State) : State → Prop := fun t => ∃ o, t.status = .running ∧ Ended t below o ∧ lw_Q a s o t
/-- the law's own end, with 1 on the stack, nothing written that was there before, its room as the claim has it -/
theorem lw_ret {p : Program} {l : Launch} {e : Env} {s : State} {m : MethodId} {below : List Frame} {meth : Method} {c : Code} {b : Nat} (hx : p.tables.exec = Jvm.exec) (hb : c.code = code) (hr : meth.sig.returnType = ret) (hlocks : meth.locks = false) {pc : Nat} {H : Heap} {ls : Array Slot} (hdg : decode code pc = .ok (.ireturn, 1)) : W p l e room_1 s m #[Value.ref b] below meth c H [] 600002 7302232 (lw_Z below #[Value.ref b] s) (F0 m pc ls [.int 1]) := by
  intro T hT X
  obtain ⟨fs, hret, hrun, hended, hW, hframe⟩ := X.leave (v := some (.int 1)) (hlocks := hlocks) (fun h => by rw [hr] at h; cases h)
  have hmeth' : T.vm.method? m = some meth := X.method'
  refine ⟨T.setFrames fs, ?_, .returned (some (.int 1)), hrun, hended, rfl, ⟨_, rfl⟩, hW, hframe⟩
  jvm_step X.here [X.here.top, hx, hb, hdg, hmeth', hr, ret, narrow_b1]
  (try refine ⟨rfl, ?_⟩); (try refine ⟨rfl, ?_⟩)
  first | (intro acts; rw [hret _ acts rfl rfl rfl]) | rw [hret _ _ rfl rfl rfl]
  exact Steps.refl _
/-- what holds at the law's entry: the machine, the code, the tables' words (any of lw_tbl by 'hts w (by decide +kernel)'), the script of L ints xs at the cell b, what the Statement gives of the start (any of its parts by flat_of_before) -/
def lw_At (p : Program) (s : State) (m : MethodId) (meth : Method) (c : Code) (b L : Nat) (xs : Nat → Int32) : Prop :=
  p.tables.exec = Jvm.exec ∧ c.code = code ∧ meth.sig.returnType = ret ∧ c.maxLocals = 7 ∧ s.vm.findClass R_law = some m.cls ∧ (∀ w ∈ lw_tbl, w.before #[Value.ref b] s = true) ∧ va_X b L xs s s.heap ∧ b < s.heap.size ∧ meth.locks = false ∧ (Jvm.Cond.and given_1 narrow_1).before #[Value.ref b] s = true
end
section
def g_T0 : u_T := fun k => match k with
  | 0 => ("RideLaws", "reader", "LRideLaws$Reader;", true)
  | 1 => ("RideLaws", "scene", "LRideLaws$Scene;", true)
  | 2 => ("RideLaws", "draft", "LRideLaws$Scene;", true)
  | 3 => ("RideLaws", "firstImage", "LRideLaws$Scene;", true)
  | 4 => ("RideLaws", "secondImage", "LRideLaws$Scene;", true)
  | 5 => ("RideLaws", "history", "LRideLaws$History;", true)
  | 6 => ("RideLaws", "rideText", "LRideLaws$RideText;", true)
  | 7 => ("RideLaws", "bookText", "LRideLaws$BookText;", true)
  | 8 => ("RideLaws", "outlook", "LRideLaws$Outlook;", true)
  | 9 => ("RideLaws", "draws", "LRideLaws$Draws;", true)
  | 10 => ("RideLaws", "spelled", "LRideLaws$Line;", true)
  | 11 => ("RideLaws", "toldLast", "[I", true)
  | 12 => ("RideLaws", "faultLast", "I", false)
  | 13 => ("RideLaws", "aimedSeat", "I", false)
  | _ => ("RideLaws", "stoodLast", "I", false)
def g_Y0 : Nat → FieldType := fun k => match k with
  | 0 => .object "RideLaws$Reader"
  | 1 => .object "RideLaws$Scene"
  | 2 => .object "RideLaws$Scene"
  | 3 => .object "RideLaws$Scene"
  | 4 => .object "RideLaws$Scene"
  | 5 => .object "RideLaws$History"
  | 6 => .object "RideLaws$RideText"
  | 7 => .object "RideLaws$BookText"
  | 8 => .object "RideLaws$Outlook"
  | 9 => .object "RideLaws$Draws"
  | 10 => .object "RideLaws$Line"
  | 11 => .array .int
  | 12 => .int
  | 13 => .int
  | _ => .int
def g_T1 : u_T := fun k => match k with
  | 0 => ("RideLaws$Reader", "bytes", "[B", true)
  | 1 => ("RideLaws$Reader", "keywords", "[J", true)
  | 2 => ("RideLaws$Reader", "size", "I", false)
  | 3 => ("RideLaws$Reader", "most", "I", false)
  | 4 => ("RideLaws$Reader", "ahead", "I", false)
  | 5 => ("RideLaws$Reader", "kind", "I", false)
  | 6 => ("RideLaws$Reader", "place", "I", false)
  | 7 => ("RideLaws$Reader", "value", "I", false)
  | 8 => ("RideLaws$Reader", "name", "J", false)
  | 9 => ("RideLaws$Reader", "fault", "I", false)
  | _ => ("RideLaws$Reader", "faultPlace", "I", false)
def g_Y1 : Nat → FieldType := fun k => match k with
  | 0 => .array .byte
  | 1 => .array .long
  | 2 => .int
  | 3 => .int
  | 4 => .int
  | 5 => .int
  | 6 => .int
  | 7 => .int
  | 8 => .long
  | 9 => .int
  | _ => .int
def g_T2 : u_T := fun k => match k with
  | 0 => ("RideLaws$Scene", "plan", "LRideLaws$Plan;", true)
  | 1 => ("RideLaws$Scene", "state", "LRideLaws$State;", true)
  | 2 => ("RideLaws$Scene", "sentence", "LRideLaws$Sentence;", true)
  | _ => ("RideLaws$Scene", "kept", "Z", false)
def g_Y2 : Nat → FieldType := fun k => match k with
  | 0 => .object "RideLaws$Plan"
  | 1 => .object "RideLaws$State"
  | 2 => .object "RideLaws$Sentence"
  | _ => .boolean
def g_T3 : u_T := fun k => match k with
  | 0 => ("RideLaws$Plan", "counts", "[I", true)
  | 1 => ("RideLaws$Plan", "names", "[J", true)
  | 2 => ("RideLaws$Plan", "steps", "[I", true)
  | 3 => ("RideLaws$Plan", "speed", "[I", true)
  | 4 => ("RideLaws$Plan", "seatRing", "[I", true)
  | 5 => ("RideLaws$Plan", "seatStride", "[I", true)
  | 6 => ("RideLaws$Plan", "seatSteps", "[I", true)
  | 7 => ("RideLaws$Plan", "lawFirst", "[I", true)
  | 8 => ("RideLaws$Plan", "lawSecond", "[I", true)
  | 9 => ("RideLaws$Plan", "clashes", "[I", true)
  | _ => ("RideLaws$Plan", "lawOf", "[I", true)
def g_Y3 : Nat → FieldType := fun k => match k with
  | 0 => .array .int
  | 1 => .array .long
  | 2 => .array .int
  | 3 => .array .int
  | 4 => .array .int
  | 5 => .array .int
  | 6 => .array .int
  | 7 => .array .int
  | 8 => .array .int
  | 9 => .array .int
  | _ => .array .int
def g_T4 : u_T := fun k => match k with
  | 0 => ("RideLaws$State", "tick", "I", false)
  | 1 => ("RideLaws$State", "latest", "I", false)
  | 2 => ("RideLaws$State", "latestBy", "I", false)
  | 3 => ("RideLaws$State", "holding", "I", false)
  | 4 => ("RideLaws$State", "spoken", "I", false)
  | 5 => ("RideLaws$State", "whistles", "I", false)
  | 6 => ("RideLaws$State", "at", "[I", true)
  | 7 => ("RideLaws$State", "sitter", "[I", true)
  | 8 => ("RideLaws$State", "seatOf", "[I", true)
  | 9 => ("RideLaws$State", "rollLength", "[I", true)
  | 10 => ("RideLaws$State", "rolls", "[I", true)
  | 11 => ("RideLaws$State", "next", "[I", true)
  | 12 => ("RideLaws$State", "saidBy", "[I", true)
  | _ => ("RideLaws$State", "heldOften", "[I", true)
def g_Y4 : Nat → FieldType := fun k => match k with
  | 0 => .int
  | 1 => .int
  | 2 => .int
  | 3 => .int
  | 4 => .int
  | 5 => .int
  | 6 => .array .int
  | 7 => .array .int
  | 8 => .array .int
  | 9 => .array .int
  | 10 => .array .int
  | 11 => .array .int
  | 12 => .array .int
  | _ => .array .int
def g_T5 : u_T := fun k => match k with
  | 0 => ("RideLaws$Sentence", "keys", "[I", true)
  | 1 => ("RideLaws$Sentence", "signs", "[I", true)
  | 2 => ("RideLaws$Sentence", "values", "[I", true)
  | 3 => ("RideLaws$Sentence", "size", "I", false)
  | 4 => ("RideLaws$Sentence", "ones", "I", false)
  | _ => ("RideLaws$Sentence", "there", "Z", false)
def g_Y5 : Nat → FieldType := fun k => match k with
  | 0 => .array .int
  | 1 => .array .int
  | 2 => .array .int
  | 3 => .int
  | 4 => .int
  | _ => .boolean
def g_T6 : u_T := fun k => match k with
  | 0 => ("RideLaws$History", "before", "[LRideLaws$State;", true)
  | _ => ("RideLaws$History", "size", "I", false)
def g_Y6 : Nat → FieldType := fun k => match k with
  | 0 => .array (.object "RideLaws$State")
  | _ => .int
def g_T7 : u_T := fun k => match k with
  | 0 => ("RideLaws$RideText", "reader", "LRideLaws$Reader;", true)
  | 1 => ("RideLaws$RideText", "plan", "LRideLaws$Plan;", true)
  | _ => ("RideLaws$RideText", "state", "LRideLaws$State;", true)
def g_Y7 : Nat → FieldType := fun k => match k with
  | 0 => .object "RideLaws$Reader"
  | 1 => .object "RideLaws$Plan"
  | _ => .object "RideLaws$State"
def g_T8 : u_T := fun k => match k with
  | 0 => ("RideLaws$BookText", "reader", "LRideLaws$Reader;", true)
  | 1 => ("RideLaws$BookText", "plan", "LRideLaws$Plan;", true)
  | 2 => ("RideLaws$BookText", "acts", "[I", true)
  | 3 => ("RideLaws$BookText", "riders", "[I", true)
  | 4 => ("RideLaws$BookText", "values", "[I", true)
  | 5 => ("RideLaws$BookText", "size", "I", false)
  | _ => ("RideLaws$BookText", "lived", "I", false)
def g_Y8 : Nat → FieldType := fun k => match k with
  | 0 => .object "RideLaws$Reader"
  | 1 => .object "RideLaws$Plan"
  | 2 => .array .int
  | 3 => .array .int
  | 4 => .array .int
  | 5 => .int
  | _ => .int
def g_T9 : u_T := fun k => match k with
  | 0 => ("RideLaws$Outlook", "plan", "LRideLaws$Plan;", true)
  | 1 => ("RideLaws$Outlook", "state", "LRideLaws$State;", true)
  | _ => ("RideLaws$Outlook", "trial", "LRideLaws$State;", true)
def g_Y9 : Nat → FieldType := fun k => match k with
  | 0 => .object "RideLaws$Plan"
  | 1 => .object "RideLaws$State"
  | _ => .object "RideLaws$State"
def g_T10 : u_T := fun k => match k with
  | _ => ("RideLaws$Draws", "seed", "I", false)
def g_Y10 : Nat → FieldType := fun k => match k with
  | _ => .int
def g_T11 : u_T := fun k => match k with
  | 0 => ("RideLaws$Line", "bytes", "[B", true)
  | _ => ("RideLaws$Line", "size", "I", false)
def g_Y11 : Nat → FieldType := fun k => match k with
  | 0 => .array .byte
  | _ => .int
def g_T12 : u_T := fun k => match k with
  | 0 => ("RideLawsModel", "thrown", "I", false)
  | 1 => ("RideLawsModel", "tape", "[B", true)
  | 2 => ("RideLawsModel", "length", "I", false)
  | 3 => ("RideLawsModel", "size", "I", false)
  | 4 => ("RideLawsModel", "p", "I", false)
  | 5 => ("RideLawsModel", "limit", "I", false)
  | 6 => ("RideLawsModel", "s", "[I", true)
  | 7 => ("RideLawsModel", "h", "[I", true)
  | 8 => ("RideLawsModel", "read", "[I", true)
  | 9 => ("RideLawsModel", "names", "[J", true)
  | 10 => ("RideLawsModel", "reserved", "[J", true)
  | 11 => ("RideLawsModel", "token", "I", false)
  | 12 => ("RideLawsModel", "at", "I", false)
  | 13 => ("RideLawsModel", "span", "I", false)
  | 14 => ("RideLawsModel", "number", "I", false)
  | 15 => ("RideLawsModel", "fault", "I", false)
  | 16 => ("RideLawsModel", "faultAt", "I", false)
  | 17 => ("RideLawsModel", "word", "J", false)
  | 18 => ("RideLawsModel", "got", "I", false)
  | 19 => ("RideLawsModel", "lines", "I", false)
  | 20 => ("RideLawsModel", "undone", "[I", true)
  | 21 => ("RideLawsModel", "before", "[I", true)
  | 22 => ("RideLawsModel", "undoMany", "I", false)
  | 23 => ("RideLawsModel", "aimAt", "I", false)
  | 24 => ("RideLawsModel", "hasAim", "Z", false)
  | 25 => ("RideLawsModel", "standSet", "I", false)
  | 26 => ("RideLawsModel", "hasStand", "Z", false)
  | 27 => ("RideLawsModel", "text", "[B", true)
  | 28 => ("RideLawsModel", "textMany", "I", false)
  | 29 => ("RideLawsModel", "seed", "I", false)
  | 30 => ("RideLawsModel", "toldMany", "I", false)
  | 31 => ("RideLawsModel", "toldAt", "[I", true)
  | 32 => ("RideLawsModel", "hasTold", "Z", false)
  | 33 => ("RideLawsModel", "stack", "[I", true)
  | 34 => ("RideLawsModel", "codes", "I", false)
  | 35 => ("RideLawsModel", "ones", "I", false)
  | 36 => ("RideLawsModel", "top", "I", false)
  | 37 => ("RideLawsModel", "deep", "I", false)
  | 38 => ("RideLawsModel", "isWhole", "Z", false)
  | 39 => ("RideLawsModel", "truths", "[Z", true)
  | 40 => ("RideLawsModel", "imaged", "[I", true)
  | 41 => ("RideLawsModel", "namesKept", "[J", true)
  | _ => ("RideLawsModel", "areKept", "[Z", true)
def g_Y12 : Nat → FieldType := fun k => match k with
  | 0 => .int
  | 1 => .array .byte
  | 2 => .int
  | 3 => .int
  | 4 => .int
  | 5 => .int
  | 6 => .array .int
  | 7 => .array .int
  | 8 => .array .int
  | 9 => .array .long
  | 10 => .array .long
  | 11 => .int
  | 12 => .int
  | 13 => .int
  | 14 => .int
  | 15 => .int
  | 16 => .int
  | 17 => .long
  | 18 => .int
  | 19 => .int
  | 20 => .array .int
  | 21 => .array .int
  | 22 => .int
  | 23 => .int
  | 24 => .boolean
  | 25 => .int
  | 26 => .boolean
  | 27 => .array .byte
  | 28 => .int
  | 29 => .int
  | 30 => .int
  | 31 => .array .int
  | 32 => .boolean
  | 33 => .array .int
  | 34 => .int
  | 35 => .int
  | 36 => .int
  | 37 => .int
  | 38 => .boolean
  | 39 => .array .boolean
  | 40 => .array .int
  | 41 => .array .long
  | _ => .array .boolean
def g_cl : List vw_C := [("RideLaws", g_T0, 15), ("RideLaws$Reader", g_T1, 11), ("RideLaws$Scene", g_T2, 4), ("RideLaws$Plan", g_T3, 11), ("RideLaws$State", g_T4, 14), ("RideLaws$Sentence", g_T5, 6), ("RideLaws$History", g_T6, 2), ("RideLaws$RideText", g_T7, 3), ("RideLaws$BookText", g_T8, 7), ("RideLaws$Outlook", g_T9, 3), ("RideLaws$Draws", g_T10, 1), ("RideLaws$Line", g_T11, 2), ("RideLawsModel", g_T12, 43)]
def g_yl : List (Nat → FieldType) := [g_Y0, g_Y1, g_Y2, g_Y3, g_Y4, g_Y5, g_Y6, g_Y7, g_Y8, g_Y9, g_Y10, g_Y11, g_Y12]
def g_ft : List (List Nat) := [[2, 2, 2, 2, 2, 2, 2, 2, 2, 2, 2, 2, 0, 0, 0], [2, 2, 0, 0, 0, 0, 0, 0, 1, 0, 0], [2, 2, 2, 3], [2, 2, 2, 2, 2, 2, 2, 2, 2, 2, 2], [0, 0, 0, 0, 0, 0, 2, 2, 2, 2, 2, 2, 2, 2], [2, 2, 2, 0, 0, 3], [2, 0], [2, 2, 2], [2, 2, 2, 2, 2, 0, 0], [2, 2, 2], [0], [2, 0], [0, 2, 0, 0, 0, 0, 2, 2, 2, 2, 2, 0, 0, 0, 0, 0, 0, 1, 0, 0, 2, 2, 0, 0, 3, 0, 3, 2, 0, 0, 0, 2, 3, 2, 0, 0, 0, 0, 3, 2, 2, 2, 2]]
def g_sw : List (List Nat) := [[68, 73, 78, 83, 88, 93, 98], [40, 53, 66], [48, 61, 74, 94, 107], [48, 59, 70, 81, 92, 103, 108, 113], [36, 53, 92, 137], [152, 209, 209, 209, 181, 191, 201, 201, 201], [72, 55, 48], [48, 64, 79, 93, 114, 137, 159], [60, 73, 86, 98], [64, 76, 86, 92], [52, 62, 72, 84, 94], [120, 128, 138, 148, 156, 161, 163, 165], [36, 64, 96, 117], [36, 54, 72, 91, 113], [208, 281, 306, 319, 332, 400, 437, 474, 511, 536, 573, 598, 635, 648, 673, 686, 711, 748, 773, 810, 823, 848, 928, 941, 954, 967, 1035, 1048, 1073, 1098, 1135, 1184, 1209, 1234, 1247, 1272, 1297, 1322]]
def g_most : List Int := [3, 8, 8, 6, 8]
def g_strs : List (String × Nat × String) := [("RideLaws$Reader", 48, "ring seat word rider says law clash mounts alights learns whistle tick or and not up mute latest on knows said roll number"), ("RideLaws", 317, " off"), ("RideLaws", 322, " on "), ("RideLaws", 324, " mute"), ("RideLaws", 326, " next "), ("RideLaws", 145, "no such rider or no such question"), ("RideLaws", 283, "no such rider, law or question"), ("RideLaws", 306, "nothing was said, or no such rider or question")]
def g_str : List (List Int) := [[114, 105, 110, 103, 32, 115, 101, 97, 116, 32, 119, 111, 114, 100, 32, 114, 105, 100, 101, 114, 32, 115, 97, 121, 115, 32, 108, 97, 119, 32, 99, 108, 97, 115, 104, 32, 109, 111, 117, 110, 116, 115, 32, 97, 108, 105, 103, 104, 116, 115, 32, 108, 101, 97, 114, 110, 115, 32, 119, 104, 105, 115, 116, 108, 101, 32, 116, 105, 99, 107, 32, 111, 114, 32, 97, 110, 100, 32, 110, 111, 116, 32, 117, 112, 32, 109, 117, 116, 101, 32, 108, 97, 116, 101, 115, 116, 32, 111, 110, 32, 107, 110, 111, 119, 115, 32, 115, 97, 105, 100, 32, 114, 111, 108, 108, 32, 110, 117, 109, 98, 101, 114], [32, 111, 102, 102], [32, 111, 110, 32], [32, 109, 117, 116, 101], [32, 110, 101, 120, 116, 32], [110, 111, 32, 115, 117, 99, 104, 32, 114, 105, 100, 101, 114, 32, 111, 114, 32, 110, 111, 32, 115, 117, 99, 104, 32, 113, 117, 101, 115, 116, 105, 111, 110], [110, 111, 32, 115, 117, 99, 104, 32, 114, 105, 100, 101, 114, 44, 32, 108, 97, 119, 32, 111, 114, 32, 113, 117, 101, 115, 116, 105, 111, 110], [110, 111, 116, 104, 105, 110, 103, 32, 119, 97, 115, 32, 115, 97, 105, 100, 44, 32, 111, 114, 32, 110, 111, 32, 115, 117, 99, 104, 32, 114, 105, 100, 101, 114, 32, 111, 114, 32, 113, 117, 101, 115, 116, 105, 111, 110]]
def g_c0 : List (List (Option (Nat × Int × Nat × Nat))) := [[some (2, 2, 0, 0), some (23, 0, 0, 0), none, none, some (2, 2, 0, 0), some (18, 0, 1, 0), none, none, some (8, 0, 0, 0), some (30, (-2), 1, 1), none, none, some (14, 2, 0, 0), none, none, some (2, 2, 0, 0)], [some (18, 0, 2, 0), none, none, some (8, 0, 0, 0), some (30, (-3), 10, 1), none, none, some (14, 2, 0, 1), none, none, some (2, 2, 0, 0), some (18, 0, 2, 0), none, none, some (8, 0, 0, 0), some (30, (-3), 10, 1)], [none, none, some (14, 2, 0, 2), none, none, some (2, 2, 0, 0), some (18, 0, 2, 0), none, none, some (8, 0, 0, 0), some (30, (-3), 10, 1), none, none, some (14, 2, 0, 3), none, none], [some (2, 2, 0, 0), some (18, 0, 2, 0), none, none, some (8, 0, 0, 0), some (30, (-3), 10, 1), none, none, some (14, 2, 0, 4), none, none, some (2, 2, 0, 0), some (18, 0, 6, 0), none, none, some (8, 0, 0, 0)], [some (30, (-2), 15, 1), none, none, some (14, 2, 0, 5), none, none, some (2, 2, 0, 0), some (18, 0, 7, 0), none, none, some (8, 0, 0, 0), some (2, 2, 0, 0), some (13, 2, 0, 0), none, none, some (2, 2, 0, 0)], [some (13, 2, 0, 2), none, none, some (30, (-2), 16, 3), none, none, some (14, 2, 0, 6), none, none, some (2, 2, 0, 0), some (18, 0, 8, 0), none, none, some (8, 0, 0, 0), some (2, 2, 0, 0), some (13, 2, 0, 0)], [none, none, some (2, 2, 0, 0), some (13, 2, 0, 1), none, none, some (13, 2, 2, 0), none, none, some (30, (-2), 17, 3), none, none, some (14, 2, 0, 7), none, none, some (2, 2, 0, 0)], [some (18, 0, 9, 0), none, none, some (8, 0, 0, 0), some (2, 2, 0, 0), some (13, 2, 0, 1), none, none, some (13, 2, 2, 0), none, none, some (2, 2, 0, 0), some (13, 2, 0, 1), none, none, some (13, 2, 2, 1)], [none, none, some (2, 2, 0, 0), some (13, 2, 0, 2), none, none, some (13, 2, 2, 1), none, none, some (30, (-2), 18, 4), none, none, some (14, 2, 0, 8), none, none, some (2, 2, 0, 0)], [some (18, 0, 10, 0), none, none, some (8, 0, 0, 0), some (30, (-3), 19, 1), none, none, some (14, 2, 0, 9), none, none, some (2, 2, 0, 0), some (18, 0, 11, 0), none, none, some (8, 0, 0, 0), some (30, (-3), 20, 1)], [none, none, some (14, 2, 0, 10), none, none, some (2, 2, 0, 0), some (0, 4, 0, 1), some (17, 0, 0, 0), none, some (14, 2, 0, 11), none, none, some (2, 2, 0, 0), some (0, 0, 0, 1), some (14, 0, 0, 12), none], [none, some (2, 2, 0, 0), some (0, (-1), 0, 1), some (14, 0, 0, 13), none, none, some (2, 2, 0, 0), some (0, (-1), 0, 1), some (14, 0, 0, 14), none, none, some (2, 2, 0, 0), some (13, 2, 0, 11), none, none, some (0, (-1), 0, 1)], [some (30, (-1), 12, 2), none, none, some (40, 0, 2, 0)]]
def g_k0 : List (List (List Nat)) := [[[], [1, 132], [], [], [], [7, 135, 136, 103], [], [], [], [9, 137, 138, 103], [], [], [10, 530], [], [], []], [[16, 239, 240, 108], [], [], [], [18, 241, 242, 108], [], [], [19, 531], [], [], [], [16, 239, 240, 108], [], [], [], [18, 241, 242, 108]], [[], [], [23, 532], [], [], [], [16, 239, 240, 108], [], [], [], [18, 241, 242, 108], [], [], [26, 533], [], []], [[], [16, 239, 240, 108], [], [], [], [18, 241, 242, 108], [], [], [29, 534], [], [], [], [32, 425, 426, 113], [], [], []], [[34, 427, 428, 113], [], [], [35, 535], [], [], [], [39, 442, 443, 114], [], [], [], [], [10, 530], [], [], []], [[23, 532], [], [], [41, 444, 445, 114], [], [], [44, 536], [], [], [], [48, 458, 459, 115], [], [], [], [], [10, 530]], [[], [], [], [19, 531], [], [], [50, 408], [], [], [54, 460, 461, 115], [], [], [57, 537], [], [], []], [[61, 487, 488, 116], [], [], [], [], [19, 531], [], [], [50, 408], [], [], [], [19, 531], [], [], [63, 411]], [[], [], [], [23, 532], [], [], [63, 411], [], [], [67, 489, 490, 116], [], [], [70, 538], [], [], []], [[74, 503, 504, 117], [], [], [], [76, 505, 506, 117], [], [], [77, 539], [], [], [], [81, 514, 515, 118], [], [], [], [83, 516, 517, 118]], [[], [], [84, 540], [], [], [], [], [], [], [88, 541], [], [], [], [], [92, 542], []], [[], [], [], [96, 543], [], [], [], [], [99, 544], [], [], [], [88, 541], [], [], []], [[102, 529, 252, 110], [], [], []]]
def g_m0 : MethodName × ByteArray × Nat × Option FieldType := (⟨"RideLaws", "<init>", "()V"⟩, prog_1_method_1_code, 1, none)
def g_c1 : List (List (Option (Nat × Int × Nat × Nat))) := [[some (2, 2, 0, 0), some (23, 0, 0, 0), none, none, some (2, 2, 0, 0), some (0, 940, 2, 3), none, none, some (17, 0, 1, 0), none, some (14, 2, 1, 0), none, none, some (2, 2, 0, 0), some (0, 23, 1, 2), none], [some (17, 0, 2, 0), none, some (14, 2, 1, 1), none, none, some (2, 2, 0, 0), some (0, 0, 0, 1), some (14, 0, 1, 2), none, none, some (2, 2, 0, 0), some (0, 0, 0, 1), some (14, 0, 1, 3), none, none, some (2, 2, 0, 0)], [some (0, 0, 0, 1), some (14, 0, 1, 4), none, none, some (2, 2, 0, 0), some (0, 0, 0, 1), some (14, 0, 1, 5), none, none, some (2, 2, 0, 0), some (0, 0, 0, 1), some (14, 0, 1, 6), none, none, some (2, 2, 0, 0), some (0, 0, 0, 1)], [some (14, 0, 1, 7), none, none, some (2, 2, 0, 0), some (1, 0, 0, 1), some (14, 1, 1, 8), none, none, some (2, 2, 0, 0), some (0, 0, 0, 1), some (14, 0, 1, 9), none, none, some (2, 2, 0, 0), some (0, 0, 0, 1), some (14, 0, 1, 10)], [none, none, some (0, 0, 0, 1), some (3, 0, 1, 0), some (0, 0, 0, 1), some (3, 0, 2, 0), some (2, 0, 2, 0), some (19, 0, 0, 0), none, some (30, 5, 2, 1), none, none, some (10, 0, 3, 126), none, none, some (19, 0, 0, 0)], [none, some (2, 0, 2, 0), some (30, 5, 4, 2), none, none, some (3, 0, 3, 0), some (2, 0, 3, 0), some (0, 32, 1, 2), none, some (10, 0, 1, 98), none, none, some (4, 1, 1, 0), none, none, some (11, 0, 0, 120)], [none, none, some (2, 0, 1, 0), some (0, 23, 1, 2), none, some (10, 0, 3, 120), none, none, some (2, 2, 0, 0), some (13, 2, 1, 1), none, none, some (2, 0, 1, 0), some (2, 2, 0, 0), some (13, 2, 1, 1), none], [none, some (2, 0, 1, 0), some (15, 0, 2, 0), some (2, 0, 3, 0), some (30, (-1), 9, 2), none, none, some (16, 0, 2, 4), some (4, 1, 2, 0), none, none, some (11, 0, 0, 70), none, none, some (40, 0, 2, 0)]]
def g_k1 : List (List (List Nat)) := [[[], [3, 140], [], [], [], [], [], [], [], [], [9, 194], [], [], [], [], []], [[], [], [15, 195], [], [], [], [], [19, 196], [], [], [], [], [23, 198], [], [], []], [[], [26, 199], [], [], [], [], [29, 200], [], [], [], [], [32, 204], [], [], [], []], [[35, 205], [], [], [], [], [38, 208], [], [], [], [], [42, 210], [], [], [], [], [45, 212]], [[], [], [], [], [], [], [], [48], [], [50, 142, 143, 144, 104], [], [], [], [], [], [48]], [[], [], [56, 152, 153, 154, 104], [], [], [], [], [], [], [], [], [], [], [], [], []], [[], [], [], [], [], [], [], [], [], [15, 195], [], [], [], [], [15, 195], []], [[], [], [], [], [60, 190, 191, 103], [], [], [], [], [], [], [], [], [], []]]
def g_m1 : MethodName × ByteArray × Nat × Option FieldType := (⟨"RideLaws$Reader", "<init>", "()V"⟩, prog_8_method_1_code, 4, none)
def g_c2 : List (List (Option (Nat × Int × Nat × Nat))) := [[some (2, 2, 0, 0), some (22, 0, 3, 0), none, none, some (22, 0, 5, 0), some (2, 2, 0, 0), some (30, 5, 3, 1), none, none, some (5, 0, 7, 0), some (40, 0, 0, 0)]]
def g_k2 : List (List (List Nat)) := [[[], [9, 1906], [], [], [], [], [335, 146, 147, 148, 104], [], [], [], []]]
def g_m2 : MethodName × ByteArray × Nat × Option FieldType := (⟨"java/lang/String", "length", "()I"⟩, prog_22_method_54_code, 1, some .int)
def g_c3 : List (List (Option (Nat × Int × Nat × Nat))) := [[some (21, 0, 0, 0), none, none, some (9, 0, 0, 13), none, none, some (2, 2, 0, 0), some (22, 0, 4, 0), none, none, some (11, 0, 0, 14), none, none, some (0, 1, 0, 1), some (40, 0, 0, 3)]]
def g_k3 : List (List (List Nat)) := [[[38, 150], [], [], [], [], [], [], [15, 1907], [], [], [], [], [], [], []]]
def g_m3 : MethodName × ByteArray × Nat × Option FieldType := (⟨"java/lang/String", "coder", "()B"⟩, prog_22_method_152_code, 1, some .byte)
def g_c4 : List (List (Option (Nat × Int × Nat × Nat))) := [[some (2, 2, 0, 0), some (30, 5, 5, 1), none, none, some (9, 0, 0, 16), none, none, some (2, 2, 0, 0), some (22, 0, 3, 0), none, none, some (2, 0, 1, 0), some (30, (-1), 6, 2), none, none, some (40, 0, 0, 2)], [some (2, 2, 0, 0), some (22, 0, 3, 0), none, none, some (2, 0, 1, 0), some (99, 0, 0, 0), none, none, some (40, 0, 0, 2)]]
def g_k4 : List (List (List Nat)) := [[[], [492, 156, 157, 158, 104], [], [], [], [], [], [], [9, 1906], [], [], [], [495, 160, 161, 105], [], [], []], [[], [9, 1906], [], [], [], [], [], [], []]]
def g_m4 : MethodName × ByteArray × Nat × Option FieldType := (⟨"java/lang/String", "charAt", "(I)C"⟩, prog_22_method_56_code, 2, some .char)
def g_c5 : List (List (Option (Nat × Int × Nat × Nat))) := [[some (21, 0, 0, 0), none, none, some (9, 0, 0, 17), none, none, some (2, 2, 0, 0), some (22, 0, 4, 0), none, none, some (9, 0, 1, 17), none, none, some (0, 1, 0, 1), some (11, 0, 0, 18), none], [none, some (0, 0, 0, 1), some (40, 0, 0, 1)]]
def g_k5 : List (List (List Nat)) := [[[38, 150], [], [], [], [], [], [], [15, 1907], [], [], [], [], [], [], [], []], [[], [], []]]
def g_m5 : MethodName × ByteArray × Nat × Option FieldType := (⟨"java/lang/String", "isLatin1", "()Z"⟩, prog_22_method_154_code, 1, some .boolean)
def g_c6 : List (List (Option (Nat × Int × Nat × Nat))) := [[some (2, 0, 1, 0), some (2, 2, 0, 0), some (22, 0, 5, 0), some (30, (-1), 7, 2), none, none, some (2, 2, 0, 0), some (2, 0, 1, 0), some (22, 0, 6, 0), some (0, 255, 2, 3), none, none, some (5, 0, 3, 0), some (7, 0, 3, 0), some (40, 0, 0, 2)]]
def g_k6 : List (List (List Nat)) := [[[], [], [], [9, 163, 164, 104], [], [], [], [], [], [], [], [], [], [], []]]
def g_m6 : MethodName × ByteArray × Nat × Option FieldType := (⟨"java/lang/StringLatin1", "charAt", "([BI)C"⟩, prog_23_method_2_code, 2, some .char)
def g_c7 : List (List (Option (Nat × Int × Nat × Nat))) := [[some (2, 0, 0, 0), some (2, 0, 1, 0), some (21, 0, 1, 0), none, none, some (30, (-1), 8, 3), none, none, some (8, 0, 1, 0), some (40, 0, 2, 0)]]
def g_k7 : List (List (List Nat)) := [[[], [], [1053, 166], [], [], [1059, 168, 169, 106], [], [], [], []]]
def g_m7 : MethodName × ByteArray × Nat × Option FieldType := (⟨"java/lang/String", "checkIndex", "(II)V"⟩, prog_22_method_155_code, 2, none)
def g_c8 : List (List (Option (Nat × Int × Nat × Nat))) := [[some (2, 0, 0, 0), some (9, 0, 2, 9), none, none, some (2, 0, 0, 0), some (2, 0, 1, 0), some (10, 0, 2, 16), none, none, some (2, 2, 2, 0), some (2, 0, 0, 0), some (2, 0, 1, 0), some (99, 0, 0, 0), none, none, some (99, 0, 0, 0)], [some (2, 0, 0, 0), some (40, 0, 0, 0)]]
def g_k8 : List (List (List Nat)) := [[[], [], [], [], [], [], [], [], [], [], [], [], [], [], [], []], [[], []]]
def g_m8 : MethodName × ByteArray × Nat × Option FieldType := (⟨"jdk/internal/util/Preconditions", "checkIndex", "(IILjava/util/function/BiFunction;)I"⟩, prog_31_method_11_code, 3, some .int)
def g_c9 : List (List (Option (Nat × Int × Nat × Nat))) := [[some (2, 1, 0, 0), some (1, 32, 1, 3), none, none, some (6, 0, 1, 0), some (2, 0, 2, 0), some (0, 97, 1, 2), none, some (5, 0, 1, 0), some (0, 1, 0, 1), some (5, 0, 0, 0), some (7, 0, 0, 0), some (6, 0, 0, 0), some (40, 0, 1, 4)]]
def g_k9 : List (List (List Nat)) := [[[], [64, 193], [], [], [], [], [], [], [], [], [], [], [], []]]
def g_m9 : MethodName × ByteArray × Nat × Option FieldType := (⟨"RideLaws$Reader", "packed", "(JI)J"⟩, prog_8_method_2_code, 3, some .long)
def g_c10 : List (List (Option (Nat × Int × Nat × Nat))) := [[some (2, 2, 0, 0), some (23, 0, 0, 0), none, none, some (2, 2, 0, 0), some (18, 0, 3, 0), none, none, some (8, 0, 0, 0), some (30, (-2), 11, 1), none, none, some (14, 2, 2, 0), none, none, some (2, 2, 0, 0)], [some (18, 0, 4, 0), none, none, some (8, 0, 0, 0), some (30, (-2), 13, 1), none, none, some (14, 2, 2, 1), none, none, some (2, 2, 0, 0), some (18, 0, 5, 0), none, none, some (8, 0, 0, 0), some (30, (-3), 14, 1)], [none, none, some (14, 2, 2, 2), none, none, some (2, 2, 0, 0), some (0, 0, 0, 1), some (14, 3, 2, 3), none, none, some (40, 0, 2, 0)]]
def g_k10 : List (List (List Nat)) := [[[], [1, 244], [], [], [], [7, 245, 246, 109], [], [], [], [9, 247, 248, 109], [], [], [10, 407], [], [], []], [[16, 307, 308, 111], [], [], [], [18, 309, 310, 111], [], [], [19, 410], [], [], [], [23, 379, 380, 112], [], [], [], [25, 381, 382, 112]], [[], [], [26, 412], [], [], [], [], [30, 414], [], [], []]]
def g_m10 : MethodName × ByteArray × Nat × Option FieldType := (⟨"RideLaws$Scene", "<init>", "()V"⟩, prog_10_method_1_code, 1, none)
def g_c11 : List (List (Option (Nat × Int × Nat × Nat))) := [[some (2, 2, 0, 0), some (23, 0, 0, 0), none, none, some (2, 2, 0, 0), some (0, 5, 0, 1), some (17, 0, 0, 0), none, some (14, 2, 3, 0), none, none, some (2, 2, 0, 0), some (0, 40, 1, 2), none, some (17, 0, 2, 0), none], [some (14, 2, 3, 1), none, none, some (2, 2, 0, 0), some (0, 3, 0, 1), some (17, 0, 0, 0), none, some (14, 2, 3, 2), none, none, some (2, 2, 0, 0), some (0, 3, 0, 1), some (17, 0, 0, 0), none, some (14, 2, 3, 3), none], [none, some (2, 2, 0, 0), some (0, 8, 1, 2), none, some (17, 0, 0, 0), none, some (14, 2, 3, 4), none, none, some (2, 2, 0, 0), some (0, 8, 1, 2), none, some (17, 0, 0, 0), none, some (14, 2, 3, 5), none], [none, some (2, 2, 0, 0), some (0, 8, 1, 2), none, some (17, 0, 0, 0), none, some (14, 2, 3, 6), none, none, some (2, 2, 0, 0), some (0, 8, 1, 2), none, some (17, 0, 0, 0), none, some (14, 2, 3, 7), none], [none, some (2, 2, 0, 0), some (0, 8, 1, 2), none, some (17, 0, 0, 0), none, some (14, 2, 3, 8), none, none, some (2, 2, 0, 0), some (0, 8, 1, 2), none, some (17, 0, 0, 0), none, some (14, 2, 3, 9), none], [none, some (2, 2, 0, 0), some (0, 64, 1, 2), none, some (17, 0, 0, 0), none, some (14, 2, 3, 10), none, none, some (2, 2, 0, 0), some (13, 2, 3, 10), none, none, some (0, (-1), 0, 1), some (30, (-1), 12, 2), none], [none, some (40, 0, 2, 0)]]
def g_k11 : List (List (List Nat)) := [[[], [3, 250], [], [], [], [], [], [], [9, 254], [], [], [], [], [], [], []], [[15, 259], [], [], [], [], [], [], [19, 260], [], [], [], [], [], [], [22, 262], []], [[], [], [], [], [], [], [25, 263], [], [], [], [], [], [], [], [28, 266], []], [[], [], [], [], [], [], [31, 267], [], [], [], [], [], [], [], [34, 269], []], [[], [], [], [], [], [], [37, 272], [], [], [], [], [], [], [], [40, 275], []], [[], [], [], [], [], [], [43, 280], [], [], [], [43, 280], [], [], [], [46, 251, 252, 110], []], [[], []]]
def g_m11 : MethodName × ByteArray × Nat × Option FieldType := (⟨"RideLaws$Plan", "<init>", "()V"⟩, prog_7_method_1_code, 1, none)
def g_c12 : List (List (Option (Nat × Int × Nat × Nat))) := [[some (0, 0, 0, 1), some (3, 0, 2, 0), some (2, 2, 0, 0), some (25, 0, 0, 0), some (3, 0, 3, 0), some (2, 0, 2, 0), some (2, 0, 3, 0), some (10, 0, 3, 20), none, none, some (2, 2, 0, 0), some (2, 0, 2, 0), some (2, 0, 1, 0), some (16, 0, 0, 4), some (4, 1, 2, 0), none], [none, some (11, 0, 0, 5), none, none, some (40, 0, 2, 0)]]
def g_k12 : List (List (List Nat)) := [[[], [], [], [], [], [], [], [], [], [], [], [], [], [], [], []], [[], [], [], [], []]]
def g_m12 : MethodName × ByteArray × Nat × Option FieldType := (⟨"java/util/Arrays", "fill", "([II)V"⟩, prog_29_method_103_code, 4, none)
def g_c13 : List (List (Option (Nat × Int × Nat × Nat))) := [[some (2, 2, 0, 0), some (23, 0, 0, 0), none, none, some (2, 2, 0, 0), some (0, 0, 0, 1), some (14, 0, 4, 0), none, none, some (2, 2, 0, 0), some (0, (-1), 0, 1), some (14, 0, 4, 1), none, none, some (2, 2, 0, 0), some (0, (-1), 0, 1)], [some (14, 0, 4, 2), none, none, some (2, 2, 0, 0), some (0, 0, 0, 1), some (14, 0, 4, 3), none, none, some (2, 2, 0, 0), some (0, 0, 0, 1), some (14, 0, 4, 4), none, none, some (2, 2, 0, 0), some (0, 0, 0, 1), some (14, 0, 4, 5)], [none, none, some (2, 2, 0, 0), some (0, 8, 1, 2), none, some (17, 0, 0, 0), none, some (14, 2, 4, 6), none, none, some (2, 2, 0, 0), some (0, 8, 1, 2), none, some (17, 0, 0, 0), none, some (14, 2, 4, 7)], [none, none, some (2, 2, 0, 0), some (0, 6, 1, 2), none, some (17, 0, 0, 0), none, some (14, 2, 4, 8), none, none, some (2, 2, 0, 0), some (0, 6, 1, 2), none, some (17, 0, 0, 0), none, some (14, 2, 4, 9)], [none, none, some (2, 2, 0, 0), some (0, 36, 1, 2), none, some (17, 0, 0, 0), none, some (14, 2, 4, 10), none, none, some (2, 2, 0, 0), some (0, 6, 1, 2), none, some (17, 0, 0, 0), none, some (14, 2, 4, 11)], [none, none, some (2, 2, 0, 0), some (0, 6, 1, 2), none, some (17, 0, 0, 0), none, some (14, 2, 4, 12), none, none, some (2, 2, 0, 0), some (0, 8, 1, 2), none, some (17, 0, 0, 0), none, some (14, 2, 4, 13)], [none, none, some (2, 2, 0, 0), some (13, 2, 4, 7), none, none, some (0, (-1), 0, 1), some (30, (-1), 12, 2), none, none, some (2, 2, 0, 0), some (13, 2, 4, 8), none, none, some (0, (-1), 0, 1), some (30, (-1), 12, 2)], [none, none, some (40, 0, 2, 0)]]
def g_k13 : List (List (List Nat)) := [[[], [3, 312], [], [], [], [], [9, 314], [], [], [], [], [15, 316], [], [], [], []], [[18, 318], [], [], [], [], [21, 321], [], [], [], [], [24, 323], [], [], [], [], [27, 325]], [[], [], [], [], [], [], [], [30, 327], [], [], [], [], [], [], [], [34, 331]], [[], [], [], [], [], [], [], [37, 334], [], [], [], [], [], [], [], [40, 338]], [[], [], [], [], [], [], [], [43, 342], [], [], [], [], [], [], [], [46, 343]], [[], [], [], [], [], [], [], [49, 344], [], [], [], [], [], [], [], [52, 348]], [[], [], [], [34, 331], [], [], [], [55, 313, 252, 110], [], [], [], [37, 334], [], [], [], [55, 313, 252, 110]], [[], [], []]]
def g_m13 : MethodName × ByteArray × Nat × Option FieldType := (⟨"RideLaws$State", "<init>", "()V"⟩, prog_12_method_1_code, 1, none)
def g_c14 : List (List (Option (Nat × Int × Nat × Nat))) := [[some (2, 2, 0, 0), some (23, 0, 0, 0), none, none, some (2, 2, 0, 0), some (0, 40, 1, 2), none, some (17, 0, 0, 0), none, some (14, 2, 5, 0), none, none, some (2, 2, 0, 0), some (0, 40, 1, 2), none, some (17, 0, 0, 0)], [none, some (14, 2, 5, 1), none, none, some (2, 2, 0, 0), some (0, 40, 1, 2), none, some (17, 0, 0, 0), none, some (14, 2, 5, 2), none, none, some (2, 2, 0, 0), some (0, 0, 0, 1), some (14, 0, 5, 3), none], [none, some (2, 2, 0, 0), some (0, 0, 0, 1), some (14, 0, 5, 4), none, none, some (2, 2, 0, 0), some (0, 0, 0, 1), some (14, 3, 5, 5), none, none, some (40, 0, 2, 0)]]
def g_k14 : List (List (List Nat)) := [[[], [3, 384], [], [], [], [], [], [], [], [11, 385], [], [], [], [], [], []], [[], [15, 386], [], [], [], [], [], [], [], [18, 387], [], [], [], [], [21, 388], []], [[], [], [], [25, 389], [], [], [], [], [28, 391], [], [], []]]
def g_m14 : MethodName × ByteArray × Nat × Option FieldType := (⟨"RideLaws$Sentence", "<init>", "()V"⟩, prog_11_method_1_code, 1, none)
def g_c15 : List (List (Option (Nat × Int × Nat × Nat))) := [[some (2, 2, 0, 0), some (23, 0, 0, 0), none, none, some (2, 2, 0, 0), some (0, 8, 1, 2), none, some (17, 0, 4, 0), none, none, some (14, 2, 6, 0), none, none, some (2, 2, 0, 0), some (0, 0, 0, 1), some (14, 0, 6, 1)], [none, none, some (0, 0, 0, 1), some (3, 0, 1, 0), some (2, 0, 1, 0), some (0, 8, 1, 2), none, some (10, 0, 3, 45), none, none, some (2, 2, 0, 0), some (13, 2, 6, 0), none, none, some (2, 0, 1, 0), some (18, 0, 4, 0)], [none, none, some (8, 0, 0, 0), some (30, (-2), 13, 1), none, none, some (16, 0, 3, 4), some (4, 1, 1, 0), none, none, some (11, 0, 0, 20), none, none, some (40, 0, 2, 0)]]
def g_k15 : List (List (List Nat)) := [[[], [1, 430], [], [], [], [], [], [9, 431], [], [], [11, 434], [], [], [], [], [15, 435]], [[], [], [], [], [], [], [], [], [], [], [], [11, 434], [], [], [], [9, 431, 308, 111]], [[], [], [], [19, 433, 310, 111], [], [], [], [], [], [], [], [], [], []]]
def g_m15 : MethodName × ByteArray × Nat × Option FieldType := (⟨"RideLaws$History", "<init>", "()V"⟩, prog_4_method_1_code, 2, none)
def g_c16 : List (List (Option (Nat × Int × Nat × Nat))) := [[some (2, 2, 0, 0), some (23, 0, 0, 0), none, none, some (2, 2, 0, 0), some (2, 2, 1, 0), some (14, 2, 7, 0), none, none, some (2, 2, 0, 0), some (2, 2, 2, 0), some (13, 2, 2, 0), none, none, some (14, 2, 7, 1), none], [none, some (2, 2, 0, 0), some (2, 2, 2, 0), some (13, 2, 2, 1), none, none, some (14, 2, 7, 2), none, none, some (40, 0, 2, 0)]]
def g_k16 : List (List (List Nat)) := [[[], [3, 447], [], [], [], [], [9, 448], [], [], [], [], [15, 406], [], [], [21, 449], []], [[], [], [], [22, 409], [], [], [26, 450], [], [], []]]
def g_m16 : MethodName × ByteArray × Nat × Option FieldType := (⟨"RideLaws$RideText", "<init>", "(LRideLaws$Reader;LRideLaws$Scene;)V"⟩, prog_9_method_1_code, 3, none)
def g_c17 : List (List (Option (Nat × Int × Nat × Nat))) := [[some (2, 2, 0, 0), some (23, 0, 0, 0), none, none, some (2, 2, 0, 0), some (0, 40, 1, 2), none, some (17, 0, 0, 0), none, some (14, 2, 8, 2), none, none, some (2, 2, 0, 0), some (0, 40, 1, 2), none, some (17, 0, 0, 0)], [none, some (14, 2, 8, 3), none, none, some (2, 2, 0, 0), some (0, 40, 1, 2), none, some (17, 0, 0, 0), none, some (14, 2, 8, 4), none, none, some (2, 2, 0, 0), some (0, 0, 0, 1), some (14, 0, 8, 5), none], [none, some (2, 2, 0, 0), some (0, 0, 0, 1), some (14, 0, 8, 6), none, none, some (2, 2, 0, 0), some (2, 2, 1, 0), some (14, 2, 8, 0), none, none, some (2, 2, 0, 0), some (2, 2, 2, 0), some (14, 2, 8, 1), none, none], [some (40, 0, 2, 0)]]
def g_k17 : List (List (List Nat)) := [[[], [3, 463], [], [], [], [], [], [], [], [11, 466], [], [], [], [], [], []], [[], [15, 467], [], [], [], [], [], [], [], [18, 468], [], [], [], [], [21, 469], []], [[], [], [], [25, 470], [], [], [], [], [28, 464], [], [], [], [], [32, 465], [], []], [[]]]
def g_m17 : MethodName × ByteArray × Nat × Option FieldType := (⟨"RideLaws$BookText", "<init>", "(LRideLaws$Reader;LRideLaws$Plan;)V"⟩, prog_2_method_1_code, 3, none)
def g_c18 : List (List (Option (Nat × Int × Nat × Nat))) := [[some (2, 2, 0, 0), some (23, 0, 0, 0), none, none, some (2, 2, 0, 0), some (2, 2, 1, 0), some (14, 2, 9, 0), none, none, some (2, 2, 0, 0), some (2, 2, 2, 0), some (14, 2, 9, 1), none, none, some (2, 2, 0, 0), some (2, 2, 3, 0)], [some (14, 2, 9, 2), none, none, some (40, 0, 2, 0)]]
def g_k18 : List (List (List Nat)) := [[[], [3, 492], [], [], [], [], [9, 493], [], [], [], [], [15, 494], [], [], [], []], [[19, 495], [], [], []]]
def g_m18 : MethodName × ByteArray × Nat × Option FieldType := (⟨"RideLaws$Outlook", "<init>", "(LRideLaws$Plan;LRideLaws$State;LRideLaws$State;)V"⟩, prog_6_method_1_code, 4, none)
def g_c19 : List (List (Option (Nat × Int × Nat × Nat))) := [[some (2, 2, 0, 0), some (23, 0, 0, 0), none, none, some (2, 2, 0, 0), some (0, 0, 0, 1), some (14, 0, 10, 0), none, none, some (40, 0, 2, 0)]]
def g_k19 : List (List (List Nat)) := [[[], [1, 508], [], [], [], [], [7, 509], [], [], []]]
def g_m19 : MethodName × ByteArray × Nat × Option FieldType := (⟨"RideLaws$Draws", "<init>", "()V"⟩, prog_3_method_1_code, 1, none)
def g_c20 : List (List (Option (Nat × Int × Nat × Nat))) := [[some (2, 2, 0, 0), some (23, 0, 0, 0), none, none, some (2, 2, 0, 0), some (0, 32, 1, 2), none, some (17, 0, 1, 0), none, some (14, 2, 11, 0), none, none, some (2, 2, 0, 0), some (0, 0, 0, 1), some (14, 0, 11, 1), none], [none, some (40, 0, 2, 0)]]
def g_k20 : List (List (List Nat)) := [[[], [1, 519], [], [], [], [], [], [], [], [9, 520], [], [], [], [], [13, 522], []], [[], []]]
def g_m20 : MethodName × ByteArray × Nat × Option FieldType := (⟨"RideLaws$Line", "<init>", "()V"⟩, prog_5_method_1_code, 1, none)
def g_c21 : List (List (Option (Nat × Int × Nat × Nat))) := [[some (2, 2, 0, 0), some (13, 2, 0, 0), none, none, some (13, 0, 1, 2), none, none, some (0, 20, 1, 2), none, some (5, 0, 0, 0), some (0, 940, 2, 3), none, none, some (10, 0, 5, 18), none, none], [some (0, (-1), 0, 1), some (40, 0, 0, 0), some (2, 2, 0, 0), some (13, 2, 0, 0), none, none, some (2, 0, 1, 0), some (30, 11, 22, 2), none, none, some (2, 2, 0, 0), some (13, 2, 0, 0), none, none, some (2, 0, 2, 0), some (30, 11, 22, 2)], [none, none, some (2, 2, 0, 0), some (13, 2, 0, 0), none, none, some (2, 0, 3, 0), some (30, 11, 22, 2), none, none, some (2, 2, 0, 0), some (13, 2, 0, 0), none, none, some (2, 0, 4, 1), none], [some (30, 11, 22, 2), none, none, some (2, 2, 0, 0), some (13, 2, 0, 0), none, none, some (2, 0, 5, 1), none, some (30, 11, 22, 2), none, none, some (2, 2, 0, 0), some (13, 2, 0, 0), none, none], [some (13, 0, 1, 2), none, none, some (40, 0, 0, 0)]]
def g_k21 : List (List (List Nat)) := [[[], [10, 530], [], [], [108, 197], [], [], [], [], [], [], [], [], [], [], []], [[], [], [], [10, 530], [], [], [], [111, 580, 581, 582, 103], [], [], [], [10, 530], [], [], [], [111, 580, 581, 582, 103]], [[], [], [], [10, 530], [], [], [], [111, 580, 581, 582, 103], [], [], [], [10, 530], [], [], [], []], [[111, 580, 581, 582, 103], [], [], [], [10, 530], [], [], [], [], [111, 580, 581, 582, 103], [], [], [], [10, 530], [], []], [[108, 197], [], [], []]]
def g_m21 : MethodName × ByteArray × Nat × Option FieldType := (⟨"RideLaws", "feed", "(IIIII)I"⟩, prog_1_method_2_code, 6, some .int)
def g_c22 : List (List (Option (Nat × Int × Nat × Nat))) := [[some (0, 24, 1, 2), none, some (3, 0, 2, 0), some (2, 0, 2, 0), some (9, 0, 2, 46), none, none, some (2, 2, 0, 0), some (13, 0, 1, 2), none, none, some (0, 940, 2, 3), none, none, some (10, 0, 3, 40), none], [none, some (2, 2, 0, 0), some (13, 2, 1, 0), none, none, some (2, 2, 0, 0), some (13, 0, 1, 2), none, none, some (2, 0, 1, 0), some (2, 0, 2, 0), some (5, 0, 8, 0), some (7, 0, 2, 0), some (16, 0, 1, 4), some (2, 2, 0, 0), some (8, 0, 0, 0)], [some (13, 0, 1, 2), none, none, some (0, 1, 0, 1), some (5, 0, 0, 0), some (14, 0, 1, 2), none, none, some (4, (-8), 2, 0), none, none, some (11, 0, 0, 3), none, none, some (40, 0, 2, 0)]]
def g_k22 : List (List (List Nat)) := [[[], [], [], [], [], [], [], [], [19, 196], [], [], [], [], [], [], []], [[], [], [9, 194], [], [], [], [19, 196], [], [], [], [], [], [], [], [], []], [[19, 196], [], [], [], [], [19, 196], [], [], [], [], [], [], [], [], []]]
def g_m22 : MethodName × ByteArray × Nat × Option FieldType := (⟨"RideLaws$Reader", "put", "(I)V"⟩, prog_8_method_3_code, 3, none)
def g_c23 : List (List (Option (Nat × Int × Nat × Nat))) := [[some (2, 0, 1, 0), some (9, 0, 2, 15), none, none, some (2, 0, 1, 0), some (2, 2, 0, 0), some (13, 2, 0, 0), none, none, some (13, 0, 1, 2), none, none, some (10, 0, 5, 17), none, none, some (0, 0, 0, 1)], [some (40, 0, 0, 1), some (2, 2, 0, 0), some (13, 2, 0, 0), none, none, some (2, 0, 1, 0), some (14, 0, 1, 2), none, none, some (0, 1, 0, 1), some (40, 0, 0, 1)]]
def g_k23 : List (List (List Nat)) := [[[], [], [], [], [], [], [10, 530], [], [], [108, 197], [], [], [], [], [], []], [[], [], [10, 530], [], [], [], [108, 197], [], [], [], []]]
def g_m23 : MethodName × ByteArray × Nat × Option FieldType := (⟨"RideLaws", "end", "(I)Z"⟩, prog_1_method_3_code, 2, some .boolean)
def g_c24 : List (List (Option (Nat × Int × Nat × Nat))) := [[some (2, 2, 0, 0), some (13, 2, 0, 6), none, none, some (30, 17, 25, 1), none, none, some (3, 0, 1, 0), some (2, 2, 0, 0), some (30, 10, 62, 1), none, none, some (2, 0, 1, 0), some (0, (-1), 0, 1), some (10, 0, 1, 27), none], [none, some (0, (-1), 0, 1), some (2, 2, 0, 0), some (13, 2, 0, 0), none, none, some (13, 0, 1, 10), none, none, some (5, 0, 1, 0), some (40, 0, 0, 0), some (2, 2, 0, 0), some (13, 2, 0, 2), none, none, some (13, 2, 2, 2)], [none, none, some (30, 15, 63, 1), none, none, some (2, 2, 0, 0), some (13, 2, 0, 1), none, none, some (2, 2, 0, 0), some (13, 2, 0, 2), none, none, some (30, 12, 64, 2), none, none], [some (2, 2, 0, 0), some (13, 2, 0, 5), none, none, some (0, 0, 0, 1), some (14, 0, 6, 1), none, none, some (2, 0, 1, 0), some (40, 0, 0, 0)]]
def g_k24 : List (List (List Nat)) := [[[], [44, 536], [], [], [115, 592, 593, 594, 114], [], [], [], [], [119, 742, 744, 12, 102], [], [], [], [], [], []], [[], [], [], [10, 530], [], [], [122, 213], [], [], [], [], [], [23, 532], [], [], [125, 413]], [[], [], [129, 746, 747, 748, 112], [], [], [], [19, 531], [], [], [], [23, 532], [], [], [134, 750, 751, 752, 108], [], []], [[], [35, 535], [], [], [], [138, 436], [], [], [], []]]
def g_m24 : MethodName × ByteArray × Nat × Option FieldType := (⟨"RideLaws", "ride", "()I"⟩, prog_1_method_4_code, 2, some .int)
def g_c25 : List (List (Option (Nat × Int × Nat × Nat))) := [[some (2, 2, 0, 0), some (13, 2, 7, 1), none, none, some (30, 13, 26, 1), none, none, some (2, 2, 0, 0), some (13, 2, 7, 2), none, none, some (30, 14, 27, 1), none, none, some (2, 2, 0, 0), some (13, 2, 7, 0)], [none, none, some (0, 900, 2, 3), none, none, some (30, 11, 28, 2), none, none, some (0, 0, 0, 1), some (3, 0, 1, 0), some (2, 0, 1, 0), some (0, 940, 2, 3), none, none, some (10, 0, 3, 70), none], [none, some (2, 2, 0, 0), some (13, 2, 7, 0), none, none, some (13, 0, 1, 5), none, none, some (9, 0, 0, 70), none, none, some (2, 2, 0, 0), some (30, 17, 36, 1), none, none, some (9, 0, 0, 62)], [none, none, some (2, 2, 0, 0), some (13, 2, 7, 0), none, none, some (0, 59, 1, 2), none, some (30, 11, 60, 2), none, none, some (9, 0, 1, 64), none, none, some (0, (-1), 0, 1), some (40, 0, 0, 0)], [some (4, 1, 1, 0), none, none, some (11, 0, 0, 26), none, none, some (2, 0, 1, 0), some (40, 0, 0, 0)]]
def g_k25 : List (List (List Nat)) := [[[], [21, 449], [], [], [27, 596, 597, 598, 109], [], [], [], [26, 450], [], [], [32, 600, 601, 602, 111], [], [], [], [9, 448]], [[], [], [], [], [], [35, 604, 605, 606, 103], [], [], [], [], [], [], [], [], [], []], [[], [], [9, 448], [], [], [41, 202], [], [], [], [], [], [], [45, 632, 634, 2, 114], [], [], []], [[], [], [], [9, 448], [], [], [], [], [49, 734, 735, 736, 103], [], [], [], [], [], [], []], [[], [], [], [], [], [], [], []]]
def g_m25 : MethodName × ByteArray × Nat × Option FieldType := (⟨"RideLaws$RideText", "readAll", "()I"⟩, prog_9_method_2_code, 2, some .int)
def g_c26 : List (List (Option (Nat × Int × Nat × Nat))) := [[some (2, 2, 0, 0), some (13, 2, 3, 0), none, none, some (0, 0, 0, 1), some (30, (-1), 12, 2), none, none, some (2, 2, 0, 0), some (13, 2, 3, 9), none, none, some (0, 0, 0, 1), some (30, (-1), 12, 2), none, none], [some (2, 2, 0, 0), some (13, 2, 3, 10), none, none, some (0, (-1), 0, 1), some (30, (-1), 12, 2), none, none, some (40, 0, 2, 0)]]
def g_k26 : List (List (List Nat)) := [[[], [9, 254], [], [], [], [46, 251, 252, 110], [], [], [], [40, 275], [], [], [], [46, 251, 252, 110], [], []], [[], [43, 280], [], [], [], [46, 251, 252, 110], [], [], []]]
def g_m26 : MethodName × ByteArray × Nat × Option FieldType := (⟨"RideLaws$Plan", "forget", "()V"⟩, prog_7_method_2_code, 1, none)
def g_c27 : List (List (Option (Nat × Int × Nat × Nat))) := [[some (2, 2, 0, 0), some (0, 0, 0, 1), some (14, 0, 4, 0), none, none, some (2, 2, 0, 0), some (0, (-1), 0, 1), some (14, 0, 4, 1), none, none, some (2, 2, 0, 0), some (0, (-1), 0, 1), some (14, 0, 4, 2), none, none, some (2, 2, 0, 0)], [some (0, 0, 0, 1), some (14, 0, 4, 3), none, none, some (2, 2, 0, 0), some (0, 0, 0, 1), some (14, 0, 4, 4), none, none, some (2, 2, 0, 0), some (0, 0, 0, 1), some (14, 0, 4, 5), none, none, some (2, 2, 0, 0), some (13, 2, 4, 7)], [none, none, some (0, (-1), 0, 1), some (30, (-1), 12, 2), none, none, some (2, 2, 0, 0), some (13, 2, 4, 8), none, none, some (0, (-1), 0, 1), some (30, (-1), 12, 2), none, none, some (2, 2, 0, 0), some (13, 2, 4, 9)], [none, none, some (0, 0, 0, 1), some (30, (-1), 12, 2), none, none, some (2, 2, 0, 0), some (13, 2, 4, 11), none, none, some (0, 0, 0, 1), some (30, (-1), 12, 2), none, none, some (2, 2, 0, 0), some (13, 2, 4, 12)], [none, none, some (0, 0, 0, 1), some (30, (-1), 12, 2), none, none, some (2, 2, 0, 0), some (13, 2, 4, 13), none, none, some (0, 0, 0, 1), some (30, (-1), 12, 2), none, none, some (40, 0, 2, 0)]]
def g_k27 : List (List (List Nat)) := [[[], [], [9, 314], [], [], [], [], [15, 316], [], [], [], [], [18, 318], [], [], []], [[], [21, 321], [], [], [], [], [24, 323], [], [], [], [], [27, 325], [], [], [], [34, 331]], [[], [], [], [55, 313, 252, 110], [], [], [], [37, 334], [], [], [], [55, 313, 252, 110], [], [], [], [40, 338]], [[], [], [], [55, 313, 252, 110], [], [], [], [46, 343], [], [], [], [55, 313, 252, 110], [], [], [], [49, 344]], [[], [], [], [55, 313, 252, 110], [], [], [], [52, 348], [], [], [], [55, 313, 252, 110], [], [], []]]
def g_m27 : MethodName × ByteArray × Nat × Option FieldType := (⟨"RideLaws$State", "forget", "()V"⟩, prog_12_method_2_code, 1, none)
def g_c28 : List (List (Option (Nat × Int × Nat × Nat))) := [[some (2, 2, 0, 0), some (2, 0, 1, 0), some (14, 0, 1, 3), none, none, some (2, 2, 0, 0), some (0, 0, 0, 1), some (14, 0, 1, 4), none, none, some (2, 2, 0, 0), some (0, 0, 0, 1), some (14, 0, 1, 9), none, none, some (2, 2, 0, 0)], [some (0, 0, 0, 1), some (14, 0, 1, 10), none, none, some (2, 2, 0, 0), some (30, 11, 29, 1), none, none, some (40, 0, 2, 0)]]
def g_k28 : List (List (List Nat)) := [[[], [], [23, 198], [], [], [], [], [26, 199], [], [], [], [], [42, 210], [], [], []], [[], [45, 212], [], [], [], [66, 608, 609, 610, 103], [], [], []]]
def g_m28 : MethodName × ByteArray × Nat × Option FieldType := (⟨"RideLaws$Reader", "begin", "(I)V"⟩, prog_8_method_4_code, 2, none)
def g_c29 : List (List (Option (Nat × Int × Nat × Nat))) := [[some (2, 2, 0, 0), some (13, 0, 1, 4), none, none, some (2, 2, 0, 0), some (13, 0, 1, 2), none, none, some (10, 0, 3, 39), none, none, some (2, 2, 0, 0), some (13, 2, 1, 0), none, none, some (2, 2, 0, 0)], [some (13, 0, 1, 4), none, none, some (15, 0, 1, 0), some (30, (-1), 30, 1), none, none, some (9, 0, 0, 39), none, none, some (2, 2, 0, 0), some (8, 0, 0, 0), some (13, 0, 1, 4), none, none, some (0, 1, 0, 1)], [some (5, 0, 0, 0), some (14, 0, 1, 4), none, none, some (11, 0, 0, 0), none, none, some (2, 2, 0, 0), some (2, 2, 0, 0), some (13, 0, 1, 4), none, none, some (14, 0, 1, 6), none, none, some (2, 2, 0, 0)], [some (13, 0, 1, 2), none, none, some (2, 2, 0, 0), some (13, 0, 1, 3), none, none, some (10, 0, 5, 85), none, none, some (2, 2, 0, 0), some (13, 0, 1, 6), none, none, some (2, 2, 0, 0), some (13, 0, 1, 3)], [none, none, some (10, 0, 2, 85), none, none, some (2, 2, 0, 0), some (2, 2, 0, 0), some (13, 0, 1, 3), none, none, some (14, 0, 1, 6), none, none, some (2, 2, 0, 0), some (0, 1, 0, 1), some (14, 0, 1, 5)], [none, none, some (11, 0, 0, 183), none, none, some (2, 2, 0, 0), some (13, 0, 1, 6), none, none, some (2, 2, 0, 0), some (13, 0, 1, 2), none, none, some (10, 0, 2, 104), none, none], [some (2, 2, 0, 0), some (0, 0, 0, 1), some (14, 0, 1, 5), none, none, some (11, 0, 0, 183), none, none, some (2, 2, 0, 0), some (13, 2, 1, 0), none, none, some (2, 2, 0, 0), some (13, 0, 1, 6), none, none], [some (15, 0, 1, 0), some (30, (-1), 31, 1), none, none, some (9, 0, 1, 134), none, none, some (2, 2, 0, 0), some (13, 2, 1, 0), none, none, some (2, 2, 0, 0), some (13, 0, 1, 6), none, none, some (15, 0, 1, 0)], [some (30, (-1), 32, 1), none, none, some (9, 0, 0, 141), none, none, some (2, 2, 0, 0), some (30, 11, 33, 1), none, none, some (11, 0, 0, 183), none, none, some (2, 2, 0, 0), some (2, 2, 0, 0), some (13, 2, 1, 0)], [none, none, some (2, 2, 0, 0), some (13, 0, 1, 6), none, none, some (15, 0, 1, 0), some (14, 0, 1, 7), none, none, some (2, 2, 0, 0), some (2, 2, 0, 0), some (13, 0, 1, 7), none, none, some (30, (-1), 35, 1)], [none, none, some (9, 0, 0, 169), none, none, some (0, 5, 0, 1), some (11, 0, 0, 170), none, none, some (0, 1, 0, 1), some (14, 0, 1, 5), none, none, some (2, 2, 0, 0), some (8, 0, 0, 0), some (13, 0, 1, 4)], [none, none, some (0, 1, 0, 1), some (5, 0, 0, 0), some (14, 0, 1, 4), none, none, some (40, 0, 2, 0)]]
def g_k29 : List (List (List Nat)) := [[[], [26, 199], [], [], [], [19, 196], [], [], [], [], [], [], [9, 194], [], [], []], [[26, 199], [], [], [], [69, 612, 613, 103], [], [], [], [], [], [], [], [26, 199], [], [], []], [[], [26, 199], [], [], [], [], [], [], [], [26, 199], [], [], [32, 204], [], [], []], [[19, 196], [], [], [], [23, 198], [], [], [], [], [], [], [32, 204], [], [], [], [23, 198]], [[], [], [], [], [], [], [], [23, 198], [], [], [32, 204], [], [], [], [], [29, 200]], [[], [], [], [], [], [], [32, 204], [], [], [], [19, 196], [], [], [], [], []], [[], [], [29, 200], [], [], [], [], [], [], [9, 194], [], [], [], [32, 204], [], []], [[], [73, 615, 616, 103], [], [], [], [], [], [], [9, 194], [], [], [], [32, 204], [], [], []], [[76, 618, 619, 103], [], [], [], [], [], [], [79, 621, 623, 0, 103], [], [], [], [], [], [], [], [9, 194]], [[], [], [], [32, 204], [], [], [], [35, 205], [], [], [], [], [35, 205], [], [], [82, 629, 630, 103]], [[], [], [], [], [], [], [], [], [], [], [29, 200], [], [], [], [], [26, 199]], [[], [], [], [], [26, 199], [], [], []]]
def g_m29 : MethodName × ByteArray × Nat × Option FieldType := (⟨"RideLaws$Reader", "advance", "()V"⟩, prog_8_method_6_code, 1, none)
def g_c30 : List (List (Option (Nat × Int × Nat × Nat))) := [[some (2, 0, 0, 0), some (0, 32, 1, 2), none, some (10, 0, 0, 12), none, none, some (2, 0, 0, 0), some (0, 10, 1, 2), none, some (10, 0, 1, 16), none, none, some (0, 1, 0, 1), some (11, 0, 0, 17), none, none], [some (0, 0, 0, 1), some (40, 0, 0, 1)]]
def g_k30 : List (List (List Nat)) := [[[], [], [], [], [], [], [], [], [], [], [], [], [], [], [], []], [[], []]]
def g_m30 : MethodName × ByteArray × Nat × Option FieldType := (⟨"RideLaws$Reader", "isBlank", "(I)Z"⟩, prog_8_method_9_code, 1, some .boolean)
def g_c31 : List (List (Option (Nat × Int × Nat × Nat))) := [[some (2, 0, 0, 0), some (0, 97, 1, 2), none, some (10, 0, 2, 16), none, none, some (2, 0, 0, 0), some (0, 122, 1, 2), none, some (10, 0, 4, 16), none, none, some (0, 1, 0, 1), some (11, 0, 0, 17), none, none], [some (0, 0, 0, 1), some (40, 0, 0, 1)]]
def g_k31 : List (List (List Nat)) := [[[], [], [], [], [], [], [], [], [], [], [], [], [], [], [], []], [[], []]]
def g_m31 : MethodName × ByteArray × Nat × Option FieldType := (⟨"RideLaws$Reader", "isLetter", "(I)Z"⟩, prog_8_method_10_code, 1, some .boolean)
def g_c32 : List (List (Option (Nat × Int × Nat × Nat))) := [[some (2, 0, 0, 0), some (0, 48, 1, 2), none, some (10, 0, 2, 16), none, none, some (2, 0, 0, 0), some (0, 57, 1, 2), none, some (10, 0, 4, 16), none, none, some (0, 1, 0, 1), some (11, 0, 0, 17), none, none], [some (0, 0, 0, 1), some (40, 0, 0, 1)]]
def g_k32 : List (List (List Nat)) := [[[], [], [], [], [], [], [], [], [], [], [], [], [], [], [], []], [[], []]]
def g_m32 : MethodName × ByteArray × Nat × Option FieldType := (⟨"RideLaws$Reader", "isDigit", "(I)Z"⟩, prog_8_method_11_code, 1, some .boolean)
def g_c33 : List (List (Option (Nat × Int × Nat × Nat))) := [[some (0, 0, 0, 1), some (3, 0, 1, 0), some (0, 0, 0, 1), some (3, 0, 2, 0), some (0, 0, 0, 1), some (3, 0, 3, 0), some (1, 0, 0, 1), some (3, 1, 4, 1), none, some (2, 2, 0, 0), some (13, 0, 1, 4), none, none, some (2, 2, 0, 0), some (13, 0, 1, 2), none], [none, some (10, 0, 3, 121), none, none, some (2, 2, 0, 0), some (13, 2, 1, 0), none, none, some (2, 2, 0, 0), some (13, 0, 1, 4), none, none, some (15, 0, 1, 0), some (30, (-1), 31, 1), none, none], [some (9, 0, 1, 50), none, none, some (2, 2, 0, 0), some (13, 2, 1, 0), none, none, some (2, 2, 0, 0), some (13, 0, 1, 4), none, none, some (15, 0, 1, 0), some (30, (-1), 32, 1), none, none, some (9, 0, 0, 121)], [none, none, some (2, 2, 0, 0), some (13, 2, 1, 0), none, none, some (2, 2, 0, 0), some (13, 0, 1, 4), none, none, some (15, 0, 1, 0), some (30, (-1), 31, 1), none, none, some (9, 0, 0, 87), none], [none, some (4, 1, 1, 0), none, none, some (2, 1, 4, 1), none, some (2, 2, 0, 0), some (13, 2, 1, 0), none, none, some (2, 2, 0, 0), some (13, 0, 1, 4), none, none, some (15, 0, 1, 0), some (30, (-1), 9, 2)], [none, none, some (3, 1, 4, 1), none, some (11, 0, 0, 108), none, none, some (4, 1, 2, 0), none, none, some (2, 0, 3, 0), some (0, 10, 1, 2), none, some (5, 0, 2, 0), some (2, 2, 0, 0), some (13, 2, 1, 0)], [none, none, some (2, 2, 0, 0), some (13, 0, 1, 4), none, none, some (15, 0, 1, 0), some (0, 48, 1, 2), none, some (5, 0, 1, 0), some (5, 0, 0, 0), some (3, 0, 3, 0), some (2, 2, 0, 0), some (8, 0, 0, 0), some (13, 0, 1, 4), none], [none, some (0, 1, 0, 1), some (5, 0, 0, 0), some (14, 0, 1, 4), none, none, some (11, 0, 0, 9), none, none, some (2, 0, 2, 0), some (9, 0, 1, 140), none, none, some (2, 0, 1, 0), some (0, 7, 1, 2), none], [some (10, 0, 4, 140), none, none, some (2, 2, 0, 0), some (2, 1, 4, 1), none, some (30, 11, 34, 2), none, none, some (11, 0, 0, 167), none, none, some (2, 0, 1, 0), some (9, 0, 1, 162), none, none], [some (2, 0, 2, 0), some (0, 3, 0, 1), some (10, 0, 4, 162), none, none, some (2, 2, 0, 0), some (0, 4, 0, 1), some (14, 0, 1, 5), none, none, some (2, 2, 0, 0), some (2, 0, 3, 0), some (14, 0, 1, 7), none, none, some (11, 0, 0, 167)], [none, none, some (2, 2, 0, 0), some (0, 1, 0, 1), some (14, 0, 1, 5), none, none, some (40, 0, 2, 0)]]
def g_k33 : List (List (List Nat)) := [[[], [], [], [], [], [], [], [], [], [], [26, 199], [], [], [], [19, 196], []], [[], [], [], [], [], [9, 194], [], [], [], [26, 199], [], [], [], [73, 615, 616, 103], [], []], [[], [], [], [], [9, 194], [], [], [], [26, 199], [], [], [], [76, 618, 619, 103], [], [], []], [[], [], [], [9, 194], [], [], [], [26, 199], [], [], [], [73, 615, 616, 103], [], [], [], []], [[], [], [], [], [], [], [], [9, 194], [], [], [], [26, 199], [], [], [], [60, 190, 191, 103]], [[], [], [], [], [], [], [], [], [], [], [], [], [], [], [], [9, 194]], [[], [], [], [26, 199], [], [], [], [], [], [], [], [], [], [], [26, 199], []], [[], [], [], [26, 199], [], [], [], [], [], [], [], [], [], [], [], []], [[], [], [], [], [], [], [85, 625, 627, 1, 103], [], [], [], [], [], [], [], [], []], [[], [], [], [], [], [], [], [29, 200], [], [], [], [], [35, 205], [], [], []], [[], [], [], [], [29, 200], [], [], []]]
def g_m33 : MethodName × ByteArray × Nat × Option FieldType := (⟨"RideLaws$Reader", "readRun", "()V"⟩, prog_8_method_7_code, 6, none)
def g_c34 : List (List (Option (Nat × Int × Nat × Nat))) := [[some (2, 2, 0, 0), some (2, 1, 1, 0), some (14, 1, 1, 8), none, none, some (2, 2, 0, 0), some (0, 2, 0, 1), some (14, 0, 1, 5), none, none, some (0, 0, 0, 1), some (3, 0, 3, 0), some (2, 0, 3, 0), some (0, 23, 1, 2), none, some (10, 0, 3, 45)], [none, none, some (2, 2, 0, 0), some (13, 2, 1, 1), none, none, some (2, 0, 3, 0), some (15, 0, 2, 0), some (2, 1, 1, 0), some (12, 0, 0, 0), some (9, 0, 1, 39), none, none, some (2, 2, 0, 0), some (0, 3, 0, 1), some (14, 0, 1, 5)], [none, none, some (2, 2, 0, 0), some (2, 0, 3, 0), some (14, 0, 1, 7), none, none, some (4, 1, 3, 0), none, none, some (11, 0, 0, 12), none, none, some (40, 0, 2, 0)]]
def g_k34 : List (List (List Nat)) := [[[], [], [38, 208], [], [], [], [], [29, 200], [], [], [], [], [], [], [], []], [[], [], [], [15, 195], [], [], [], [], [], [], [], [], [], [], [], [29, 200]], [[], [], [], [], [35, 205], [], [], [], [], [], [], [], [], []]]
def g_m34 : MethodName × ByteArray × Nat × Option FieldType := (⟨"RideLaws$Reader", "takeWord", "(J)V"⟩, prog_8_method_8_code, 4, none)
def g_c35 : List (List (Option (Nat × Int × Nat × Nat))) := [[some (2, 0, 0, 0), some (0, 59, 1, 2), none, some (10, 0, 0, 36), none, none, some (2, 0, 0, 0), some (0, 60, 1, 2), none, some (10, 0, 0, 36), none, none, some (2, 0, 0, 0), some (0, 61, 1, 2), none, some (10, 0, 0, 36)], [none, none, some (2, 0, 0, 0), some (0, 62, 1, 2), none, some (10, 0, 0, 36), none, none, some (2, 0, 0, 0), some (0, 40, 1, 2), none, some (10, 0, 0, 36), none, none, some (2, 0, 0, 0), some (0, 41, 1, 2)], [none, some (10, 0, 1, 40), none, none, some (0, 1, 0, 1), some (11, 0, 0, 41), none, none, some (0, 0, 0, 1), some (40, 0, 0, 1)]]
def g_k35 : List (List (List Nat)) := [[[], [], [], [], [], [], [], [], [], [], [], [], [], [], [], []], [[], [], [], [], [], [], [], [], [], [], [], [], [], [], [], []], [[], [], [], [], [], [], [], [], [], []]]
def g_m35 : MethodName × ByteArray × Nat × Option FieldType := (⟨"RideLaws$Reader", "isSign", "(I)Z"⟩, prog_8_method_12_code, 1, some .boolean)
def g_c36 : List (List (Option (Nat × Int × Nat × Nat))) := [[some (2, 2, 0, 0), some (13, 2, 7, 0), none, none, some (13, 0, 1, 5), none, none, some (0, 3, 0, 1), some (10, 0, 0, 20), none, none, some (2, 2, 0, 0), some (13, 2, 7, 0), none, none, some (0, 1, 0, 1)], [some (30, 11, 37, 2), none, none, some (40, 0, 0, 1), some (2, 2, 0, 0), some (13, 2, 7, 0), none, none, some (13, 0, 1, 7), none, none, some (20, 0, 103, 0), none, none, none, none], [none, none, none, none, none, none, none, none, none, none, none, none, none, none, none, none], [none, none, none, none, none, none, none, none, none, none, none, none, none, none, none, none], [none, none, none, none, some (2, 2, 0, 0), some (30, 17, 38, 1), none, none, some (40, 0, 0, 1), some (2, 2, 0, 0), some (30, 17, 46, 1), none, none, some (40, 0, 0, 1), some (2, 2, 0, 0), some (30, 17, 50, 1)], [none, none, some (40, 0, 0, 1), some (2, 2, 0, 0), some (30, 17, 51, 1), none, none, some (40, 0, 0, 1), some (2, 2, 0, 0), some (30, 17, 53, 1), none, none, some (40, 0, 0, 1), some (2, 2, 0, 0), some (30, 17, 56, 1), none], [none, some (40, 0, 0, 1), some (2, 2, 0, 0), some (30, 17, 58, 1), none, none, some (40, 0, 0, 1), some (2, 2, 0, 0), some (13, 2, 7, 0), none, none, some (0, 1, 0, 1), some (30, 11, 37, 2), none, none, some (40, 0, 0, 1)]]
def g_k36 : List (List (List Nat)) := [[[], [9, 448], [], [], [41, 202], [], [], [], [], [], [], [], [9, 448], [], [], []], [[53, 636, 637, 638, 103], [], [], [], [], [9, 448], [], [], [56, 206], [], [], [], [], [], [], []], [[], [], [], [], [], [], [], [], [], [], [], [], [], [], [], []], [[], [], [], [], [], [], [], [], [], [], [], [], [], [], [], []], [[], [], [], [], [], [59, 640, 642, 3, 114], [], [], [], [], [62, 676, 678, 5, 114], [], [], [], [], [65, 693, 695, 7, 114]], [[], [], [], [], [68, 698, 700, 8, 114], [], [], [], [], [71, 706, 708, 9, 114], [], [], [], [], [74, 718, 720, 10, 114], []], [[], [], [], [77, 726, 728, 11, 114], [], [], [], [], [9, 448], [], [], [], [53, 636, 637, 638, 103], [], [], []]]
def g_m36 : MethodName × ByteArray × Nat × Option FieldType := (⟨"RideLaws$RideText", "readLine", "()Z"⟩, prog_9_method_3_code, 1, some .boolean)
def g_c37 : List (List (Option (Nat × Int × Nat × Nat))) := [[some (2, 2, 0, 0), some (2, 0, 1, 0), some (14, 0, 1, 9), none, none, some (2, 2, 0, 0), some (2, 2, 0, 0), some (13, 0, 1, 6), none, none, some (14, 0, 1, 10), none, none, some (0, 0, 0, 1), some (40, 0, 0, 1)]]
def g_k37 : List (List (List Nat)) := [[[], [], [42, 210], [], [], [], [], [32, 204], [], [], [45, 212], [], [], [], []]]
def g_m37 : MethodName × ByteArray × Nat × Option FieldType := (⟨"RideLaws$Reader", "refuse", "(I)Z"⟩, prog_8_method_5_code, 2, some .boolean)
def g_c38 : List (List (Option (Nat × Int × Nat × Nat))) := [[some (2, 2, 0, 0), some (0, 0, 0, 1), some (30, 17, 39, 2), none, none, some (3, 1, 1, 0), some (2, 1, 1, 0), some (1, 0, 0, 1), some (12, 0, 0, 0), some (9, 0, 1, 14), none, none, some (0, 0, 0, 1), some (40, 0, 0, 1), some (2, 2, 0, 0), some (13, 2, 7, 0)], [none, none, some (0, 2, 0, 1), some (0, 30, 1, 2), none, some (30, 11, 43, 3), none, none, some (3, 0, 3, 0), some (2, 0, 3, 0), some (0, (-1), 0, 1), some (10, 0, 1, 32), none, none, some (0, 0, 0, 1), some (40, 0, 0, 1)], [some (2, 2, 0, 0), some (13, 2, 7, 0), none, none, some (30, 11, 29, 1), none, none, some (2, 2, 0, 0), some (13, 2, 7, 0), none, none, some (0, 1, 0, 1), some (0, 9, 1, 2), none, some (30, 11, 43, 3), none], [none, some (3, 0, 4, 1), none, some (2, 0, 4, 1), none, some (0, (-1), 0, 1), some (10, 0, 1, 59), none, none, some (0, 0, 0, 1), some (40, 0, 0, 1), some (2, 2, 0, 0), some (13, 2, 7, 0), none, none, some (30, 11, 29, 1)], [none, none, some (2, 2, 0, 0), some (13, 2, 7, 1), none, none, some (2, 1, 1, 0), some (2, 0, 3, 0), some (2, 0, 4, 1), none, some (30, 13, 44, 4), none, none, some (0, 1, 0, 1), some (40, 0, 0, 1)]]
def g_k38 : List (List (List Nat)) := [[[], [], [94, 644, 646, 4, 114], [], [], [], [], [], [], [], [], [], [], [], [], [9, 448]], [[], [], [], [], [], [98, 663, 664, 665, 103], [], [], [], [], [], [], [], [], [], []], [[], [9, 448], [], [], [83, 654, 609, 610, 103], [], [], [], [9, 448], [], [], [], [], [], [98, 663, 664, 665, 103], []], [[], [], [], [], [], [], [], [], [], [], [], [], [9, 448], [], [], [83, 654, 609, 610, 103]], [[], [], [], [21, 449], [], [], [], [], [], [], [102, 668, 669, 670, 109], [], [], [], []]]
def g_m38 : MethodName × ByteArray × Nat × Option FieldType := (⟨"RideLaws$RideText", "readRing", "()Z"⟩, prog_9_method_5_code, 5, some .boolean)
def g_c39 : List (List (Option (Nat × Int × Nat × Nat))) := [[some (2, 2, 0, 0), some (13, 2, 7, 1), none, none, some (2, 0, 1, 0), some (30, 13, 40, 2), none, none, some (9, 0, 0, 22), none, none, some (2, 2, 0, 0), some (13, 2, 7, 0), none, none, some (0, 4, 0, 1)], [some (30, 11, 37, 2), none, none, some (8, 0, 1, 0), some (1, 0, 0, 1), some (40, 0, 1, 4), some (2, 2, 0, 0), some (13, 2, 7, 0), none, none, some (30, 11, 29, 1), none, none, some (2, 2, 0, 0), some (13, 2, 7, 0), none], [none, some (13, 0, 1, 5), none, none, some (0, 2, 0, 1), some (10, 0, 0, 51), none, none, some (2, 2, 0, 0), some (13, 2, 7, 0), none, none, some (0, 1, 0, 1), some (30, 11, 37, 2), none, none], [some (8, 0, 1, 0), some (1, 0, 0, 1), some (40, 0, 1, 4), some (2, 2, 0, 0), some (13, 2, 7, 1), none, none, some (2, 2, 0, 0), some (13, 2, 7, 0), none, none, some (13, 1, 1, 8), none, none, some (30, 13, 41, 2), none], [none, some (9, 0, 0, 79), none, none, some (2, 2, 0, 0), some (13, 2, 7, 0), none, none, some (0, 3, 0, 1), some (30, 11, 37, 2), none, none, some (8, 0, 1, 0), some (1, 0, 0, 1), some (40, 0, 1, 4), some (2, 2, 0, 0)], [some (13, 2, 7, 0), none, none, some (13, 1, 1, 8), none, none, some (3, 1, 2, 0), some (2, 2, 0, 0), some (13, 2, 7, 0), none, none, some (30, 11, 29, 1), none, none, some (2, 1, 2, 0), some (40, 0, 1, 4)]]
def g_k39 : List (List (List Nat)) := [[[], [21, 449], [], [], [], [80, 648, 649, 650, 109], [], [], [], [], [], [], [9, 448], [], [], []], [[53, 636, 637, 638, 103], [], [], [], [], [], [], [9, 448], [], [], [83, 654, 609, 610, 103], [], [], [], [9, 448], []], [[], [41, 202], [], [], [], [], [], [], [], [9, 448], [], [], [], [53, 636, 637, 638, 103], [], []], [[], [], [], [], [21, 449], [], [], [], [9, 448], [], [], [86, 209], [], [], [90, 655, 656, 657, 109], []], [[], [], [], [], [], [9, 448], [], [], [], [53, 636, 637, 638, 103], [], [], [], [], [], []], [[9, 448], [], [], [86, 209], [], [], [], [], [9, 448], [], [], [83, 654, 609, 610, 103], [], [], [], []]]
def g_m39 : MethodName × ByteArray × Nat × Option FieldType := (⟨"RideLaws$RideText", "readNew", "(I)J"⟩, prog_9_method_4_code, 4, some .long)
def g_c40 : List (List (Option (Nat × Int × Nat × Nat))) := [[some (2, 2, 0, 0), some (13, 2, 3, 0), none, none, some (2, 0, 1, 0), some (15, 0, 0, 0), some (21, 0, 2, 0), none, none, some (2, 0, 1, 0), some (22, 0, 0, 0), some (10, 0, 2, 18), none, none, some (0, 1, 0, 1), some (11, 0, 0, 19)], [none, none, some (0, 0, 0, 1), some (40, 0, 0, 1)]]
def g_k40 : List (List (List Nat)) := [[[], [9, 254], [], [], [], [], [58, 652], [], [], [], [], [], [], [], [], []], [[], [], [], []]]
def g_m40 : MethodName × ByteArray × Nat × Option FieldType := (⟨"RideLaws$Plan", "isFull", "(I)Z"⟩, prog_7_method_4_code, 2, some .boolean)
def g_c41 : List (List (Option (Nat × Int × Nat × Nat))) := [[some (0, 0, 0, 1), some (3, 0, 3, 0), some (2, 0, 3, 0), some (0, 5, 0, 1), some (10, 0, 3, 25), none, none, some (2, 2, 0, 0), some (2, 0, 3, 0), some (2, 1, 1, 0), some (30, 13, 42, 3), none, none, some (0, (-1), 0, 1), some (10, 0, 0, 19), none], [none, some (0, 1, 0, 1), some (40, 0, 0, 1), some (4, 1, 3, 0), none, none, some (11, 0, 0, 2), none, none, some (0, 0, 0, 1), some (40, 0, 0, 1)]]
def g_k41 : List (List (List Nat)) := [[[], [], [], [], [], [], [], [], [], [], [61, 659, 660, 661, 109], [], [], [], [], []], [[], [], [], [], [], [], [], [], [], [], []]]
def g_m41 : MethodName × ByteArray × Nat × Option FieldType := (⟨"RideLaws$Plan", "isTold", "(J)Z"⟩, prog_7_method_5_code, 4, some .boolean)
def g_c42 : List (List (Option (Nat × Int × Nat × Nat))) := [[some (0, 0, 0, 1), some (3, 0, 4, 1), none, some (2, 0, 4, 1), none, some (2, 2, 0, 0), some (13, 2, 3, 0), none, none, some (2, 0, 1, 0), some (15, 0, 0, 0), some (10, 0, 3, 40), none, none, some (2, 2, 0, 0), some (13, 2, 3, 1)], [none, none, some (2, 0, 1, 0), some (0, 8, 1, 2), none, some (5, 0, 2, 0), some (2, 0, 4, 1), none, some (5, 0, 0, 0), some (15, 0, 2, 0), some (2, 1, 2, 0), some (12, 0, 0, 0), some (9, 0, 1, 34), none, none, some (2, 0, 4, 1)], [none, some (40, 0, 0, 0), some (4, 1, 4, 0), none, none, some (11, 0, 0, 3), none, none, some (0, (-1), 0, 1), some (40, 0, 0, 0)]]
def g_k42 : List (List (List Nat)) := [[[], [], [], [], [], [], [9, 254], [], [], [], [], [], [], [], [], [15, 259]], [[], [], [], [], [], [], [], [], [], [], [], [], [], [], [], []], [[], [], [], [], [], [], [], [], [], []]]
def g_m42 : MethodName × ByteArray × Nat × Option FieldType := (⟨"RideLaws$Plan", "numberOf", "(IJ)I"⟩, prog_7_method_6_code, 5, some .int)
def g_c43 : List (List (Option (Nat × Int × Nat × Nat))) := [[some (2, 2, 0, 0), some (13, 0, 1, 5), none, none, some (0, 4, 0, 1), some (10, 0, 0, 16), none, none, some (2, 2, 0, 0), some (0, 1, 0, 1), some (30, 11, 37, 2), none, none, some (8, 0, 1, 0), some (0, (-1), 0, 1), some (40, 0, 0, 0)], [some (2, 2, 0, 0), some (13, 0, 1, 7), none, none, some (2, 0, 1, 0), some (10, 0, 2, 32), none, none, some (2, 2, 0, 0), some (13, 0, 1, 7), none, none, some (2, 0, 2, 0), some (10, 0, 5, 40), none, none], [some (2, 2, 0, 0), some (0, 2, 0, 1), some (30, 11, 37, 2), none, none, some (8, 0, 1, 0), some (0, (-1), 0, 1), some (40, 0, 0, 0), some (2, 2, 0, 0), some (13, 0, 1, 7), none, none, some (40, 0, 0, 0)]]
def g_k43 : List (List (List Nat)) := [[[], [29, 200], [], [], [], [], [], [], [], [], [92, 667, 637, 638, 103], [], [], [], [], []], [[], [35, 205], [], [], [], [], [], [], [], [35, 205], [], [], [], [], [], []], [[], [], [92, 667, 637, 638, 103], [], [], [], [], [], [], [35, 205], [], [], []]]
def g_m43 : MethodName × ByteArray × Nat × Option FieldType := (⟨"RideLaws$Reader", "peekNumber", "(II)I"⟩, prog_8_method_16_code, 3, some .int)
def g_c44 : List (List (Option (Nat × Int × Nat × Nat))) := [[some (2, 2, 0, 0), some (0, 0, 0, 1), some (2, 1, 1, 0), some (30, 13, 45, 3), none, none, some (3, 0, 5, 1), none, some (2, 2, 0, 0), some (13, 2, 3, 2), none, none, some (2, 0, 5, 1), none, some (2, 0, 3, 0), some (16, 0, 0, 4)], [some (2, 2, 0, 0), some (13, 2, 3, 3), none, none, some (2, 0, 5, 1), none, some (2, 0, 4, 1), none, some (16, 0, 0, 4), some (40, 0, 2, 0)]]
def g_k44 : List (List (List Nat)) := [[[], [], [], [65, 672, 673, 674, 109], [], [], [], [], [], [19, 260], [], [], [], [], [], []], [[], [22, 262], [], [], [], [], [], [], [], []]]
def g_m44 : MethodName × ByteArray × Nat × Option FieldType := (⟨"RideLaws$Plan", "addRing", "(JII)V"⟩, prog_7_method_9_code, 6, none)
def g_c45 : List (List (Option (Nat × Int × Nat × Nat))) := [[some (2, 2, 0, 0), some (13, 2, 3, 0), none, none, some (2, 0, 1, 0), some (15, 0, 0, 0), some (3, 0, 4, 1), none, some (2, 2, 0, 0), some (13, 2, 3, 1), none, none, some (2, 0, 1, 0), some (0, 8, 1, 2), none, some (5, 0, 2, 0)], [some (2, 0, 4, 1), none, some (5, 0, 0, 0), some (2, 1, 2, 0), some (16, 0, 2, 4), some (2, 2, 0, 0), some (13, 2, 3, 0), none, none, some (2, 0, 1, 0), some (8, 0, 2, 0), some (15, 0, 0, 0), some (0, 1, 0, 1), some (5, 0, 0, 0), some (16, 0, 0, 4), some (2, 0, 4, 1)], [none, some (40, 0, 0, 0)]]
def g_k45 : List (List (List Nat)) := [[[], [9, 254], [], [], [], [], [], [], [], [15, 259], [], [], [], [], [], []], [[], [], [], [], [], [], [9, 254], [], [], [], [], [], [], [], [], []], [[], []]]
def g_m45 : MethodName × ByteArray × Nat × Option FieldType := (⟨"RideLaws$Plan", "addNamed", "(IJ)I"⟩, prog_7_method_8_code, 5, some .int)
def g_c46 : List (List (Option (Nat × Int × Nat × Nat))) := [[some (2, 2, 0, 0), some (0, 1, 0, 1), some (30, 17, 39, 2), none, none, some (3, 1, 1, 0), some (2, 1, 1, 0), some (1, 0, 0, 1), some (12, 0, 0, 0), some (9, 0, 1, 14), none, none, some (0, 0, 0, 1), some (40, 0, 0, 1), some (2, 2, 0, 0), some (13, 2, 7, 0)], [none, none, some (2, 2, 0, 0), some (13, 2, 7, 1), none, none, some (0, 0, 0, 1), some (30, 11, 47, 3), none, none, some (3, 0, 3, 0), some (2, 0, 3, 0), some (0, (-1), 0, 1), some (10, 0, 1, 34), none, none], [some (0, 0, 0, 1), some (40, 0, 0, 1), some (2, 2, 0, 0), some (13, 2, 7, 0), none, none, some (30, 11, 29, 1), none, none, some (2, 2, 0, 0), some (13, 2, 7, 0), none, none, some (0, 0, 0, 1), some (2, 2, 0, 0), some (13, 2, 7, 1)], [none, none, some (13, 2, 3, 2), none, none, some (2, 0, 3, 0), some (15, 0, 0, 0), some (0, 1, 0, 1), some (5, 0, 1, 0), some (30, 11, 43, 3), none, none, some (3, 0, 4, 1), none, some (2, 0, 4, 1), none], [some (0, (-1), 0, 1), some (10, 0, 1, 70), none, none, some (0, 0, 0, 1), some (40, 0, 0, 1), some (2, 2, 0, 0), some (2, 0, 3, 0), some (2, 0, 4, 1), none, some (30, 17, 48, 3), none, none, some (9, 0, 0, 89), none, none], [some (2, 2, 0, 0), some (13, 2, 7, 0), none, none, some (0, 3, 0, 1), some (30, 11, 37, 2), none, none, some (40, 0, 0, 1), some (2, 2, 0, 0), some (13, 2, 7, 0), none, none, some (30, 11, 29, 1), none, none], [some (2, 2, 0, 0), some (13, 2, 7, 2), none, none, some (13, 2, 4, 6), none, none, some (2, 2, 0, 0), some (13, 2, 7, 1), none, none, some (2, 1, 1, 0), some (2, 0, 3, 0), some (30, 13, 49, 3), none, none], [some (2, 0, 4, 1), none, some (16, 0, 0, 4), some (0, 1, 0, 1), some (40, 0, 0, 1)]]
def g_k46 : List (List (List Nat)) := [[[], [], [94, 644, 646, 4, 114], [], [], [], [], [], [], [], [], [], [], [], [], [9, 448]], [[], [], [], [21, 449], [], [], [], [106, 680, 681, 682, 103], [], [], [], [], [], [], [], []], [[], [], [], [9, 448], [], [], [83, 654, 609, 610, 103], [], [], [], [9, 448], [], [], [], [], [21, 449]], [[], [], [110, 261], [], [], [], [], [], [], [98, 663, 664, 665, 103], [], [], [], [], [], []], [[], [], [], [], [], [], [], [], [], [], [114, 685, 687, 6, 114], [], [], [], [], []], [[], [9, 448], [], [], [], [53, 636, 637, 638, 103], [], [], [], [], [9, 448], [], [], [83, 654, 609, 610, 103], [], []], [[], [26, 450], [], [], [118, 329], [], [], [], [21, 449], [], [], [], [], [121, 689, 690, 691, 109], [], []], [[], [], [], [], []]]
def g_m46 : MethodName × ByteArray × Nat × Option FieldType := (⟨"RideLaws$RideText", "readSeat", "()Z"⟩, prog_9_method_6_code, 5, some .boolean)
def g_c47 : List (List (Option (Nat × Int × Nat × Nat))) := [[some (2, 2, 0, 0), some (13, 0, 1, 5), none, none, some (0, 2, 0, 1), some (10, 0, 0, 16), none, none, some (2, 2, 0, 0), some (0, 1, 0, 1), some (30, 11, 37, 2), none, none, some (8, 0, 1, 0), some (0, (-1), 0, 1), some (40, 0, 0, 0)], [some (2, 2, 1, 0), some (2, 0, 2, 0), some (2, 2, 0, 0), some (13, 1, 1, 8), none, none, some (30, 13, 42, 3), none, none, some (3, 0, 3, 0), some (2, 0, 3, 0), some (0, (-1), 0, 1), some (10, 0, 1, 37), none, none, some (2, 2, 0, 0)], [some (0, 3, 0, 1), some (30, 11, 37, 2), none, none, some (8, 0, 1, 0), some (2, 0, 3, 0), some (40, 0, 0, 0)]]
def g_k47 : List (List (List Nat)) := [[[], [29, 200], [], [], [], [], [], [], [], [], [92, 667, 637, 638, 103], [], [], [], [], []], [[], [], [], [38, 208], [], [], [95, 684, 660, 661, 109], [], [], [], [], [], [], [], [], []], [[], [92, 667, 637, 638, 103], [], [], [], [], []]]
def g_m47 : MethodName × ByteArray × Nat × Option FieldType := (⟨"RideLaws$Reader", "peekNamed", "(LRideLaws$Plan;I)I"⟩, prog_8_method_17_code, 4, some .int)
def g_c48 : List (List (Option (Nat × Int × Nat × Nat))) := [[some (0, 0, 0, 1), some (3, 0, 3, 0), some (2, 0, 3, 0), some (2, 2, 0, 0), some (13, 2, 7, 1), none, none, some (13, 2, 3, 0), none, none, some (0, 1, 0, 1), some (15, 0, 0, 0), some (10, 0, 3, 49), none, none, some (2, 2, 0, 0)], [some (13, 2, 7, 1), none, none, some (13, 2, 3, 4), none, none, some (2, 0, 3, 0), some (15, 0, 0, 0), some (2, 0, 1, 0), some (10, 0, 1, 43), none, none, some (2, 2, 0, 0), some (13, 2, 7, 2), none, none], [some (13, 2, 4, 6), none, none, some (2, 0, 3, 0), some (15, 0, 0, 0), some (2, 0, 2, 0), some (10, 0, 1, 43), none, none, some (0, 1, 0, 1), some (40, 0, 0, 1), some (4, 1, 3, 0), none, none, some (11, 0, 0, 2), none], [none, some (0, 0, 0, 1), some (40, 0, 0, 1)]]
def g_k48 : List (List (List Nat)) := [[[], [], [], [], [21, 449], [], [], [125, 256], [], [], [], [], [], [], [], []], [[21, 449], [], [], [128, 264], [], [], [], [], [], [], [], [], [], [26, 450], [], []], [[118, 329], [], [], [], [], [], [], [], [], [], [], [], [], [], [], []], [[], [], []]]
def g_m48 : MethodName × ByteArray × Nat × Option FieldType := (⟨"RideLaws$RideText", "isTaken", "(II)Z"⟩, prog_9_method_7_code, 4, some .boolean)
def g_c49 : List (List (Option (Nat × Int × Nat × Nat))) := [[some (2, 2, 0, 0), some (0, 1, 0, 1), some (2, 1, 1, 0), some (30, 13, 45, 3), none, none, some (3, 0, 4, 1), none, some (2, 2, 0, 0), some (13, 2, 3, 4), none, none, some (2, 0, 4, 1), none, some (2, 0, 3, 0), some (16, 0, 0, 4)], [some (2, 2, 0, 0), some (13, 2, 3, 6), none, none, some (2, 0, 4, 1), none, some (2, 2, 0, 0), some (13, 2, 3, 2), none, none, some (2, 0, 3, 0), some (15, 0, 0, 0), some (16, 0, 0, 4), some (2, 2, 0, 0), some (13, 2, 3, 5), none], [none, some (2, 0, 4, 1), none, some (2, 2, 0, 0), some (13, 2, 3, 2), none, none, some (2, 0, 3, 0), some (15, 0, 0, 0), some (9, 0, 5, 60), none, none, some (2, 2, 0, 0), some (13, 2, 3, 3), none, none], [some (2, 0, 3, 0), some (15, 0, 0, 0), some (2, 2, 0, 0), some (13, 2, 3, 2), none, none, some (2, 0, 3, 0), some (15, 0, 0, 0), some (5, 0, 10, 0), some (11, 0, 0, 61), none, none, some (0, 0, 0, 1), some (16, 0, 0, 4), some (2, 0, 4, 1), none], [some (40, 0, 0, 0)]]
def g_k49 : List (List (List Nat)) := [[[], [], [], [65, 672, 673, 674, 109], [], [], [], [], [], [25, 263], [], [], [], [], [], []], [[], [31, 267], [], [], [], [], [], [19, 260], [], [], [], [], [], [], [28, 266], []], [[], [], [], [], [19, 260], [], [], [], [], [], [], [], [], [22, 262], [], []], [[], [], [], [19, 260], [], [], [], [], [], [], [], [], [], [], [], []], [[]]]
def g_m49 : MethodName × ByteArray × Nat × Option FieldType := (⟨"RideLaws$Plan", "addSeat", "(JI)I"⟩, prog_7_method_10_code, 5, some .int)
def g_c50 : List (List (Option (Nat × Int × Nat × Nat))) := [[some (2, 2, 0, 0), some (0, 2, 0, 1), some (30, 17, 39, 2), none, none, some (3, 1, 1, 0), some (2, 1, 1, 0), some (1, 0, 0, 1), some (12, 0, 0, 0), some (9, 0, 1, 14), none, none, some (0, 0, 0, 1), some (40, 0, 0, 1), some (2, 2, 0, 0), some (13, 2, 7, 1)], [none, none, some (0, 2, 0, 1), some (2, 1, 1, 0), some (30, 13, 45, 3), none, none, some (8, 0, 1, 0), some (0, 1, 0, 1), some (40, 0, 0, 1)]]
def g_k50 : List (List (List Nat)) := [[[], [], [94, 644, 646, 4, 114], [], [], [], [], [], [], [], [], [], [], [], [], [21, 449]], [[], [], [], [], [131, 697, 673, 674, 109], [], [], [], [], []]]
def g_m50 : MethodName × ByteArray × Nat × Option FieldType := (⟨"RideLaws$RideText", "readWord", "()Z"⟩, prog_9_method_8_code, 3, some .boolean)
def g_c51 : List (List (Option (Nat × Int × Nat × Nat))) := [[some (2, 2, 0, 0), some (0, 3, 0, 1), some (30, 17, 39, 2), none, none, some (3, 1, 1, 0), some (2, 1, 1, 0), some (1, 0, 0, 1), some (12, 0, 0, 0), some (9, 0, 1, 14), none, none, some (0, 0, 0, 1), some (40, 0, 0, 1), some (2, 2, 0, 0), some (13, 2, 7, 0)], [none, none, some (13, 0, 1, 5), none, none, some (0, 2, 0, 1), some (10, 0, 0, 37), none, none, some (2, 2, 0, 0), some (13, 2, 7, 1), none, none, some (0, 3, 0, 1), some (2, 1, 1, 0), some (30, 13, 45, 3)], [none, none, some (8, 0, 1, 0), some (0, 1, 0, 1), some (40, 0, 0, 1), some (2, 2, 0, 0), some (13, 2, 7, 0), none, none, some (2, 2, 0, 0), some (13, 2, 7, 1), none, none, some (0, 1, 0, 1), some (30, 11, 47, 3), none], [none, some (3, 0, 3, 0), some (2, 0, 3, 0), some (0, (-1), 0, 1), some (10, 0, 1, 57), none, none, some (0, 0, 0, 1), some (40, 0, 0, 1), some (2, 2, 0, 0), some (13, 2, 7, 2), none, none, some (13, 2, 4, 7), none, none], [some (2, 0, 3, 0), some (15, 0, 0, 0), some (0, (-1), 0, 1), some (10, 0, 0, 79), none, none, some (2, 2, 0, 0), some (13, 2, 7, 0), none, none, some (0, 3, 0, 1), some (30, 11, 37, 2), none, none, some (40, 0, 0, 1), some (2, 2, 0, 0)], [some (13, 2, 7, 0), none, none, some (30, 11, 29, 1), none, none, some (2, 2, 0, 0), some (13, 2, 7, 2), none, none, some (2, 2, 0, 0), some (13, 2, 7, 1), none, none, some (0, 3, 0, 1), some (2, 1, 1, 0)], [some (30, 13, 45, 3), none, none, some (2, 0, 3, 0), some (30, 14, 52, 3), none, none, some (0, 1, 0, 1), some (40, 0, 0, 1)]]
def g_k51 : List (List (List Nat)) := [[[], [], [94, 644, 646, 4, 114], [], [], [], [], [], [], [], [], [], [], [], [], [9, 448]], [[], [], [41, 202], [], [], [], [], [], [], [], [21, 449], [], [], [], [], [131, 697, 673, 674, 109]], [[], [], [], [], [], [], [9, 448], [], [], [], [21, 449], [], [], [], [106, 680, 681, 682, 103], []], [[], [], [], [], [], [], [], [], [], [], [26, 450], [], [], [135, 333], [], []], [[], [], [], [], [], [], [], [9, 448], [], [], [], [53, 636, 637, 638, 103], [], [], [], []], [[9, 448], [], [], [83, 654, 609, 610, 103], [], [], [], [26, 450], [], [], [], [21, 449], [], [], [], []], [[131, 697, 673, 674, 109], [], [], [], [138, 702, 703, 704, 111], [], [], [], []]]
def g_m51 : MethodName × ByteArray × Nat × Option FieldType := (⟨"RideLaws$RideText", "readRider", "()Z"⟩, prog_9_method_9_code, 4, some .boolean)
def g_c52 : List (List (Option (Nat × Int × Nat × Nat))) := [[some (2, 2, 0, 0), some (13, 2, 4, 8), none, none, some (2, 0, 1, 0), some (2, 0, 2, 0), some (16, 0, 0, 4), some (2, 2, 0, 0), some (13, 2, 4, 7), none, none, some (2, 0, 2, 0), some (2, 0, 1, 0), some (16, 0, 0, 4), some (40, 0, 2, 0)]]
def g_k52 : List (List (List Nat)) := [[[], [37, 334], [], [], [], [], [], [], [34, 331], [], [], [], [], [], []]]
def g_m52 : MethodName × ByteArray × Nat × Option FieldType := (⟨"RideLaws$State", "sitDown", "(II)V"⟩, prog_12_method_13_code, 3, none)
def g_c53 : List (List (Option (Nat × Int × Nat × Nat))) := [[some (2, 2, 0, 0), some (13, 2, 7, 0), none, none, some (30, 11, 29, 1), none, none, some (2, 2, 0, 0), some (13, 2, 7, 0), none, none, some (2, 2, 0, 0), some (13, 2, 7, 1), none, none, some (0, 3, 0, 1)], [some (30, 11, 47, 3), none, none, some (3, 0, 1, 0), some (2, 0, 1, 0), some (0, (-1), 0, 1), some (10, 0, 1, 27), none, none, some (0, 0, 0, 1), some (40, 0, 0, 1), some (2, 2, 0, 0), some (13, 2, 7, 2), none, none, some (2, 0, 1, 0)], [some (30, 14, 54, 2), none, none, some (9, 0, 0, 47), none, none, some (2, 2, 0, 0), some (13, 2, 7, 0), none, none, some (0, 4, 0, 1), some (30, 11, 37, 2), none, none, some (40, 0, 0, 1), some (2, 2, 0, 0)], [some (13, 2, 7, 0), none, none, some (30, 11, 29, 1), none, none, some (2, 2, 0, 0), some (13, 2, 7, 0), none, none, some (2, 2, 0, 0), some (13, 2, 7, 1), none, none, some (0, 2, 0, 1), some (30, 11, 47, 3)], [none, none, some (3, 0, 2, 0), some (2, 0, 2, 0), some (0, (-1), 0, 1), some (10, 0, 1, 74), none, none, some (0, 0, 0, 1), some (40, 0, 0, 1), some (2, 2, 0, 0), some (13, 2, 7, 0), none, none, some (30, 11, 29, 1), none], [none, some (2, 2, 0, 0), some (13, 2, 7, 2), none, none, some (2, 0, 1, 0), some (2, 0, 2, 0), some (30, 14, 55, 3), none, none, some (0, 1, 0, 1), some (40, 0, 0, 1)]]
def g_k53 : List (List (List Nat)) := [[[], [9, 448], [], [], [83, 654, 609, 610, 103], [], [], [], [9, 448], [], [], [], [21, 449], [], [], []], [[106, 680, 681, 682, 103], [], [], [], [], [], [], [], [], [], [], [], [26, 450], [], [], []], [[142, 710, 711, 712, 111], [], [], [], [], [], [], [9, 448], [], [], [], [53, 636, 637, 638, 103], [], [], [], []], [[9, 448], [], [], [83, 654, 609, 610, 103], [], [], [], [9, 448], [], [], [], [21, 449], [], [], [], [106, 680, 681, 682, 103]], [[], [], [], [], [], [], [], [], [], [], [], [9, 448], [], [], [83, 654, 609, 610, 103], []], [[], [], [26, 450], [], [], [], [], [146, 714, 715, 716, 111], [], [], [], []]]
def g_m53 : MethodName × ByteArray × Nat × Option FieldType := (⟨"RideLaws$RideText", "readSays", "()Z"⟩, prog_9_method_10_code, 3, some .boolean)
def g_c54 : List (List (Option (Nat × Int × Nat × Nat))) := [[some (2, 2, 0, 0), some (13, 2, 4, 9), none, none, some (2, 0, 1, 0), some (15, 0, 0, 0), some (0, 6, 1, 2), none, some (10, 0, 2, 15), none, none, some (0, 1, 0, 1), some (11, 0, 0, 16), none, none, some (0, 0, 0, 1)], [some (40, 0, 0, 0)]]
def g_k54 : List (List (List Nat)) := [[[], [40, 338], [], [], [], [], [], [], [], [], [], [], [], [], [], []], [[]]]
def g_m54 : MethodName × ByteArray × Nat × Option FieldType := (⟨"RideLaws$State", "whyNotLearn", "(I)I"⟩, prog_12_method_11_code, 2, some .int)
def g_c55 : List (List (Option (Nat × Int × Nat × Nat))) := [[some (2, 2, 0, 0), some (13, 2, 4, 10), none, none, some (2, 0, 1, 0), some (0, 6, 1, 2), none, some (5, 0, 2, 0), some (2, 2, 0, 0), some (13, 2, 4, 9), none, none, some (2, 0, 1, 0), some (15, 0, 0, 0), some (5, 0, 0, 0), some (2, 0, 2, 0)], [some (16, 0, 0, 4), some (2, 2, 0, 0), some (13, 2, 4, 9), none, none, some (2, 0, 1, 0), some (8, 0, 2, 0), some (15, 0, 0, 0), some (0, 1, 0, 1), some (5, 0, 0, 0), some (16, 0, 0, 4), some (40, 0, 2, 0)]]
def g_k55 : List (List (List Nat)) := [[[], [43, 342], [], [], [], [], [], [], [], [40, 338], [], [], [], [], [], []], [[], [], [40, 338], [], [], [], [], [], [], [], [], []]]
def g_m55 : MethodName × ByteArray × Nat × Option FieldType := (⟨"RideLaws$State", "addWord", "(II)V"⟩, prog_12_method_15_code, 3, none)
def g_c56 : List (List (Option (Nat × Int × Nat × Nat))) := [[some (2, 2, 0, 0), some (0, 4, 0, 1), some (30, 17, 39, 2), none, none, some (3, 1, 1, 0), some (2, 1, 1, 0), some (1, 0, 0, 1), some (12, 0, 0, 0), some (9, 0, 1, 14), none, none, some (0, 0, 0, 1), some (40, 0, 0, 1), some (2, 2, 0, 0), some (13, 2, 7, 0)], [none, none, some (2, 2, 0, 0), some (13, 2, 7, 1), none, none, some (0, 2, 0, 1), some (30, 11, 47, 3), none, none, some (3, 0, 3, 0), some (2, 0, 3, 0), some (0, (-1), 0, 1), some (10, 0, 1, 34), none, none], [some (0, 0, 0, 1), some (40, 0, 0, 1), some (2, 2, 0, 0), some (13, 2, 7, 0), none, none, some (30, 11, 29, 1), none, none, some (2, 2, 0, 0), some (13, 2, 7, 0), none, none, some (2, 2, 0, 0), some (13, 2, 7, 1), none], [none, some (0, 2, 0, 1), some (30, 11, 47, 3), none, none, some (3, 0, 4, 1), none, some (2, 0, 4, 1), none, some (0, (-1), 0, 1), some (10, 0, 1, 63), none, none, some (0, 0, 0, 1), some (40, 0, 0, 1), some (2, 2, 0, 0)], [some (13, 2, 7, 1), none, none, some (13, 2, 3, 10), none, none, some (2, 0, 3, 0), some (0, 8, 1, 2), none, some (5, 0, 2, 0), some (2, 0, 4, 1), none, some (5, 0, 0, 0), some (15, 0, 0, 0), some (0, (-1), 0, 1), some (10, 0, 0, 91)], [none, none, some (2, 2, 0, 0), some (13, 2, 7, 0), none, none, some (0, 3, 0, 1), some (30, 11, 37, 2), none, none, some (40, 0, 0, 1), some (2, 2, 0, 0), some (13, 2, 7, 0), none, none, some (30, 11, 29, 1)], [none, none, some (2, 2, 0, 0), some (13, 2, 7, 1), none, none, some (2, 1, 1, 0), some (2, 0, 3, 0), some (2, 0, 4, 1), none, some (30, 13, 57, 4), none, none, some (0, 1, 0, 1), some (40, 0, 0, 1)]]
def g_k56 : List (List (List Nat)) := [[[], [], [94, 644, 646, 4, 114], [], [], [], [], [], [], [], [], [], [], [], [], [9, 448]], [[], [], [], [21, 449], [], [], [], [106, 680, 681, 682, 103], [], [], [], [], [], [], [], []], [[], [], [], [9, 448], [], [], [83, 654, 609, 610, 103], [], [], [], [9, 448], [], [], [], [21, 449], []], [[], [], [106, 680, 681, 682, 103], [], [], [], [], [], [], [], [], [], [], [], [], []], [[21, 449], [], [], [149, 281], [], [], [], [], [], [], [], [], [], [], [], []], [[], [], [], [9, 448], [], [], [], [53, 636, 637, 638, 103], [], [], [], [], [9, 448], [], [], [83, 654, 609, 610, 103]], [[], [], [], [21, 449], [], [], [], [], [], [], [152, 722, 723, 724, 109], [], [], [], []]]
def g_m56 : MethodName × ByteArray × Nat × Option FieldType := (⟨"RideLaws$RideText", "readLaw", "()Z"⟩, prog_9_method_11_code, 5, some .boolean)
def g_c57 : List (List (Option (Nat × Int × Nat × Nat))) := [[some (2, 2, 0, 0), some (0, 4, 0, 1), some (2, 1, 1, 0), some (30, 13, 45, 3), none, none, some (3, 0, 5, 1), none, some (2, 2, 0, 0), some (13, 2, 3, 7), none, none, some (2, 0, 5, 1), none, some (2, 0, 3, 0), some (16, 0, 0, 4)], [some (2, 2, 0, 0), some (13, 2, 3, 8), none, none, some (2, 0, 5, 1), none, some (2, 0, 4, 1), none, some (16, 0, 0, 4), some (2, 2, 0, 0), some (13, 2, 3, 10), none, none, some (2, 0, 3, 0), some (0, 8, 1, 2), none], [some (5, 0, 2, 0), some (2, 0, 4, 1), none, some (5, 0, 0, 0), some (2, 0, 5, 1), none, some (16, 0, 0, 4), some (40, 0, 2, 0)]]
def g_k57 : List (List (List Nat)) := [[[], [], [], [65, 672, 673, 674, 109], [], [], [], [], [], [34, 269], [], [], [], [], [], []], [[], [37, 272], [], [], [], [], [], [], [], [], [43, 280], [], [], [], [], []], [[], [], [], [], [], [], [], []]]
def g_m57 : MethodName × ByteArray × Nat × Option FieldType := (⟨"RideLaws$Plan", "addLaw", "(JII)V"⟩, prog_7_method_11_code, 6, none)
def g_c58 : List (List (Option (Nat × Int × Nat × Nat))) := [[some (2, 2, 0, 0), some (13, 2, 7, 0), none, none, some (30, 11, 29, 1), none, none, some (2, 2, 0, 0), some (13, 2, 7, 0), none, none, some (2, 2, 0, 0), some (13, 2, 7, 1), none, none, some (0, 4, 0, 1)], [some (30, 11, 47, 3), none, none, some (3, 0, 1, 0), some (2, 0, 1, 0), some (0, (-1), 0, 1), some (10, 0, 1, 27), none, none, some (0, 0, 0, 1), some (40, 0, 0, 1), some (2, 2, 0, 0), some (13, 2, 7, 0), none, none, some (30, 11, 29, 1)], [none, none, some (2, 2, 0, 0), some (13, 2, 7, 0), none, none, some (2, 2, 0, 0), some (13, 2, 7, 1), none, none, some (0, 4, 0, 1), some (30, 11, 47, 3), none, none, some (3, 0, 2, 0), some (2, 0, 2, 0)], [some (0, (-1), 0, 1), some (10, 0, 1, 54), none, none, some (0, 0, 0, 1), some (40, 0, 0, 1), some (2, 0, 1, 0), some (2, 0, 2, 0), some (10, 0, 0, 75), none, none, some (2, 2, 0, 0), some (13, 2, 7, 1), none, none, some (13, 2, 3, 9)], [none, none, some (2, 0, 1, 0), some (15, 0, 0, 0), some (2, 0, 2, 0), some (5, 0, 7, 0), some (0, 1, 0, 1), some (5, 0, 3, 0), some (9, 0, 0, 84), none, none, some (2, 2, 0, 0), some (13, 2, 7, 0), none, none, some (0, 3, 0, 1)], [some (30, 11, 37, 2), none, none, some (40, 0, 0, 1), some (2, 2, 0, 0), some (13, 2, 7, 0), none, none, some (30, 11, 29, 1), none, none, some (2, 2, 0, 0), some (13, 2, 7, 1), none, none, some (2, 0, 1, 0)], [some (2, 0, 2, 0), some (30, 13, 59, 3), none, none, some (0, 1, 0, 1), some (40, 0, 0, 1)]]
def g_k58 : List (List (List Nat)) := [[[], [9, 448], [], [], [83, 654, 609, 610, 103], [], [], [], [9, 448], [], [], [], [21, 449], [], [], []], [[106, 680, 681, 682, 103], [], [], [], [], [], [], [], [], [], [], [], [9, 448], [], [], [83, 654, 609, 610, 103]], [[], [], [], [9, 448], [], [], [], [21, 449], [], [], [], [106, 680, 681, 682, 103], [], [], [], []], [[], [], [], [], [], [], [], [], [], [], [], [], [21, 449], [], [], [155, 277]], [[], [], [], [], [], [], [], [], [], [], [], [], [9, 448], [], [], []], [[53, 636, 637, 638, 103], [], [], [], [], [9, 448], [], [], [83, 654, 609, 610, 103], [], [], [], [21, 449], [], [], []], [[], [158, 730, 731, 732, 109], [], [], [], []]]
def g_m58 : MethodName × ByteArray × Nat × Option FieldType := (⟨"RideLaws$RideText", "readClash", "()Z"⟩, prog_9_method_12_code, 3, some .boolean)
def g_c59 : List (List (Option (Nat × Int × Nat × Nat))) := [[some (2, 2, 0, 0), some (13, 2, 3, 9), none, none, some (2, 0, 1, 0), some (8, 0, 2, 0), some (15, 0, 0, 0), some (0, 1, 0, 1), some (2, 0, 2, 0), some (5, 0, 6, 0), some (5, 0, 4, 0), some (16, 0, 0, 4), some (2, 2, 0, 0), some (13, 2, 3, 9), none, none], [some (2, 0, 2, 0), some (8, 0, 2, 0), some (15, 0, 0, 0), some (0, 1, 0, 1), some (2, 0, 1, 0), some (5, 0, 6, 0), some (5, 0, 4, 0), some (16, 0, 0, 4), some (40, 0, 2, 0)]]
def g_k59 : List (List (List Nat)) := [[[], [40, 275], [], [], [], [], [], [], [], [], [], [], [], [40, 275], [], []], [[], [], [], [], [], [], [], [], []]]
def g_m59 : MethodName × ByteArray × Nat × Option FieldType := (⟨"RideLaws$Plan", "addClash", "(II)V"⟩, prog_7_method_12_code, 3, none)
def g_c60 : List (List (Option (Nat × Int × Nat × Nat))) := [[some (2, 2, 0, 0), some (2, 0, 1, 0), some (30, 11, 61, 2), none, none, some (9, 0, 1, 14), none, none, some (2, 2, 0, 0), some (0, 1, 0, 1), some (30, 11, 37, 2), none, none, some (40, 0, 0, 1), some (2, 2, 0, 0), some (30, 11, 29, 1)], [none, none, some (0, 1, 0, 1), some (40, 0, 0, 1)]]
def g_k60 : List (List (List Nat)) := [[[], [], [89, 738, 739, 740, 103], [], [], [], [], [], [], [], [92, 667, 637, 638, 103], [], [], [], [], [66, 608, 609, 610, 103]], [[], [], [], []]]
def g_m60 : MethodName × ByteArray × Nat × Option FieldType := (⟨"RideLaws$Reader", "takeSign", "(I)Z"⟩, prog_8_method_15_code, 2, some .boolean)
def g_c61 : List (List (Option (Nat × Int × Nat × Nat))) := [[some (2, 2, 0, 0), some (13, 0, 1, 5), none, none, some (0, 5, 0, 1), some (10, 0, 1, 20), none, none, some (2, 2, 0, 0), some (13, 0, 1, 7), none, none, some (2, 0, 1, 0), some (10, 0, 1, 20), none, none], [some (0, 1, 0, 1), some (11, 0, 0, 21), none, none, some (0, 0, 0, 1), some (40, 0, 0, 1)]]
def g_k61 : List (List (List Nat)) := [[[], [29, 200], [], [], [], [], [], [], [], [35, 205], [], [], [], [], [], []], [[], [], [], [], [], []]]
def g_m61 : MethodName × ByteArray × Nat × Option FieldType := (⟨"RideLaws$Reader", "isSignOf", "(I)Z"⟩, prog_8_method_14_code, 2, some .boolean)
def g_c62 : List (List (Option (Nat × Int × Nat × Nat))) := [[some (2, 2, 0, 0), some (2, 2, 0, 0), some (13, 2, 0, 0), none, none, some (13, 0, 1, 9), none, none, some (14, 0, 0, 12), none, none, some (2, 2, 0, 0), some (13, 2, 0, 0), none, none, some (0, 0, 0, 1)], [some (14, 0, 1, 2), none, none, some (40, 0, 2, 0)]]
def g_k62 : List (List (List Nat)) := [[[], [], [10, 530], [], [], [375, 211], [], [], [92, 542], [], [], [], [10, 530], [], [], []], [[108, 197], [], [], []]]
def g_m62 : MethodName × ByteArray × Nat × Option FieldType := (⟨"RideLaws", "closeText", "()V"⟩, prog_1_method_41_code, 1, none)
def g_c63 : List (List (Option (Nat × Int × Nat × Nat))) := [[some (2, 2, 0, 0), some (0, 0, 0, 1), some (14, 0, 5, 3), none, none, some (2, 2, 0, 0), some (0, 0, 0, 1), some (14, 0, 5, 4), none, none, some (2, 2, 0, 0), some (0, 0, 0, 1), some (14, 3, 5, 5), none, none, some (40, 0, 2, 0)]]
def g_k63 : List (List (List Nat)) := [[[], [], [21, 388], [], [], [], [], [25, 389], [], [], [], [], [28, 391], [], [], []]]
def g_m63 : MethodName × ByteArray × Nat × Option FieldType := (⟨"RideLaws$Sentence", "forget", "()V"⟩, prog_11_method_2_code, 1, none)
def g_c64 : List (List (Option (Nat × Int × Nat × Nat))) := [[some (2, 2, 0, 0), some (13, 2, 2, 0), none, none, some (2, 2, 1, 0), some (13, 2, 2, 0), none, none, some (30, 13, 65, 2), none, none, some (2, 2, 0, 0), some (13, 2, 2, 1), none, none, some (2, 2, 1, 0)], [some (13, 2, 2, 1), none, none, some (30, 14, 66, 2), none, none, some (2, 2, 0, 0), some (13, 2, 2, 2), none, none, some (2, 2, 1, 0), some (13, 2, 2, 2), none, none, some (30, 15, 67, 2), none], [none, some (40, 0, 2, 0)]]
def g_k64 : List (List (List Nat)) := [[[], [10, 407], [], [], [], [10, 407], [], [], [34, 754, 755, 756, 109], [], [], [], [19, 410], [], [], []], [[19, 410], [], [], [38, 761, 762, 763, 111], [], [], [], [26, 412], [], [], [], [26, 412], [], [], [41, 766, 767, 768, 112], []], [[], []]]
def g_m64 : MethodName × ByteArray × Nat × Option FieldType := (⟨"RideLaws$Scene", "copyFrom", "(LRideLaws$Scene;)V"⟩, prog_10_method_2_code, 2, none)
def g_c65 : List (List (Option (Nat × Int × Nat × Nat))) := [[some (2, 2, 1, 0), some (13, 2, 3, 0), none, none, some (0, 0, 0, 1), some (2, 2, 0, 0), some (13, 2, 3, 0), none, none, some (0, 0, 0, 1), some (0, 5, 0, 1), some (24, 0, 0, 0), none, none, some (2, 2, 1, 0), some (13, 2, 3, 1)], [none, none, some (0, 0, 0, 1), some (2, 2, 0, 0), some (13, 2, 3, 1), none, none, some (0, 0, 0, 1), some (0, 40, 1, 2), none, some (24, 0, 0, 0), none, none, some (2, 2, 1, 0), some (13, 2, 3, 2), none], [none, some (0, 0, 0, 1), some (2, 2, 0, 0), some (13, 2, 3, 2), none, none, some (0, 0, 0, 1), some (0, 3, 0, 1), some (24, 0, 0, 0), none, none, some (2, 2, 1, 0), some (13, 2, 3, 3), none, none, some (0, 0, 0, 1)], [some (2, 2, 0, 0), some (13, 2, 3, 3), none, none, some (0, 0, 0, 1), some (0, 3, 0, 1), some (24, 0, 0, 0), none, none, some (2, 2, 1, 0), some (13, 2, 3, 4), none, none, some (0, 0, 0, 1), some (2, 2, 0, 0), some (13, 2, 3, 4)], [none, none, some (0, 0, 0, 1), some (0, 8, 1, 2), none, some (24, 0, 0, 0), none, none, some (2, 2, 1, 0), some (13, 2, 3, 5), none, none, some (0, 0, 0, 1), some (2, 2, 0, 0), some (13, 2, 3, 5), none], [none, some (0, 0, 0, 1), some (0, 8, 1, 2), none, some (24, 0, 0, 0), none, none, some (2, 2, 1, 0), some (13, 2, 3, 6), none, none, some (0, 0, 0, 1), some (2, 2, 0, 0), some (13, 2, 3, 6), none, none], [some (0, 0, 0, 1), some (0, 8, 1, 2), none, some (24, 0, 0, 0), none, none, some (2, 2, 1, 0), some (13, 2, 3, 7), none, none, some (0, 0, 0, 1), some (2, 2, 0, 0), some (13, 2, 3, 7), none, none, some (0, 0, 0, 1)], [some (0, 8, 1, 2), none, some (24, 0, 0, 0), none, none, some (2, 2, 1, 0), some (13, 2, 3, 8), none, none, some (0, 0, 0, 1), some (2, 2, 0, 0), some (13, 2, 3, 8), none, none, some (0, 0, 0, 1), some (0, 8, 1, 2)], [none, some (24, 0, 0, 0), none, none, some (2, 2, 1, 0), some (13, 2, 3, 9), none, none, some (0, 0, 0, 1), some (2, 2, 0, 0), some (13, 2, 3, 9), none, none, some (0, 0, 0, 1), some (0, 8, 1, 2), none], [some (24, 0, 0, 0), none, none, some (2, 2, 1, 0), some (13, 2, 3, 10), none, none, some (0, 0, 0, 1), some (2, 2, 0, 0), some (13, 2, 3, 10), none, none, some (0, 0, 0, 1), some (0, 64, 1, 2), none, some (24, 0, 0, 0)], [none, none, some (40, 0, 2, 0)]]
def g_k65 : List (List (List Nat)) := [[[], [9, 254], [], [], [], [], [9, 254], [], [], [], [], [52, 758], [], [], [], [15, 259]], [[], [], [], [], [15, 259], [], [], [], [], [], [52, 758], [], [], [], [19, 260], []], [[], [], [], [19, 260], [], [], [], [], [52, 758], [], [], [], [22, 262], [], [], []], [[], [22, 262], [], [], [], [], [52, 758], [], [], [], [25, 263], [], [], [], [], [25, 263]], [[], [], [], [], [], [52, 758], [], [], [], [28, 266], [], [], [], [], [28, 266], []], [[], [], [], [], [52, 758], [], [], [], [31, 267], [], [], [], [], [31, 267], [], []], [[], [], [], [52, 758], [], [], [], [34, 269], [], [], [], [], [34, 269], [], [], []], [[], [], [52, 758], [], [], [], [37, 272], [], [], [], [], [37, 272], [], [], [], []], [[], [52, 758], [], [], [], [40, 275], [], [], [], [], [40, 275], [], [], [], [], []], [[52, 758], [], [], [], [43, 280], [], [], [], [], [43, 280], [], [], [], [], [], [52, 758]], [[], [], []]]
def g_m65 : MethodName × ByteArray × Nat × Option FieldType := (⟨"RideLaws$Plan", "copyFrom", "(LRideLaws$Plan;)V"⟩, prog_7_method_3_code, 2, none)
def g_c66 : List (List (Option (Nat × Int × Nat × Nat))) := [[some (2, 2, 0, 0), some (2, 2, 1, 0), some (13, 0, 4, 0), none, none, some (14, 0, 4, 0), none, none, some (2, 2, 0, 0), some (2, 2, 1, 0), some (13, 0, 4, 1), none, none, some (14, 0, 4, 1), none, none], [some (2, 2, 0, 0), some (2, 2, 1, 0), some (13, 0, 4, 2), none, none, some (14, 0, 4, 2), none, none, some (2, 2, 0, 0), some (2, 2, 1, 0), some (13, 0, 4, 3), none, none, some (14, 0, 4, 3), none, none], [some (2, 2, 0, 0), some (2, 2, 1, 0), some (13, 0, 4, 4), none, none, some (14, 0, 4, 4), none, none, some (2, 2, 0, 0), some (2, 2, 1, 0), some (13, 0, 4, 5), none, none, some (14, 0, 4, 5), none, none], [some (2, 2, 1, 0), some (13, 2, 4, 6), none, none, some (0, 0, 0, 1), some (2, 2, 0, 0), some (13, 2, 4, 6), none, none, some (0, 0, 0, 1), some (0, 8, 1, 2), none, some (24, 0, 0, 0), none, none, some (2, 2, 1, 0)], [some (13, 2, 4, 7), none, none, some (0, 0, 0, 1), some (2, 2, 0, 0), some (13, 2, 4, 7), none, none, some (0, 0, 0, 1), some (0, 8, 1, 2), none, some (24, 0, 0, 0), none, none, some (2, 2, 1, 0), some (13, 2, 4, 8)], [none, none, some (0, 0, 0, 1), some (2, 2, 0, 0), some (13, 2, 4, 8), none, none, some (0, 0, 0, 1), some (0, 6, 1, 2), none, some (24, 0, 0, 0), none, none, some (2, 2, 1, 0), some (13, 2, 4, 9), none], [none, some (0, 0, 0, 1), some (2, 2, 0, 0), some (13, 2, 4, 9), none, none, some (0, 0, 0, 1), some (0, 6, 1, 2), none, some (24, 0, 0, 0), none, none, some (2, 2, 1, 0), some (13, 2, 4, 10), none, none], [some (0, 0, 0, 1), some (2, 2, 0, 0), some (13, 2, 4, 10), none, none, some (0, 0, 0, 1), some (0, 36, 1, 2), none, some (24, 0, 0, 0), none, none, some (2, 2, 1, 0), some (13, 2, 4, 11), none, none, some (0, 0, 0, 1)], [some (2, 2, 0, 0), some (13, 2, 4, 11), none, none, some (0, 0, 0, 1), some (0, 6, 1, 2), none, some (24, 0, 0, 0), none, none, some (2, 2, 1, 0), some (13, 2, 4, 12), none, none, some (0, 0, 0, 1), some (2, 2, 0, 0)], [some (13, 2, 4, 12), none, none, some (0, 0, 0, 1), some (0, 6, 1, 2), none, some (24, 0, 0, 0), none, none, some (2, 2, 1, 0), some (13, 2, 4, 13), none, none, some (0, 0, 0, 1), some (2, 2, 0, 0), some (13, 2, 4, 13)], [none, none, some (0, 0, 0, 1), some (0, 8, 1, 2), none, some (24, 0, 0, 0), none, none, some (40, 0, 2, 0)]]
def g_k66 : List (List (List Nat)) := [[[], [], [9, 314], [], [], [9, 314], [], [], [], [], [15, 316], [], [], [15, 316], [], []], [[], [], [18, 318], [], [], [18, 318], [], [], [], [], [21, 321], [], [], [21, 321], [], []], [[], [], [24, 323], [], [], [24, 323], [], [], [], [], [27, 325], [], [], [27, 325], [], []], [[], [30, 327], [], [], [], [], [30, 327], [], [], [], [], [], [61, 765], [], [], []], [[34, 331], [], [], [], [], [34, 331], [], [], [], [], [], [61, 765], [], [], [], [37, 334]], [[], [], [], [], [37, 334], [], [], [], [], [], [61, 765], [], [], [], [40, 338], []], [[], [], [], [40, 338], [], [], [], [], [], [61, 765], [], [], [], [43, 342], [], []], [[], [], [43, 342], [], [], [], [], [], [61, 765], [], [], [], [46, 343], [], [], []], [[], [46, 343], [], [], [], [], [], [61, 765], [], [], [], [49, 344], [], [], [], []], [[49, 344], [], [], [], [], [], [61, 765], [], [], [], [52, 348], [], [], [], [], [52, 348]], [[], [], [], [], [], [61, 765], [], [], []]]
def g_m66 : MethodName × ByteArray × Nat × Option FieldType := (⟨"RideLaws$State", "copyFrom", "(LRideLaws$State;)V"⟩, prog_12_method_3_code, 2, none)
def g_c67 : List (List (Option (Nat × Int × Nat × Nat))) := [[some (2, 2, 1, 0), some (13, 2, 5, 0), none, none, some (0, 0, 0, 1), some (2, 2, 0, 0), some (13, 2, 5, 0), none, none, some (0, 0, 0, 1), some (0, 40, 1, 2), none, some (24, 0, 0, 0), none, none, some (2, 2, 1, 0)], [some (13, 2, 5, 1), none, none, some (0, 0, 0, 1), some (2, 2, 0, 0), some (13, 2, 5, 1), none, none, some (0, 0, 0, 1), some (0, 40, 1, 2), none, some (24, 0, 0, 0), none, none, some (2, 2, 1, 0), some (13, 2, 5, 2)], [none, none, some (0, 0, 0, 1), some (2, 2, 0, 0), some (13, 2, 5, 2), none, none, some (0, 0, 0, 1), some (0, 40, 1, 2), none, some (24, 0, 0, 0), none, none, some (2, 2, 0, 0), some (2, 2, 1, 0), some (13, 0, 5, 3)], [none, none, some (14, 0, 5, 3), none, none, some (2, 2, 0, 0), some (2, 2, 1, 0), some (13, 0, 5, 4), none, none, some (14, 0, 5, 4), none, none, some (2, 2, 0, 0), some (2, 2, 1, 0), some (13, 3, 5, 5)], [none, none, some (14, 3, 5, 5), none, none, some (40, 0, 2, 0)]]
def g_k67 : List (List (List Nat)) := [[[], [11, 385], [], [], [], [], [11, 385], [], [], [], [], [], [32, 770], [], [], []], [[15, 386], [], [], [], [], [15, 386], [], [], [], [], [], [32, 770], [], [], [], [18, 387]], [[], [], [], [], [18, 387], [], [], [], [], [], [32, 770], [], [], [], [], [21, 388]], [[], [], [21, 388], [], [], [], [], [25, 389], [], [], [25, 389], [], [], [], [], [28, 391]], [[], [], [28, 391], [], [], []]]
def g_m67 : MethodName × ByteArray × Nat × Option FieldType := (⟨"RideLaws$Sentence", "copyFrom", "(LRideLaws$Sentence;)V"⟩, prog_11_method_3_code, 2, none)
def g_c68 : List (List (Option (Nat × Int × Nat × Nat))) := [[some (2, 2, 0, 0), some (13, 0, 0, 12), none, none, some (40, 0, 0, 0)]]
def g_k68 : List (List (List Nat)) := [[[], [92, 542], [], [], []]]
def g_m68 : MethodName × ByteArray × Nat × Option FieldType := (⟨"RideLaws", "fault", "()I"⟩, prog_1_method_5_code, 1, some .int)
def g_c69 : List (List (Option (Nat × Int × Nat × Nat))) := [[some (2, 2, 0, 0), some (0, 3, 0, 1), some (2, 0, 1, 0), some (30, 10, 70, 3), none, none, some (9, 0, 0, 29), none, none, some (2, 0, 2, 0), some (9, 0, 2, 29), none, none, some (2, 0, 2, 0), some (2, 2, 0, 0), some (13, 2, 0, 1)], [none, none, some (13, 2, 2, 1), none, none, some (13, 2, 4, 9), none, none, some (2, 0, 1, 0), some (15, 0, 0, 0), some (10, 0, 2, 31), none, none, some (0, (-1), 0, 1), some (40, 0, 0, 0), some (2, 2, 0, 0)], [some (13, 2, 0, 1), none, none, some (13, 2, 2, 1), none, none, some (2, 0, 1, 0), some (2, 0, 2, 0), some (30, 14, 71, 3), none, none, some (40, 0, 0, 0)]]
def g_k69 : List (List (List Nat)) := [[[], [], [], [139, 779, 781, 13, 102], [], [], [], [], [], [], [], [], [], [], [], [19, 531]], [[], [], [63, 411], [], [], [155, 339], [], [], [], [], [], [], [], [], [], []], [[19, 531], [], [], [63, 411], [], [], [], [], [168, 783, 784, 785, 111], [], [], []]]
def g_m69 : MethodName × ByteArray × Nat × Option FieldType := (⟨"RideLaws", "roll", "(II)I"⟩, prog_1_method_7_code, 3, some .int)
def g_c70 : List (List (Option (Nat × Int × Nat × Nat))) := [[some (2, 0, 2, 0), some (9, 0, 2, 24), none, none, some (2, 0, 2, 0), some (2, 2, 0, 0), some (13, 2, 0, 1), none, none, some (13, 2, 2, 0), none, none, some (13, 2, 3, 0), none, none, some (2, 0, 1, 0)], [some (15, 0, 0, 0), some (10, 0, 3, 24), none, none, some (0, 1, 0, 1), some (11, 0, 0, 25), none, none, some (0, 0, 0, 1), some (40, 0, 0, 1)]]
def g_k70 : List (List (List Nat)) := [[[], [], [], [], [], [], [19, 531], [], [], [50, 408], [], [], [288, 258], [], [], []], [[], [], [], [], [], [], [], [], [], []]]
def g_m70 : MethodName × ByteArray × Nat × Option FieldType := (⟨"RideLaws", "has", "(II)Z"⟩, prog_1_method_40_code, 3, some .boolean)
def g_c71 : List (List (Option (Nat × Int × Nat × Nat))) := [[some (2, 2, 0, 0), some (13, 2, 4, 10), none, none, some (2, 0, 1, 0), some (0, 6, 1, 2), none, some (5, 0, 2, 0), some (2, 0, 2, 0), some (5, 0, 0, 0), some (15, 0, 0, 0), some (40, 0, 0, 0)]]
def g_k71 : List (List (List Nat)) := [[[], [43, 342], [], [], [], [], [], [], [], [], [], []]]
def g_m71 : MethodName × ByteArray × Nat × Option FieldType := (⟨"RideLaws$State", "rollWord", "(II)I"⟩, prog_12_method_6_code, 3, some .int)
def g_c72 : List (List (Option (Nat × Int × Nat × Nat))) := [[some (2, 2, 0, 0), some (0, 1, 0, 1), some (2, 0, 1, 0), some (30, 10, 70, 3), none, none, some (9, 0, 1, 11), none, none, some (0, (-1), 0, 1), some (40, 0, 0, 0), some (2, 0, 2, 0), some (20, 0, 79, 1), none, none, none], [none, none, none, none, none, none, none, none, none, none, none, none, none, none, none, none], [none, none, none, none, none, none, none, none, some (2, 2, 0, 0), some (13, 2, 0, 1), none, none, some (13, 2, 2, 0), none, none, some (13, 2, 3, 4)], [none, none, some (2, 0, 1, 0), some (15, 0, 0, 0), some (40, 0, 0, 0), some (2, 2, 0, 0), some (13, 2, 0, 1), none, none, some (13, 2, 2, 1), none, none, some (13, 2, 4, 6), none, none, some (2, 0, 1, 0)], [some (15, 0, 0, 0), some (40, 0, 0, 0), some (2, 2, 0, 0), some (13, 2, 0, 1), none, none, some (13, 2, 2, 1), none, none, some (13, 2, 4, 7), none, none, some (2, 0, 1, 0), some (15, 0, 0, 0), some (40, 0, 0, 0), some (0, (-1), 0, 1)], [some (40, 0, 0, 0)]]
def g_k72 : List (List (List Nat)) := [[[], [], [], [139, 779, 781, 13, 102], [], [], [], [], [], [], [], [], [], [], [], []], [[], [], [], [], [], [], [], [], [], [], [], [], [], [], [], []], [[], [], [], [], [], [], [], [], [], [19, 531], [], [], [50, 408], [], [], [172, 265]], [[], [], [], [], [], [], [19, 531], [], [], [63, 411], [], [], [177, 330], [], [], []], [[], [], [], [19, 531], [], [], [63, 411], [], [], [180, 332], [], [], [], [], [], []], [[]]]
def g_m72 : MethodName × ByteArray × Nat × Option FieldType := (⟨"RideLaws", "seat", "(II)I"⟩, prog_1_method_8_code, 3, some .int)
def g_c73 : List (List (Option (Nat × Int × Nat × Nat))) := [[some (2, 2, 0, 0), some (0, 4, 0, 1), some (2, 0, 1, 0), some (30, 10, 70, 3), none, none, some (9, 0, 1, 11), none, none, some (0, (-1), 0, 1), some (40, 0, 0, 0), some (2, 0, 2, 0), some (20, 0, 120, 2), none, none, none], [none, none, none, none, none, none, none, none, none, none, none, none, none, none, none, none], [none, none, none, none, none, none, none, none, none, none, none, none, none, none, none, none], [some (2, 2, 0, 0), some (13, 2, 0, 1), none, none, some (13, 2, 2, 0), none, none, some (13, 2, 3, 7), none, none, some (2, 0, 1, 0), some (15, 0, 0, 0), some (40, 0, 0, 0), some (2, 2, 0, 0), some (13, 2, 0, 1), none], [none, some (13, 2, 2, 0), none, none, some (13, 2, 3, 8), none, none, some (2, 0, 1, 0), some (15, 0, 0, 0), some (40, 0, 0, 0), some (2, 2, 0, 0), some (13, 2, 0, 1), none, none, some (13, 2, 2, 1), none], [none, some (2, 0, 1, 0), some (30, 14, 74, 2), none, none, some (9, 0, 0, 92), none, none, some (0, 1, 0, 1), some (11, 0, 0, 93), none, none, some (0, 0, 0, 1), some (40, 0, 0, 0), some (2, 2, 0, 0), some (13, 2, 0, 1)], [none, none, some (13, 2, 2, 0), none, none, some (13, 2, 3, 9), none, none, some (2, 0, 1, 0), some (15, 0, 0, 0), some (40, 0, 0, 0), some (2, 2, 0, 0), some (13, 2, 0, 1), none, none, some (13, 2, 2, 1)], [none, none, some (13, 2, 4, 13), none, none, some (2, 0, 1, 0), some (15, 0, 0, 0), some (40, 0, 0, 0), some (0, (-1), 0, 1), some (40, 0, 0, 0)]]
def g_k73 : List (List (List Nat)) := [[[], [], [], [139, 779, 781, 13, 102], [], [], [], [], [], [], [], [], [], [], [], []], [[], [], [], [], [], [], [], [], [], [], [], [], [], [], [], []], [[], [], [], [], [], [], [], [], [], [], [], [], [], [], [], []], [[], [19, 531], [], [], [50, 408], [], [], [183, 270], [], [], [], [], [], [], [19, 531], []], [[], [50, 408], [], [], [186, 273], [], [], [], [], [], [], [19, 531], [], [], [63, 411], []], [[], [], [189, 795, 796, 797, 111], [], [], [], [], [], [], [], [], [], [], [], [], [19, 531]], [[], [], [50, 408], [], [], [193, 276], [], [], [], [], [], [], [19, 531], [], [], [63, 411]], [[], [], [196, 349], [], [], [], [], [], [], []]]
def g_m73 : MethodName × ByteArray × Nat × Option FieldType := (⟨"RideLaws", "law", "(II)I"⟩, prog_1_method_9_code, 3, some .int)
def g_c74 : List (List (Option (Nat × Int × Nat × Nat))) := [[some (2, 2, 0, 0), some (13, 0, 4, 3), none, none, some (2, 0, 1, 0), some (5, 0, 7, 0), some (0, 1, 0, 1), some (5, 0, 3, 0), some (9, 0, 0, 15), none, none, some (0, 1, 0, 1), some (11, 0, 0, 16), none, none, some (0, 0, 0, 1)], [some (40, 0, 0, 1)]]
def g_k74 : List (List (List Nat)) := [[[], [21, 321], [], [], [], [], [], [], [], [], [], [], [], [], [], []], [[]]]
def g_m74 : MethodName × ByteArray × Nat × Option FieldType := (⟨"RideLaws$State", "isHolding", "(I)Z"⟩, prog_12_method_5_code, 2, some .boolean)
def g_c75 : List (List (Option (Nat × Int × Nat × Nat))) := [[some (2, 0, 1, 0), some (20, 0, 124, 3), none, none, none, none, none, none, none, none, none, none, none, none, none, none], [none, none, none, none, none, none, none, none, none, none, none, none, none, none, none, none], [none, none, none, none, none, none, none, none, none, none, none, none, none, none, none, none], [some (2, 2, 0, 0), some (13, 2, 0, 1), none, none, some (13, 2, 2, 1), none, none, some (13, 0, 4, 0), none, none, some (40, 0, 0, 0), some (2, 2, 0, 0), some (13, 2, 0, 1), none, none, some (13, 2, 2, 1)], [none, none, some (13, 0, 4, 1), none, none, some (40, 0, 0, 0), some (2, 2, 0, 0), some (13, 2, 0, 1), none, none, some (13, 2, 2, 1), none, none, some (13, 0, 4, 2), none, none], [some (40, 0, 0, 0), some (2, 2, 0, 0), some (13, 2, 0, 1), none, none, some (13, 2, 2, 1), none, none, some (13, 0, 4, 3), none, none, some (40, 0, 0, 0), some (2, 2, 0, 0), some (13, 2, 0, 1), none, none], [some (13, 2, 2, 1), none, none, some (13, 0, 4, 4), none, none, some (40, 0, 0, 0), some (2, 2, 0, 0), some (30, 10, 76, 1), none, none, some (40, 0, 0, 0), some (2, 2, 0, 0), some (30, 10, 77, 1), none, none], [some (40, 0, 0, 0), some (2, 2, 0, 0), some (13, 2, 0, 1), none, none, some (13, 2, 2, 1), none, none, some (13, 0, 4, 5), none, none, some (40, 0, 0, 0), some (0, (-1), 0, 1), some (40, 0, 0, 0)]]
def g_k75 : List (List (List Nat)) := [[[], [], [], [], [], [], [], [], [], [], [], [], [], [], [], []], [[], [], [], [], [], [], [], [], [], [], [], [], [], [], [], []], [[], [], [], [], [], [], [], [], [], [], [], [], [], [], [], []], [[], [19, 531], [], [], [63, 411], [], [], [199, 315], [], [], [], [], [19, 531], [], [], [63, 411]], [[], [], [202, 317], [], [], [], [], [19, 531], [], [], [63, 411], [], [], [205, 319], [], []], [[], [], [19, 531], [], [], [63, 411], [], [], [208, 322], [], [], [], [], [19, 531], [], []], [[63, 411], [], [], [211, 324], [], [], [], [], [214, 803, 805, 14, 102], [], [], [], [], [217, 807, 809, 15, 102], [], []], [[], [], [19, 531], [], [], [63, 411], [], [], [220, 326], [], [], [], [], []]]
def g_m75 : MethodName × ByteArray × Nat × Option FieldType := (⟨"RideLaws", "now", "(I)I"⟩, prog_1_method_10_code, 2, some .int)
def g_c76 : List (List (Option (Nat × Int × Nat × Nat))) := [[some (0, 0, 0, 1), some (3, 0, 1, 0), some (0, 0, 0, 1), some (3, 0, 2, 0), some (2, 0, 2, 0), some (2, 2, 0, 0), some (13, 2, 0, 1), none, none, some (13, 2, 2, 0), none, none, some (13, 2, 3, 0), none, none, some (0, 1, 0, 1)], [some (15, 0, 0, 0), some (10, 0, 3, 47), none, none, some (2, 2, 0, 0), some (13, 2, 0, 1), none, none, some (13, 2, 2, 1), none, none, some (13, 2, 4, 6), none, none, some (2, 0, 2, 0), some (15, 0, 0, 0)], [some (9, 0, 1, 41), none, none, some (2, 0, 1, 0), some (0, 1, 0, 1), some (2, 0, 2, 0), some (5, 0, 6, 0), some (5, 0, 4, 0), some (3, 0, 1, 0), some (4, 1, 2, 0), none, none, some (11, 0, 0, 4), none, none, some (2, 0, 1, 0)], [some (40, 0, 0, 0)]]
def g_k76 : List (List (List Nat)) := [[[], [], [], [], [], [], [19, 531], [], [], [50, 408], [], [], [288, 258], [], [], []], [[], [], [], [], [], [19, 531], [], [], [63, 411], [], [], [177, 330], [], [], [], []], [[], [], [], [], [], [], [], [], [], [], [], [], [], [], [], []], [[]]]
def g_m76 : MethodName × ByteArray × Nat × Option FieldType := (⟨"RideLaws", "seatsAtBox", "()I"⟩, prog_1_method_42_code, 3, some .int)
def g_c77 : List (List (Option (Nat × Int × Nat × Nat))) := [[some (0, 0, 0, 1), some (3, 0, 1, 0), some (0, 0, 0, 1), some (3, 0, 2, 0), some (2, 0, 2, 0), some (2, 2, 0, 0), some (13, 2, 0, 1), none, none, some (13, 2, 2, 0), none, none, some (13, 2, 3, 0), none, none, some (0, 1, 0, 1)], [some (15, 0, 0, 0), some (10, 0, 3, 48), none, none, some (2, 2, 0, 0), some (13, 2, 0, 1), none, none, some (13, 2, 2, 1), none, none, some (13, 2, 4, 7), none, none, some (2, 0, 2, 0), some (15, 0, 0, 0)], [some (0, (-1), 0, 1), some (10, 0, 0, 42), none, none, some (2, 0, 1, 0), some (0, 1, 0, 1), some (2, 0, 2, 0), some (5, 0, 6, 0), some (5, 0, 4, 0), some (3, 0, 1, 0), some (4, 1, 2, 0), none, none, some (11, 0, 0, 4), none, none], [some (2, 0, 1, 0), some (40, 0, 0, 0)]]
def g_k77 : List (List (List Nat)) := [[[], [], [], [], [], [], [19, 531], [], [], [50, 408], [], [], [288, 258], [], [], []], [[], [], [], [], [], [19, 531], [], [], [63, 411], [], [], [180, 332], [], [], [], []], [[], [], [], [], [], [], [], [], [], [], [], [], [], [], [], []], [[], []]]
def g_m77 : MethodName × ByteArray × Nat × Option FieldType := (⟨"RideLaws", "seatsTaken", "()I"⟩, prog_1_method_43_code, 3, some .int)
def g_c78 : List (List (Option (Nat × Int × Nat × Nat))) := [[some (2, 2, 0, 0), some (0, 3, 0, 1), some (2, 0, 1, 0), some (30, 10, 70, 3), none, none, some (9, 0, 0, 18), none, none, some (2, 2, 0, 0), some (0, 1, 0, 1), some (2, 0, 2, 0), some (30, 10, 70, 3), none, none, some (9, 0, 1, 20)], [none, none, some (0, (-1), 0, 1), some (40, 0, 0, 0), some (2, 2, 0, 0), some (13, 2, 0, 1), none, none, some (13, 2, 2, 1), none, none, some (2, 0, 1, 0), some (2, 0, 2, 0), some (30, 14, 79, 3), none, none], [some (3, 0, 3, 0), some (2, 0, 3, 0), some (9, 0, 1, 63), none, none, some (2, 2, 0, 0), some (13, 2, 0, 5), none, none, some (2, 2, 0, 0), some (13, 2, 0, 1), none, none, some (13, 2, 2, 1), none, none], [some (30, 16, 80, 2), none, none, some (2, 2, 0, 0), some (13, 2, 0, 1), none, none, some (13, 2, 2, 1), none, none, some (2, 0, 1, 0), some (2, 0, 2, 0), some (30, 14, 52, 3), none, none, some (2, 0, 3, 0)], [some (40, 0, 0, 0)]]
def g_k78 : List (List (List Nat)) := [[[], [], [], [139, 779, 781, 13, 102], [], [], [], [], [], [], [], [], [139, 779, 781, 13, 102], [], [], []], [[], [], [], [], [], [19, 531], [], [], [63, 411], [], [], [], [], [223, 815, 816, 817, 111], [], []], [[], [], [], [], [], [], [35, 535], [], [], [], [19, 531], [], [], [63, 411], [], []], [[226, 819, 820, 821, 113], [], [], [], [19, 531], [], [], [63, 411], [], [], [], [], [230, 828, 703, 704, 111], [], [], []], [[]]]
def g_m78 : MethodName × ByteArray × Nat × Option FieldType := (⟨"RideLaws", "mount", "(II)I"⟩, prog_1_method_11_code, 4, some .int)
def g_c79 : List (List (Option (Nat × Int × Nat × Nat))) := [[some (2, 2, 0, 0), some (13, 2, 4, 8), none, none, some (2, 0, 1, 0), some (15, 0, 0, 0), some (0, (-1), 0, 1), some (10, 0, 0, 12), none, none, some (0, 1, 0, 1), some (40, 0, 0, 0), some (2, 2, 0, 0), some (13, 2, 4, 7), none, none], [some (2, 0, 2, 0), some (15, 0, 0, 0), some (0, (-1), 0, 1), some (10, 0, 0, 26), none, none, some (0, 2, 0, 1), some (11, 0, 0, 27), none, none, some (0, 0, 0, 1), some (40, 0, 0, 0)]]
def g_k79 : List (List (List Nat)) := [[[], [37, 334], [], [], [], [], [], [], [], [], [], [], [], [34, 331], [], []], [[], [], [], [], [], [], [], [], [], [], [], []]]
def g_m79 : MethodName × ByteArray × Nat × Option FieldType := (⟨"RideLaws$State", "whyNotMount", "(II)I"⟩, prog_12_method_9_code, 3, some .int)
def g_c80 : List (List (Option (Nat × Int × Nat × Nat))) := [[some (2, 2, 0, 0), some (13, 0, 6, 1), none, none, some (0, 8, 1, 2), none, some (10, 0, 2, 13), none, none, some (2, 2, 0, 0), some (30, 16, 81, 1), none, none, some (2, 2, 0, 0), some (13, 2, 6, 0), none], [none, some (2, 2, 0, 0), some (13, 0, 6, 1), none, none, some (15, 0, 3, 0), some (2, 2, 1, 0), some (30, 14, 66, 2), none, none, some (2, 2, 0, 0), some (8, 0, 0, 0), some (13, 0, 6, 1), none, none, some (0, 1, 0, 1)], [some (5, 0, 0, 0), some (14, 0, 6, 1), none, none, some (40, 0, 2, 0)]]
def g_k80 : List (List (List Nat)) := [[[], [15, 435], [], [], [], [], [], [], [], [], [20, 823, 825, 16, 113], [], [], [], [11, 434], []], [[], [], [15, 435], [], [], [], [], [23, 827, 762, 763, 111], [], [], [], [], [15, 435], [], [], []], [[], [15, 435], [], [], []]]
def g_m80 : MethodName × ByteArray × Nat × Option FieldType := (⟨"RideLaws$History", "keep", "(LRideLaws$State;)V"⟩, prog_4_method_2_code, 2, none)
def g_c81 : List (List (Option (Nat × Int × Nat × Nat))) := [[some (2, 2, 0, 0), some (13, 2, 6, 0), none, none, some (0, 0, 0, 1), some (15, 0, 3, 0), some (3, 2, 1, 0), some (0, 1, 0, 1), some (3, 0, 2, 0), some (2, 0, 2, 0), some (0, 8, 1, 2), none, some (10, 0, 3, 35), none, none, some (2, 2, 0, 0)], [some (13, 2, 6, 0), none, none, some (2, 0, 2, 0), some (0, 1, 0, 1), some (5, 0, 1, 0), some (2, 2, 0, 0), some (13, 2, 6, 0), none, none, some (2, 0, 2, 0), some (15, 0, 3, 0), some (16, 0, 3, 4), some (4, 1, 2, 0), none, none], [some (11, 0, 0, 9), none, none, some (2, 2, 0, 0), some (13, 2, 6, 0), none, none, some (0, 7, 1, 2), none, some (2, 2, 1, 0), some (16, 0, 3, 4), some (2, 2, 0, 0), some (0, 7, 1, 2), none, some (14, 0, 6, 1), none], [none, some (40, 0, 2, 0)]]
def g_k81 : List (List (List Nat)) := [[[], [11, 434], [], [], [], [], [], [], [], [], [], [], [], [], [], []], [[11, 434], [], [], [], [], [], [], [11, 434], [], [], [], [], [], [], [], []], [[], [], [], [], [11, 434], [], [], [], [], [], [], [], [], [], [15, 435], []], [[], []]]
def g_m81 : MethodName × ByteArray × Nat × Option FieldType := (⟨"RideLaws$History", "dropOldest", "()V"⟩, prog_4_method_3_code, 3, none)
def g_c82 : List (List (Option (Nat × Int × Nat × Nat))) := [[some (2, 2, 0, 0), some (0, 3, 0, 1), some (2, 0, 1, 0), some (30, 10, 70, 3), none, none, some (9, 0, 1, 11), none, none, some (0, (-1), 0, 1), some (40, 0, 0, 0), some (2, 2, 0, 0), some (13, 2, 0, 1), none, none, some (13, 2, 2, 1)], [none, none, some (2, 0, 1, 0), some (30, 14, 83, 2), none, none, some (3, 0, 2, 0), some (2, 0, 2, 0), some (9, 0, 1, 52), none, none, some (2, 2, 0, 0), some (13, 2, 0, 5), none, none, some (2, 2, 0, 0)], [some (13, 2, 0, 1), none, none, some (13, 2, 2, 1), none, none, some (30, 16, 80, 2), none, none, some (2, 2, 0, 0), some (13, 2, 0, 1), none, none, some (13, 2, 2, 1), none, none], [some (2, 0, 1, 0), some (30, 14, 84, 2), none, none, some (2, 0, 2, 0), some (40, 0, 0, 0)]]
def g_k82 : List (List (List Nat)) := [[[], [], [], [139, 779, 781, 13, 102], [], [], [], [], [], [], [], [], [19, 531], [], [], [63, 411]], [[], [], [], [234, 833, 834, 835, 111], [], [], [], [], [], [], [], [], [35, 535], [], [], []], [[19, 531], [], [], [63, 411], [], [], [226, 819, 820, 821, 113], [], [], [], [19, 531], [], [], [63, 411], [], []], [[], [237, 837, 838, 839, 111], [], [], [], []]]
def g_m82 : MethodName × ByteArray × Nat × Option FieldType := (⟨"RideLaws", "alight", "(I)I"⟩, prog_1_method_12_code, 3, some .int)
def g_c83 : List (List (Option (Nat × Int × Nat × Nat))) := [[some (2, 2, 0, 0), some (13, 2, 4, 8), none, none, some (2, 0, 1, 0), some (15, 0, 0, 0), some (0, (-1), 0, 1), some (10, 0, 1, 14), none, none, some (0, 1, 0, 1), some (11, 0, 0, 15), none, none, some (0, 0, 0, 1), some (40, 0, 0, 0)]]
def g_k83 : List (List (List Nat)) := [[[], [37, 334], [], [], [], [], [], [], [], [], [], [], [], [], [], []]]
def g_m83 : MethodName × ByteArray × Nat × Option FieldType := (⟨"RideLaws$State", "whyNotAlight", "(I)I"⟩, prog_12_method_10_code, 2, some .int)
def g_c84 : List (List (Option (Nat × Int × Nat × Nat))) := [[some (2, 2, 0, 0), some (13, 2, 4, 8), none, none, some (2, 0, 1, 0), some (15, 0, 0, 0), some (3, 0, 2, 0), some (2, 0, 2, 0), some (0, (-1), 0, 1), some (10, 0, 0, 19), none, none, some (2, 2, 0, 0), some (13, 2, 4, 7), none, none], [some (2, 0, 2, 0), some (0, (-1), 0, 1), some (16, 0, 0, 4), some (2, 2, 0, 0), some (13, 2, 4, 8), none, none, some (2, 0, 1, 0), some (0, (-1), 0, 1), some (16, 0, 0, 4), some (40, 0, 2, 0)]]
def g_k84 : List (List (List Nat)) := [[[], [37, 334], [], [], [], [], [], [], [], [], [], [], [], [34, 331], [], []], [[], [], [], [], [37, 334], [], [], [], [], [], []]]
def g_m84 : MethodName × ByteArray × Nat × Option FieldType := (⟨"RideLaws$State", "getOff", "(I)V"⟩, prog_12_method_14_code, 3, none)
def g_c85 : List (List (Option (Nat × Int × Nat × Nat))) := [[some (2, 2, 0, 0), some (0, 3, 0, 1), some (2, 0, 1, 0), some (30, 10, 70, 3), none, none, some (9, 0, 0, 18), none, none, some (2, 2, 0, 0), some (0, 2, 0, 1), some (2, 0, 2, 0), some (30, 10, 70, 3), none, none, some (9, 0, 1, 20)], [none, none, some (0, (-1), 0, 1), some (40, 0, 0, 0), some (2, 2, 0, 0), some (13, 2, 0, 1), none, none, some (13, 2, 2, 1), none, none, some (2, 0, 1, 0), some (30, 14, 54, 2), none, none, some (3, 0, 3, 0)], [some (2, 0, 3, 0), some (9, 0, 1, 62), none, none, some (2, 2, 0, 0), some (13, 2, 0, 5), none, none, some (2, 2, 0, 0), some (13, 2, 0, 1), none, none, some (13, 2, 2, 1), none, none, some (30, 16, 80, 2)], [none, none, some (2, 2, 0, 0), some (13, 2, 0, 1), none, none, some (13, 2, 2, 1), none, none, some (2, 0, 1, 0), some (2, 0, 2, 0), some (30, 14, 55, 3), none, none, some (2, 0, 3, 0), some (40, 0, 0, 0)]]
def g_k85 : List (List (List Nat)) := [[[], [], [], [139, 779, 781, 13, 102], [], [], [], [], [], [], [], [], [139, 779, 781, 13, 102], [], [], []], [[], [], [], [], [], [19, 531], [], [], [63, 411], [], [], [], [240, 845, 711, 712, 111], [], [], []], [[], [], [], [], [], [35, 535], [], [], [], [19, 531], [], [], [63, 411], [], [], [226, 819, 820, 821, 113]], [[], [], [], [19, 531], [], [], [63, 411], [], [], [], [], [243, 846, 715, 716, 111], [], [], [], []]]
def g_m85 : MethodName × ByteArray × Nat × Option FieldType := (⟨"RideLaws", "learn", "(II)I"⟩, prog_1_method_13_code, 4, some .int)
def g_c86 : List (List (Option (Nat × Int × Nat × Nat))) := [[some (2, 2, 0, 0), some (13, 2, 0, 1), none, none, some (13, 2, 2, 1), none, none, some (30, 14, 87, 1), none, none, some (3, 0, 1, 0), some (2, 0, 1, 0), some (9, 0, 1, 39), none, none, some (2, 2, 0, 0)], [some (13, 2, 0, 5), none, none, some (2, 2, 0, 0), some (13, 2, 0, 1), none, none, some (13, 2, 2, 1), none, none, some (30, 16, 80, 2), none, none, some (2, 2, 0, 0), some (13, 2, 0, 1), none], [none, some (13, 2, 2, 1), none, none, some (30, 14, 88, 1), none, none, some (2, 0, 1, 0), some (40, 0, 0, 0)]]
def g_k86 : List (List (List Nat)) := [[[], [19, 531], [], [], [63, 411], [], [], [246, 851, 852, 853, 111], [], [], [], [], [], [], [], []], [[35, 535], [], [], [], [19, 531], [], [], [63, 411], [], [], [226, 819, 820, 821, 113], [], [], [], [19, 531], []], [[], [63, 411], [], [], [249, 855, 856, 857, 111], [], [], [], []]]
def g_m86 : MethodName × ByteArray × Nat × Option FieldType := (⟨"RideLaws", "whistle", "()I"⟩, prog_1_method_14_code, 2, some .int)
def g_c87 : List (List (Option (Nat × Int × Nat × Nat))) := [[some (2, 2, 0, 0), some (13, 0, 4, 3), none, none, some (9, 0, 1, 19), none, none, some (2, 2, 0, 0), some (13, 0, 4, 1), none, none, some (0, (-1), 0, 1), some (10, 0, 1, 19), none, none, some (0, 1, 0, 1)], [some (11, 0, 0, 20), none, none, some (0, 0, 0, 1), some (40, 0, 0, 0)]]
def g_k87 : List (List (List Nat)) := [[[], [21, 321], [], [], [], [], [], [], [15, 316], [], [], [], [], [], [], []], [[], [], [], [], []]]
def g_m87 : MethodName × ByteArray × Nat × Option FieldType := (⟨"RideLaws$State", "whyNotWhistle", "()I"⟩, prog_12_method_12_code, 1, some .int)
def g_c88 : List (List (Option (Nat × Int × Nat × Nat))) := [[some (2, 2, 0, 0), some (0, 0, 0, 1), some (14, 0, 4, 3), none, none, some (2, 2, 0, 0), some (0, (-1), 0, 1), some (14, 0, 4, 1), none, none, some (2, 2, 0, 0), some (0, (-1), 0, 1), some (14, 0, 4, 2), none, none, some (2, 2, 0, 0)], [some (13, 2, 4, 11), none, none, some (0, 0, 0, 1), some (30, (-1), 12, 2), none, none, some (2, 2, 0, 0), some (8, 0, 0, 0), some (13, 0, 4, 5), none, none, some (0, 1, 0, 1), some (5, 0, 0, 0), some (14, 0, 4, 5), none], [none, some (40, 0, 2, 0)]]
def g_k88 : List (List (List Nat)) := [[[], [], [21, 321], [], [], [], [], [15, 316], [], [], [], [], [18, 318], [], [], []], [[46, 343], [], [], [], [55, 313, 252, 110], [], [], [], [], [27, 325], [], [], [], [], [27, 325], []], [[], []]]
def g_m88 : MethodName × ByteArray × Nat × Option FieldType := (⟨"RideLaws$State", "blow", "()V"⟩, prog_12_method_16_code, 1, none)
def g_c89 : List (List (Option (Nat × Int × Nat × Nat))) := [[some (2, 0, 1, 0), some (0, 1, 0, 1), some (10, 0, 2, 11), none, none, some (2, 0, 1, 0), some (0, 60, 1, 2), none, some (10, 0, 5, 13), none, none, some (0, (-1), 0, 1), some (40, 0, 0, 0), some (2, 0, 1, 0), some (2, 2, 0, 0), some (13, 2, 0, 1)], [none, none, some (13, 2, 2, 1), none, none, some (30, 14, 90, 1), none, none, some (26, 0, 1, 0), none, none, some (3, 0, 2, 0), some (2, 0, 2, 0), some (9, 0, 5, 46), none, none], [some (2, 2, 0, 0), some (13, 2, 0, 5), none, none, some (2, 2, 0, 0), some (13, 2, 0, 1), none, none, some (13, 2, 2, 1), none, none, some (30, 16, 80, 2), none, none, some (0, 0, 0, 1), some (3, 0, 3, 0)], [some (2, 0, 3, 0), some (2, 0, 2, 0), some (10, 0, 3, 76), none, none, some (2, 2, 0, 0), some (13, 2, 0, 1), none, none, some (13, 2, 2, 1), none, none, some (2, 2, 0, 0), some (13, 2, 0, 1), none, none], [some (13, 2, 2, 0), none, none, some (30, 14, 91, 2), none, none, some (4, 1, 3, 0), none, none, some (11, 0, 0, 48), none, none, some (2, 0, 2, 0), some (40, 0, 0, 0)]]
def g_k89 : List (List (List Nat)) := [[[], [], [], [], [], [], [], [], [], [], [], [], [], [], [], [19, 531]], [[], [], [63, 411], [], [], [252, 863, 864, 865, 111], [], [], [255, 870], [], [], [], [], [], [], []], [[], [35, 535], [], [], [], [19, 531], [], [], [63, 411], [], [], [226, 819, 820, 821, 113], [], [], [], []], [[], [], [], [], [], [], [19, 531], [], [], [63, 411], [], [], [], [19, 531], [], []], [[50, 408], [], [], [260, 873, 874, 875, 111], [], [], [], [], [], [], [], [], [], []]]
def g_m89 : MethodName × ByteArray × Nat × Option FieldType := (⟨"RideLaws", "ticks", "(I)I"⟩, prog_1_method_15_code, 4, some .int)
def g_c90 : List (List (Option (Nat × Int × Nat × Nat))) := [[some (0, 0, 0, 1), some (0, 1000, 2, 3), none, none, some (2, 2, 0, 0), some (13, 0, 4, 0), none, none, some (5, 0, 1, 0), some (26, 0, 0, 0), none, none, some (40, 0, 0, 0)]]
def g_k90 : List (List (List Nat)) := [[[], [], [], [], [], [9, 314], [], [], [], [67, 867], [], [], []]]
def g_m90 : MethodName × ByteArray × Nat × Option FieldType := (⟨"RideLaws$State", "ticksLeft", "()I"⟩, prog_12_method_4_code, 1, some .int)
def g_c91 : List (List (Option (Nat × Int × Nat × Nat))) := [[some (2, 2, 1, 0), some (13, 2, 3, 0), none, none, some (0, 1, 0, 1), some (15, 0, 0, 0), some (3, 0, 2, 0), some (0, 0, 0, 1), some (3, 0, 3, 0), some (2, 0, 3, 0), some (2, 0, 2, 0), some (10, 0, 3, 77), none, none, some (2, 2, 1, 0), some (2, 0, 3, 0)], [some (2, 2, 0, 0), some (13, 2, 4, 6), none, none, some (2, 0, 3, 0), some (15, 0, 0, 0), some (30, 13, 92, 3), none, none, some (3, 0, 4, 1), none, some (2, 2, 0, 0), some (13, 2, 4, 6), none, none, some (2, 0, 3, 0)], [some (2, 0, 4, 1), none, some (16, 0, 0, 4), some (2, 2, 0, 0), some (13, 2, 4, 7), none, none, some (2, 0, 3, 0), some (15, 0, 0, 0), some (3, 0, 5, 1), none, some (2, 0, 4, 1), none, some (9, 0, 1, 71), none, none], [some (2, 0, 5, 1), none, some (0, (-1), 0, 1), some (10, 0, 0, 71), none, none, some (2, 2, 0, 0), some (13, 2, 4, 9), none, none, some (2, 0, 5, 1), none, some (15, 0, 0, 0), some (9, 0, 5, 71), none, none], [some (2, 2, 0, 0), some (2, 2, 1, 0), some (2, 0, 5, 1), none, some (30, 14, 93, 3), none, none, some (4, 1, 3, 0), none, none, some (11, 0, 0, 9), none, none, some (2, 2, 0, 0), some (8, 0, 0, 0), some (13, 0, 4, 0)], [none, none, some (0, 1, 0, 1), some (5, 0, 0, 0), some (14, 0, 4, 0), none, none, some (40, 0, 2, 0)]]
def g_k91 : List (List (List Nat)) := [[[], [76, 257], [], [], [], [], [], [], [], [], [], [], [], [], [], []], [[], [30, 327], [], [], [], [], [81, 877, 878, 879, 109], [], [], [], [], [], [30, 327], [], [], []], [[], [], [], [], [34, 331], [], [], [], [], [], [], [], [], [], [], []], [[], [], [], [], [], [], [], [40, 338], [], [], [], [], [], [], [], []], [[], [], [], [], [84, 881, 883, 17, 111], [], [], [], [], [], [], [], [], [], [], [9, 314]], [[], [], [], [], [9, 314], [], [], []]]
def g_m91 : MethodName × ByteArray × Nat × Option FieldType := (⟨"RideLaws$State", "turn", "(LRideLaws$Plan;)V"⟩, prog_12_method_17_code, 6, none)
def g_c92 : List (List (Option (Nat × Int × Nat × Nat))) := [[some (2, 0, 2, 0), some (2, 2, 0, 0), some (13, 2, 3, 5), none, none, some (2, 0, 1, 0), some (15, 0, 0, 0), some (5, 0, 0, 0), some (3, 0, 3, 0), some (2, 0, 3, 0), some (2, 2, 0, 0), some (13, 2, 3, 6), none, none, some (2, 0, 1, 0), some (15, 0, 0, 0)], [some (10, 0, 2, 30), none, none, some (2, 0, 3, 0), some (2, 2, 0, 0), some (13, 2, 3, 6), none, none, some (2, 0, 1, 0), some (15, 0, 0, 0), some (5, 0, 1, 0), some (11, 0, 0, 31), none, none, some (2, 0, 3, 0), some (40, 0, 0, 0)]]
def g_k92 : List (List (List Nat)) := [[[], [], [28, 266], [], [], [], [], [], [], [], [], [31, 267], [], [], [], []], [[], [], [], [], [], [31, 267], [], [], [], [], [], [], [], [], [], []]]
def g_m92 : MethodName × ByteArray × Nat × Option FieldType := (⟨"RideLaws$Plan", "stepOn", "(II)I"⟩, prog_7_method_13_code, 4, some .int)
def g_c93 : List (List (Option (Nat × Int × Nat × Nat))) := [[some (2, 2, 0, 0), some (2, 0, 2, 0), some (2, 2, 0, 0), some (13, 2, 4, 11), none, none, some (2, 0, 2, 0), some (15, 0, 0, 0), some (30, 14, 71, 3), none, none, some (3, 0, 3, 0), some (2, 2, 0, 0), some (13, 2, 4, 11), none, none], [some (2, 0, 2, 0), some (15, 0, 0, 0), some (0, 1, 0, 1), some (5, 0, 0, 0), some (3, 0, 4, 1), none, some (2, 2, 0, 0), some (13, 2, 4, 11), none, none, some (2, 0, 2, 0), some (2, 0, 4, 1), none, some (2, 2, 0, 0), some (13, 2, 4, 9), none], [none, some (2, 0, 2, 0), some (15, 0, 0, 0), some (10, 0, 3, 43), none, none, some (2, 0, 4, 1), none, some (11, 0, 0, 44), none, none, some (0, 0, 0, 1), some (16, 0, 0, 4), some (2, 2, 0, 0), some (13, 2, 4, 12), none], [none, some (2, 0, 2, 0), some (8, 0, 2, 0), some (15, 0, 0, 0), some (0, 1, 0, 1), some (5, 0, 0, 0), some (16, 0, 0, 4), some (2, 2, 0, 0), some (8, 0, 0, 0), some (13, 0, 4, 4), none, none, some (0, 1, 0, 1), some (5, 0, 0, 0), some (14, 0, 4, 4), none], [none, some (2, 2, 0, 0), some (13, 0, 4, 1), none, none, some (0, (-1), 0, 1), some (10, 0, 1, 77), none, none, some (0, (-1), 0, 1), some (11, 0, 0, 91), none, none, some (2, 2, 1, 0), some (13, 2, 3, 10), none], [none, some (2, 2, 0, 0), some (13, 0, 4, 1), none, none, some (0, 8, 1, 2), none, some (5, 0, 2, 0), some (2, 0, 3, 0), some (5, 0, 0, 0), some (15, 0, 0, 0), some (3, 0, 5, 1), none, some (2, 0, 5, 1), none, some (0, (-1), 0, 1)], [some (10, 0, 0, 133), none, none, some (2, 2, 0, 0), some (2, 2, 0, 0), some (13, 0, 4, 3), none, none, some (0, 1, 0, 1), some (2, 0, 5, 1), none, some (5, 0, 6, 0), some (5, 0, 4, 0), some (2, 2, 1, 0), some (13, 2, 3, 9), none], [none, some (2, 0, 5, 1), none, some (15, 0, 0, 0), some (0, (-1), 0, 1), some (5, 0, 5, 0), some (5, 0, 3, 0), some (14, 0, 4, 3), none, none, some (2, 2, 0, 0), some (13, 2, 4, 13), none, none, some (2, 0, 5, 1), none], [some (8, 0, 2, 0), some (15, 0, 0, 0), some (0, 1, 0, 1), some (5, 0, 0, 0), some (16, 0, 0, 4), some (2, 2, 0, 0), some (2, 0, 3, 0), some (14, 0, 4, 1), none, none, some (2, 2, 0, 0), some (2, 0, 2, 0), some (14, 0, 4, 2), none, none, some (40, 0, 2, 0)]]
def g_k93 : List (List (List Nat)) := [[[], [], [], [46, 343], [], [], [], [], [73, 885, 784, 785, 111], [], [], [], [], [46, 343], [], []], [[], [], [], [], [], [], [], [46, 343], [], [], [], [], [], [], [40, 338], []], [[], [], [], [], [], [], [], [], [], [], [], [], [], [], [49, 344], []], [[], [], [], [], [], [], [], [], [], [24, 323], [], [], [], [], [24, 323], []], [[], [], [15, 316], [], [], [], [], [], [], [], [], [], [], [], [88, 282], []], [[], [], [15, 316], [], [], [], [], [], [], [], [], [], [], [], [], []], [[], [], [], [], [], [21, 321], [], [], [], [], [], [], [], [], [91, 279], []], [[], [], [], [], [], [], [], [21, 321], [], [], [], [52, 348], [], [], [], []], [[], [], [], [], [], [], [], [15, 316], [], [], [], [], [18, 318], [], [], []]]
def g_m93 : MethodName × ByteArray × Nat × Option FieldType := (⟨"RideLaws$State", "speak", "(LRideLaws$Plan;I)V"⟩, prog_12_method_18_code, 6, none)
def g_c94 : List (List (Option (Nat × Int × Nat × Nat))) := [[some (2, 2, 0, 0), some (13, 2, 0, 5), none, none, some (2, 2, 0, 0), some (13, 2, 0, 1), none, none, some (13, 2, 2, 1), none, none, some (30, 16, 95, 2), none, none, some (9, 0, 1, 19), none], [none, some (0, (-1), 0, 1), some (40, 0, 0, 0), some (2, 2, 0, 0), some (13, 2, 0, 5), none, none, some (13, 0, 6, 1), none, none, some (40, 0, 0, 0)]]
def g_k94 : List (List (List Nat)) := [[[], [35, 535], [], [], [], [19, 531], [], [], [63, 411], [], [], [264, 890, 891, 892, 113], [], [], [], []], [[], [], [], [], [35, 535], [], [], [138, 436], [], [], []]]
def g_m94 : MethodName × ByteArray × Nat × Option FieldType := (⟨"RideLaws", "undo", "()I"⟩, prog_1_method_16_code, 1, some .int)
def g_c95 : List (List (Option (Nat × Int × Nat × Nat))) := [[some (2, 2, 0, 0), some (13, 0, 6, 1), none, none, some (9, 0, 4, 9), none, none, some (0, 0, 0, 1), some (40, 0, 0, 1), some (2, 2, 0, 0), some (8, 0, 0, 0), some (13, 0, 6, 1), none, none, some (0, 1, 0, 1), some (5, 0, 1, 0)], [some (14, 0, 6, 1), none, none, some (2, 2, 1, 0), some (2, 2, 0, 0), some (13, 2, 6, 0), none, none, some (2, 2, 0, 0), some (13, 0, 6, 1), none, none, some (15, 0, 3, 0), some (30, 14, 66, 2), none, none], [some (0, 1, 0, 1), some (40, 0, 0, 1)]]
def g_k95 : List (List (List Nat)) := [[[], [15, 435], [], [], [], [], [], [], [], [], [], [15, 435], [], [], [], []], [[15, 435], [], [], [], [], [11, 434], [], [], [], [15, 435], [], [], [], [23, 827, 762, 763, 111], [], []], [[], []]]
def g_m95 : MethodName × ByteArray × Nat × Option FieldType := (⟨"RideLaws$History", "giveBack", "(LRideLaws$State;)Z"⟩, prog_4_method_4_code, 2, some .boolean)
def g_c96 : List (List (Option (Nat × Int × Nat × Nat))) := [[some (2, 2, 0, 0), some (0, 1, 0, 1), some (2, 0, 1, 0), some (30, 10, 70, 3), none, none, some (9, 0, 0, 20), none, none, some (2, 2, 0, 0), some (13, 2, 0, 8), none, none, some (2, 0, 1, 0), some (30, 19, 97, 2), none], [none, some (11, 0, 0, 21), none, none, some (0, (-1), 0, 1), some (40, 0, 0, 0)]]
def g_k96 : List (List (List Nat)) := [[[], [], [], [139, 779, 781, 13, 102], [], [], [], [], [], [], [70, 538], [], [], [], [268, 898, 899, 900, 116], []], [[], [], [], [], [], []]]
def g_m96 : MethodName × ByteArray × Nat × Option FieldType := (⟨"RideLaws", "comes", "(I)I"⟩, prog_1_method_17_code, 2, some .int)
def g_c97 : List (List (Option (Nat × Int × Nat × Nat))) := [[some (2, 2, 0, 0), some (13, 2, 9, 1), none, none, some (13, 2, 4, 6), none, none, some (2, 0, 1, 0), some (15, 0, 0, 0), some (3, 0, 2, 0), some (0, 0, 0, 1), some (3, 0, 3, 0), some (2, 0, 3, 0), some (2, 2, 0, 0), some (13, 2, 9, 0), none], [none, some (13, 2, 3, 6), none, none, some (2, 0, 1, 0), some (15, 0, 0, 0), some (10, 0, 3, 47), none, none, some (2, 0, 2, 0), some (9, 0, 1, 31), none, none, some (2, 0, 3, 0), some (40, 0, 0, 0), some (2, 2, 0, 0)], [some (13, 2, 9, 0), none, none, some (2, 0, 1, 0), some (2, 0, 2, 0), some (30, 13, 92, 3), none, none, some (3, 0, 2, 0), some (4, 1, 3, 0), none, none, some (11, 0, 0, 12), none, none, some (0, (-1), 0, 1)], [some (40, 0, 0, 0)]]
def g_k97 : List (List (List Nat)) := [[[], [15, 494], [], [], [22, 328], [], [], [], [], [], [], [], [], [], [9, 493], []], [[], [28, 268], [], [], [], [], [], [], [], [], [], [], [], [], [], []], [[9, 493], [], [], [], [], [33, 902, 878, 879, 109], [], [], [], [], [], [], [], [], [], []], [[]]]
def g_m97 : MethodName × ByteArray × Nat × Option FieldType := (⟨"RideLaws$Outlook", "ticksToBox", "(I)I"⟩, prog_6_method_2_code, 4, some .int)
def g_c98 : List (List (Option (Nat × Int × Nat × Nat))) := [[some (2, 2, 0, 0), some (0, 1, 0, 1), some (2, 0, 1, 0), some (30, 10, 70, 3), none, none, some (9, 0, 0, 23), none, none, some (2, 2, 0, 0), some (0, 1, 0, 1), some (2, 0, 2, 0), some (30, 10, 70, 3), none, none, some (9, 0, 0, 23)], [none, none, some (2, 0, 1, 0), some (2, 0, 2, 0), some (10, 0, 1, 25), none, none, some (0, (-1), 0, 1), some (40, 0, 0, 0), some (2, 2, 0, 0), some (13, 2, 0, 8), none, none, some (2, 0, 1, 0), some (2, 0, 2, 0), some (30, 19, 99, 3)], [none, none, some (40, 0, 0, 0)]]
def g_k98 : List (List (List Nat)) := [[[], [], [], [139, 779, 781, 13, 102], [], [], [], [], [], [], [], [], [139, 779, 781, 13, 102], [], [], []], [[], [], [], [], [], [], [], [], [], [], [70, 538], [], [], [], [], [271, 907, 908, 909, 116]], [[], [], []]]
def g_m98 : MethodName × ByteArray × Nat × Option FieldType := (⟨"RideLaws", "both", "(II)I"⟩, prog_1_method_18_code, 3, some .int)
def g_c99 : List (List (Option (Nat × Int × Nat × Nat))) := [[some (2, 2, 0, 0), some (13, 2, 9, 1), none, none, some (13, 2, 4, 6), none, none, some (2, 0, 1, 0), some (15, 0, 0, 0), some (3, 0, 3, 0), some (2, 2, 0, 0), some (13, 2, 9, 1), none, none, some (13, 2, 4, 6), none], [none, some (2, 0, 2, 0), some (15, 0, 0, 0), some (3, 0, 4, 1), none, some (2, 2, 0, 0), some (13, 2, 9, 0), none, none, some (13, 2, 3, 6), none, none, some (2, 0, 1, 0), some (15, 0, 0, 0), some (2, 2, 0, 0), some (13, 2, 9, 0)], [none, none, some (13, 2, 3, 6), none, none, some (2, 0, 2, 0), some (15, 0, 0, 0), some (5, 0, 2, 0), some (3, 0, 5, 1), none, some (0, 0, 0, 1), some (3, 0, 6, 1), none, some (2, 0, 6, 1), none, some (2, 0, 5, 1)], [none, some (10, 0, 3, 92), none, none, some (2, 0, 3, 0), some (9, 0, 1, 64), none, none, some (2, 0, 4, 1), none, some (9, 0, 1, 64), none, none, some (2, 0, 6, 1), none, some (40, 0, 0, 0)], [some (2, 2, 0, 0), some (13, 2, 9, 0), none, none, some (2, 0, 1, 0), some (2, 0, 3, 0), some (30, 13, 92, 3), none, none, some (3, 0, 3, 0), some (2, 2, 0, 0), some (13, 2, 9, 0), none, none, some (2, 0, 2, 0), some (2, 0, 4, 1)], [none, some (30, 13, 92, 3), none, none, some (3, 0, 4, 1), none, some (4, 1, 6, 0), none, none, some (11, 0, 0, 45), none, none, some (0, (-1), 0, 1), some (40, 0, 0, 0)]]
def g_k99 : List (List (List Nat)) := [[[], [15, 494], [], [], [22, 328], [], [], [], [], [], [], [15, 494], [], [], [22, 328], []], [[], [], [], [], [], [], [9, 493], [], [], [28, 268], [], [], [], [], [], [9, 493]], [[], [], [28, 268], [], [], [], [], [], [], [], [], [], [], [], [], []], [[], [], [], [], [], [], [], [], [], [], [], [], [], [], [], []], [[], [9, 493], [], [], [], [], [33, 902, 878, 879, 109], [], [], [], [], [9, 493], [], [], [], []], [[], [33, 902, 878, 879, 109], [], [], [], [], [], [], [], [], [], [], [], []]]
def g_m99 : MethodName × ByteArray × Nat × Option FieldType := (⟨"RideLaws$Outlook", "ticksToMeet", "(II)I"⟩, prog_6_method_3_code, 7, some .int)
def g_c100 : List (List (Option (Nat × Int × Nat × Nat))) := [[some (2, 2, 0, 0), some (0, 4, 0, 1), some (2, 0, 1, 0), some (30, 10, 70, 3), none, none, some (9, 0, 0, 20), none, none, some (2, 2, 0, 0), some (13, 2, 0, 8), none, none, some (2, 0, 1, 0), some (30, 19, 101, 2), none], [none, some (11, 0, 0, 21), none, none, some (0, (-1), 0, 1), some (40, 0, 0, 0)]]
def g_k100 : List (List (List Nat)) := [[[], [], [], [139, 779, 781, 13, 102], [], [], [], [], [], [], [70, 538], [], [], [], [274, 915, 916, 917, 116], []], [[], [], [], [], [], []]]
def g_m100 : MethodName × ByteArray × Nat × Option FieldType := (⟨"RideLaws", "holds", "(I)I"⟩, prog_1_method_19_code, 2, some .int)
def g_c101 : List (List (Option (Nat × Int × Nat × Nat))) := [[some (2, 2, 0, 0), some (13, 2, 9, 1), none, none, some (2, 0, 1, 0), some (30, 14, 74, 2), none, none, some (9, 0, 0, 13), none, none, some (0, 0, 0, 1), some (40, 0, 0, 0), some (2, 2, 0, 0), some (13, 2, 9, 2), none], [none, some (2, 2, 0, 0), some (13, 2, 9, 1), none, none, some (30, 14, 66, 2), none, none, some (2, 2, 0, 0), some (2, 0, 1, 0), some (0, 300, 2, 3), none, none, some (30, 19, 102, 3), none, none], [some (40, 0, 0, 0)]]
def g_k101 : List (List (List Nat)) := [[[], [15, 494], [], [], [], [37, 919, 796, 797, 111], [], [], [], [], [], [], [], [], [19, 495], []], [[], [], [15, 494], [], [], [41, 920, 762, 763, 111], [], [], [], [], [], [], [], [45, 921, 923, 18, 116], [], []], [[]]]
def g_m101 : MethodName × ByteArray × Nat × Option FieldType := (⟨"RideLaws$Outlook", "ticksToHold", "(I)I"⟩, prog_6_method_4_code, 2, some .int)
def g_c102 : List (List (Option (Nat × Int × Nat × Nat))) := [[some (0, 1, 0, 1), some (3, 0, 3, 0), some (2, 0, 3, 0), some (2, 0, 2, 0), some (10, 0, 4, 37), none, none, some (2, 2, 0, 0), some (13, 2, 9, 2), none, none, some (2, 2, 0, 0), some (13, 2, 9, 0), none, none, some (30, 14, 91, 2)], [none, none, some (2, 2, 0, 0), some (13, 2, 9, 2), none, none, some (2, 0, 1, 0), some (30, 14, 74, 2), none, none, some (9, 0, 0, 31), none, none, some (2, 0, 3, 0), some (40, 0, 0, 0), some (4, 1, 3, 0)], [none, none, some (11, 0, 0, 2), none, none, some (0, (-1), 0, 1), some (40, 0, 0, 0)]]
def g_k102 : List (List (List Nat)) := [[[], [], [], [], [], [], [], [], [19, 495], [], [], [], [9, 493], [], [], [48, 925, 874, 875, 111]], [[], [], [], [19, 495], [], [], [], [37, 919, 796, 797, 111], [], [], [], [], [], [], [], []], [[], [], [], [], [], [], []]]
def g_m102 : MethodName × ByteArray × Nat × Option FieldType := (⟨"RideLaws$Outlook", "ticksTillTrialHolds", "(II)I"⟩, prog_6_method_5_code, 4, some .int)
def g_c103 : List (List (Option (Nat × Int × Nat × Nat))) := [[some (2, 2, 0, 0), some (0, 4, 0, 1), some (2, 0, 1, 0), some (30, 10, 70, 3), none, none, some (9, 0, 0, 20), none, none, some (2, 0, 2, 0), some (0, 1, 0, 1), some (10, 0, 2, 20), none, none, some (2, 0, 2, 0), some (0, 99, 1, 2)], [none, some (10, 0, 5, 22), none, none, some (0, (-1), 0, 1), some (40, 0, 0, 0), some (2, 2, 0, 0), some (13, 2, 0, 8), none, none, some (2, 0, 1, 0), some (2, 0, 2, 0), some (30, 19, 104, 3), none, none, some (3, 0, 3, 0)], [some (2, 0, 3, 0), some (0, (-1), 0, 1), some (10, 0, 1, 39), none, none, some (0, (-1), 0, 1), some (40, 0, 0, 0), some (2, 2, 0, 0), some (2, 0, 3, 0), some (0, 8, 1, 2), none, some (5, 0, 10, 0), some (14, 0, 0, 13), none, none, some (2, 0, 3, 0)], [some (0, 8, 1, 2), none, some (5, 0, 9, 0), some (40, 0, 0, 0)]]
def g_k103 : List (List (List Nat)) := [[[], [], [], [139, 779, 781, 13, 102], [], [], [], [], [], [], [], [], [], [], [], []], [[], [], [], [], [], [], [], [70, 538], [], [], [], [], [277, 930, 931, 932, 116], [], [], []], [[], [], [], [], [], [], [], [], [], [], [], [], [96, 543], [], [], []], [[], [], [], []]]
def g_m103 : MethodName × ByteArray × Nat × Option FieldType := (⟨"RideLaws", "aim", "(II)I"⟩, prog_1_method_20_code, 4, some .int)
def g_c104 : List (List (Option (Nat × Int × Nat × Nat))) := [[some (0, 0, 0, 1), some (3, 0, 3, 0), some (2, 0, 3, 0), some (2, 2, 0, 0), some (13, 2, 9, 0), none, none, some (13, 2, 3, 0), none, none, some (0, 3, 0, 1), some (15, 0, 0, 0), some (10, 0, 3, 96), none, none, some (0, 0, 0, 1)], [some (3, 0, 4, 1), none, some (2, 0, 4, 1), none, some (2, 2, 0, 0), some (13, 2, 9, 0), none, none, some (13, 2, 3, 0), none, none, some (0, 1, 0, 1), some (15, 0, 0, 0), some (10, 0, 3, 90), none, none], [some (2, 2, 0, 0), some (13, 2, 9, 1), none, none, some (2, 0, 3, 0), some (2, 0, 4, 1), none, some (30, 14, 79, 3), none, none, some (9, 0, 1, 84), none, none, some (2, 2, 0, 0), some (13, 2, 9, 2), none], [none, some (2, 2, 0, 0), some (13, 2, 9, 1), none, none, some (30, 14, 66, 2), none, none, some (2, 2, 0, 0), some (13, 2, 9, 2), none, none, some (2, 0, 3, 0), some (2, 0, 4, 1), none, some (30, 14, 52, 3)], [none, none, some (2, 2, 0, 0), some (2, 0, 1, 0), some (2, 0, 2, 0), some (30, 19, 102, 3), none, none, some (0, (-1), 0, 1), some (10, 0, 0, 84), none, none, some (2, 0, 3, 0), some (0, 8, 1, 2), none, some (5, 0, 2, 0)], [some (2, 0, 4, 1), none, some (5, 0, 0, 0), some (40, 0, 0, 0), some (4, 1, 4, 0), none, none, some (11, 0, 0, 18), none, none, some (4, 1, 3, 0), none, none, some (11, 0, 0, 2), none, none], [some (0, (-1), 0, 1), some (40, 0, 0, 0)]]
def g_k104 : List (List (List Nat)) := [[[], [], [], [], [9, 493], [], [], [52, 255], [], [], [], [], [], [], [], []], [[], [], [], [], [], [9, 493], [], [], [52, 255], [], [], [], [], [], [], []], [[], [15, 494], [], [], [], [], [], [55, 934, 816, 817, 111], [], [], [], [], [], [], [19, 495], []], [[], [], [15, 494], [], [], [41, 920, 762, 763, 111], [], [], [], [19, 495], [], [], [], [], [], [58, 935, 703, 704, 111]], [[], [], [], [], [], [45, 921, 923, 18, 116], [], [], [], [], [], [], [], [], [], []], [[], [], [], [], [], [], [], [], [], [], [], [], [], [], [], []], [[], []]]
def g_m104 : MethodName × ByteArray × Nat × Option FieldType := (⟨"RideLaws$Outlook", "bestMount", "(II)I"⟩, prog_6_method_6_code, 5, some .int)
def g_c105 : List (List (Option (Nat × Int × Nat × Nat))) := [[some (2, 2, 0, 0), some (13, 0, 0, 13), none, none, some (40, 0, 0, 0)]]
def g_k105 : List (List (List Nat)) := [[[], [96, 543], [], [], []]]
def g_m105 : MethodName × ByteArray × Nat × Option FieldType := (⟨"RideLaws", "aimSeat", "()I"⟩, prog_1_method_21_code, 1, some .int)
def g_c106 : List (List (Option (Nat × Int × Nat × Nat))) := [[some (2, 2, 0, 0), some (0, 4, 0, 1), some (2, 0, 1, 0), some (30, 10, 70, 3), none, none, some (9, 0, 0, 20), none, none, some (2, 2, 0, 0), some (13, 2, 0, 8), none, none, some (2, 0, 1, 0), some (30, 19, 107, 2), none], [none, some (11, 0, 0, 21), none, none, some (0, (-1), 0, 1), some (40, 0, 0, 0)]]
def g_k106 : List (List (List Nat)) := [[[], [], [], [139, 779, 781, 13, 102], [], [], [], [], [], [], [70, 538], [], [], [], [280, 944, 945, 946, 116], []], [[], [], [], [], [], []]]
def g_m106 : MethodName × ByteArray × Nat × Option FieldType := (⟨"RideLaws", "able", "(I)I"⟩, prog_1_method_22_code, 2, some .int)
def g_c107 : List (List (Option (Nat × Int × Nat × Nat))) := [[some (0, 0, 0, 1), some (3, 0, 2, 0), some (0, 0, 0, 1), some (3, 0, 3, 0), some (2, 0, 3, 0), some (2, 2, 0, 0), some (13, 2, 9, 0), none, none, some (13, 2, 3, 0), none, none, some (0, 3, 0, 1), some (15, 0, 0, 0), some (10, 0, 3, 46), none], [none, some (2, 2, 0, 0), some (13, 2, 9, 1), none, none, some (2, 0, 3, 0), some (30, 14, 108, 2), none, none, some (2, 2, 0, 0), some (2, 0, 1, 0), some (30, 19, 109, 2), none, none, some (5, 0, 3, 0), some (9, 0, 0, 40)], [none, none, some (2, 0, 2, 0), some (0, 1, 0, 1), some (2, 0, 3, 0), some (5, 0, 6, 0), some (5, 0, 4, 0), some (3, 0, 2, 0), some (4, 1, 3, 0), none, none, some (11, 0, 0, 4), none, none, some (2, 0, 2, 0), some (40, 0, 0, 0)]]
def g_k107 : List (List (List Nat)) := [[[], [], [], [], [], [], [9, 493], [], [], [52, 255], [], [], [], [], [], []], [[], [], [15, 494], [], [], [], [85, 948, 949, 950, 111], [], [], [], [], [88, 952, 954, 19, 116], [], [], [], []], [[], [], [], [], [], [], [], [], [], [], [], [], [], [], [], []]]
def g_m107 : MethodName × ByteArray × Nat × Option FieldType := (⟨"RideLaws$Outlook", "ridersAble", "(I)I"⟩, prog_6_method_11_code, 4, some .int)
def g_c108 : List (List (Option (Nat × Int × Nat × Nat))) := [[some (0, 0, 0, 1), some (3, 0, 2, 0), some (0, 0, 0, 1), some (3, 0, 3, 0), some (2, 0, 3, 0), some (2, 2, 0, 0), some (13, 2, 4, 9), none, none, some (2, 0, 1, 0), some (15, 0, 0, 0), some (10, 0, 3, 31), none, none, some (2, 0, 2, 0), some (0, 1, 0, 1)], [some (2, 2, 0, 0), some (2, 0, 1, 0), some (2, 0, 3, 0), some (30, 14, 71, 3), none, none, some (5, 0, 6, 0), some (5, 0, 4, 0), some (3, 0, 2, 0), some (4, 1, 3, 0), none, none, some (11, 0, 0, 4), none, none, some (2, 0, 2, 0)], [some (40, 0, 0, 0)]]
def g_k108 : List (List (List Nat)) := [[[], [], [], [], [], [], [40, 338], [], [], [], [], [], [], [], [], []], [[], [], [], [73, 885, 784, 785, 111], [], [], [], [], [], [], [], [], [], [], [], []], [[]]]
def g_m108 : MethodName × ByteArray × Nat × Option FieldType := (⟨"RideLaws$State", "knownBy", "(I)I"⟩, prog_12_method_8_code, 4, some .int)
def g_c109 : List (List (Option (Nat × Int × Nat × Nat))) := [[some (0, 1, 0, 1), some (2, 2, 0, 0), some (13, 2, 9, 0), none, none, some (13, 2, 3, 7), none, none, some (2, 0, 1, 0), some (15, 0, 0, 0), some (5, 0, 6, 0), some (0, 1, 0, 1), some (2, 2, 0, 0), some (13, 2, 9, 0), none, none], [some (13, 2, 3, 8), none, none, some (2, 0, 1, 0), some (15, 0, 0, 0), some (5, 0, 6, 0), some (5, 0, 4, 0), some (40, 0, 0, 0)]]
def g_k109 : List (List (List Nat)) := [[[], [], [9, 493], [], [], [79, 271], [], [], [], [], [], [], [], [9, 493], [], []], [[82, 274], [], [], [], [], [], [], []]]
def g_m109 : MethodName × ByteArray × Nat × Option FieldType := (⟨"RideLaws$Outlook", "needs", "(I)I"⟩, prog_6_method_10_code, 2, some .int)
def g_c110 : List (List (Option (Nat × Int × Nat × Nat))) := [[some (2, 2, 0, 0), some (2, 2, 0, 0), some (13, 2, 0, 8), none, none, some (30, 19, 111, 1), none, none, some (14, 0, 0, 14), none, none, some (2, 2, 0, 0), some (13, 0, 0, 14), none, none, some (30, (-1), 112, 1)], [none, none, some (40, 0, 0, 0)]]
def g_k110 : List (List (List Nat)) := [[[], [], [70, 538], [], [], [295, 960, 961, 962, 116], [], [], [99, 544], [], [], [], [99, 544], [], [], [298, 974, 965, 126]], [[], [], []]]
def g_m110 : MethodName × ByteArray × Nat × Option FieldType := (⟨"RideLaws", "stand", "()I"⟩, prog_1_method_24_code, 1, some .int)
def g_c111 : List (List (Option (Nat × Int × Nat × Nat))) := [[some (0, 0, 0, 1), some (3, 0, 1, 0), some (0, 1, 0, 1), some (3, 0, 2, 0), some (2, 0, 2, 0), some (0, 1, 0, 1), some (2, 2, 0, 0), some (13, 2, 9, 0), none, none, some (13, 2, 3, 0), none, none, some (0, 4, 0, 1), some (15, 0, 0, 0), some (5, 0, 6, 0)], [some (10, 0, 3, 46), none, none, some (2, 0, 2, 0), some (30, (-1), 112, 1), none, none, some (2, 0, 1, 0), some (30, (-1), 112, 1), none, none, some (10, 0, 5, 40), none, none, some (2, 2, 0, 0), some (2, 0, 2, 0)], [some (30, 19, 113, 2), none, none, some (9, 0, 0, 40), none, none, some (2, 0, 2, 0), some (3, 0, 1, 0), some (4, 1, 2, 0), none, none, some (11, 0, 0, 4), none, none, some (2, 0, 1, 0), some (40, 0, 0, 0)]]
def g_k111 : List (List (List Nat)) := [[[], [], [], [], [], [], [], [9, 493], [], [], [52, 255], [], [], [], [], []], [[], [], [], [], [94, 964, 965, 126], [], [], [], [94, 964, 965, 126], [], [], [], [], [], [], []], [[99, 970, 972, 20, 116], [], [], [], [], [], [], [], [], [], [], [], [], [], [], []]]
def g_m111 : MethodName × ByteArray × Nat × Option FieldType := (⟨"RideLaws$Outlook", "lawsInPeace", "()I"⟩, prog_6_method_14_code, 3, some .int)
def g_c112 : List (List (Option (Nat × Int × Nat × Nat))) := [[some (2, 0, 0, 0), some (2, 0, 0, 0), some (0, 1, 0, 1), some (5, 0, 8, 0), some (0, 1431655765, 4, 3), none, none, some (5, 0, 3, 0), some (5, 0, 1, 0), some (3, 0, 0, 0), some (2, 0, 0, 0), some (0, 858993459, 4, 3), none, none, some (5, 0, 3, 0), some (2, 0, 0, 0)], [some (0, 2, 0, 1), some (5, 0, 8, 0), some (0, 858993459, 4, 3), none, none, some (5, 0, 3, 0), some (5, 0, 0, 0), some (3, 0, 0, 0), some (2, 0, 0, 0), some (2, 0, 0, 0), some (0, 4, 0, 1), some (5, 0, 8, 0), some (5, 0, 0, 0), some (0, 252645135, 4, 3), none, none], [some (5, 0, 3, 0), some (3, 0, 0, 0), some (2, 0, 0, 0), some (2, 0, 0, 0), some (0, 8, 1, 2), none, some (5, 0, 8, 0), some (5, 0, 0, 0), some (3, 0, 0, 0), some (2, 0, 0, 0), some (2, 0, 0, 0), some (0, 16, 1, 2), none, some (5, 0, 8, 0), some (5, 0, 0, 0), some (3, 0, 0, 0)], [some (2, 0, 0, 0), some (0, 63, 1, 2), none, some (5, 0, 3, 0), some (40, 0, 0, 0)]]
def g_k112 : List (List (List Nat)) := [[[], [], [], [], [265, 967], [], [], [], [], [], [], [266, 968], [], [], [], []], [[], [], [266, 968], [], [], [], [], [], [], [], [], [], [], [267, 969], [], []], [[], [], [], [], [], [], [], [], [], [], [], [], [], [], [], []], [[], [], [], [], []]]
def g_m112 : MethodName × ByteArray × Nat × Option FieldType := (⟨"java/lang/Integer", "bitCount", "(I)I"⟩, prog_19_method_49_code, 1, some .int)
def g_c113 : List (List (Option (Nat × Int × Nat × Nat))) := [[some (0, 0, 0, 1), some (3, 0, 2, 0), some (2, 0, 2, 0), some (2, 2, 0, 0), some (13, 2, 9, 0), none, none, some (13, 2, 3, 0), none, none, some (0, 4, 0, 1), some (15, 0, 0, 0), some (10, 0, 3, 45), none, none, some (2, 0, 1, 0)], [some (2, 0, 2, 0), some (5, 0, 7, 0), some (0, 1, 0, 1), some (5, 0, 3, 0), some (9, 0, 0, 39), none, none, some (2, 2, 0, 0), some (13, 2, 9, 0), none, none, some (13, 2, 3, 9), none, none, some (2, 0, 2, 0), some (15, 0, 0, 0)], [some (2, 0, 1, 0), some (5, 0, 3, 0), some (9, 0, 0, 39), none, none, some (0, 0, 0, 1), some (40, 0, 0, 1), some (4, 1, 2, 0), none, none, some (11, 0, 0, 2), none, none, some (0, 1, 0, 1), some (40, 0, 0, 1)]]
def g_k113 : List (List (List Nat)) := [[[], [], [], [], [9, 493], [], [], [52, 255], [], [], [], [], [], [], [], []], [[], [], [], [], [], [], [], [], [9, 493], [], [], [102, 278], [], [], [], []], [[], [], [], [], [], [], [], [], [], [], [], [], [], [], []]]
def g_m113 : MethodName × ByteArray × Nat × Option FieldType := (⟨"RideLaws$Outlook", "isPeaceful", "(I)Z"⟩, prog_6_method_15_code, 3, some .boolean)
def g_c114 : List (List (Option (Nat × Int × Nat × Nat))) := [[some (2, 2, 0, 0), some (13, 0, 0, 14), none, none, some (40, 0, 0, 0)]]
def g_k114 : List (List (List Nat)) := [[[], [99, 544], [], [], []]]
def g_m114 : MethodName × ByteArray × Nat × Option FieldType := (⟨"RideLaws", "standing", "()I"⟩, prog_1_method_25_code, 1, some .int)
def g_c115 : List (List (Option (Nat × Int × Nat × Nat))) := [[some (2, 2, 0, 0), some (13, 2, 0, 8), none, none, some (30, 19, 116, 1), none, none, some (40, 0, 0, 0)]]
def g_k115 : List (List (List Nat)) := [[[], [70, 538], [], [], [303, 983, 984, 985, 116], [], [], []]]
def g_m115 : MethodName × ByteArray × Nat × Option FieldType := (⟨"RideLaws", "all", "()I"⟩, prog_1_method_26_code, 1, some .int)
def g_c116 : List (List (Option (Nat × Int × Nat × Nat))) := [[some (0, 0, 0, 1), some (3, 0, 1, 0), some (0, 0, 0, 1), some (3, 0, 2, 0), some (2, 0, 2, 0), some (2, 2, 0, 0), some (13, 2, 9, 0), none, none, some (13, 2, 3, 0), none, none, some (0, 3, 0, 1), some (15, 0, 0, 0), some (10, 0, 3, 54), none], [none, some (2, 2, 0, 0), some (13, 2, 9, 1), none, none, some (13, 2, 4, 8), none, none, some (2, 0, 2, 0), some (15, 0, 0, 0), some (0, (-1), 0, 1), some (10, 0, 0, 48), none, none, some (2, 2, 0, 0), some (13, 2, 9, 1)], [none, none, some (13, 2, 4, 9), none, none, some (2, 0, 2, 0), some (15, 0, 0, 0), some (9, 0, 5, 48), none, none, some (2, 0, 1, 0), some (0, 1, 0, 1), some (2, 0, 2, 0), some (5, 0, 6, 0), some (5, 0, 4, 0), some (3, 0, 1, 0)], [some (4, 1, 2, 0), none, none, some (11, 0, 0, 4), none, none, some (2, 2, 0, 0), some (13, 2, 9, 2), none, none, some (2, 2, 0, 0), some (13, 2, 9, 1), none, none, some (30, 14, 66, 2), none], [none, some (0, 0, 0, 1), some (3, 0, 2, 0), some (2, 0, 2, 0), some (0, 300, 2, 3), none, none, some (10, 0, 4, 103), none, none, some (2, 2, 0, 0), some (2, 0, 1, 0), some (30, 19, 117, 2), none, none, some (3, 0, 1, 0)], [some (2, 0, 1, 0), some (9, 0, 1, 86), none, none, some (2, 0, 2, 0), some (40, 0, 0, 0), some (2, 2, 0, 0), some (13, 2, 9, 2), none, none, some (2, 2, 0, 0), some (13, 2, 9, 0), none, none, some (30, 14, 91, 2), none], [none, some (4, 1, 2, 0), none, none, some (11, 0, 0, 67), none, none, some (0, (-1), 0, 1), some (40, 0, 0, 0)]]
def g_k116 : List (List (List Nat)) := [[[], [], [], [], [], [], [9, 493], [], [], [52, 255], [], [], [], [], [], []], [[], [], [15, 494], [], [], [62, 336], [], [], [], [], [], [], [], [], [], [15, 494]], [[], [], [65, 340], [], [], [], [], [], [], [], [], [], [], [], [], []], [[], [], [], [], [], [], [], [19, 495], [], [], [], [15, 494], [], [], [41, 920, 762, 763, 111], []], [[], [], [], [], [], [], [], [], [], [], [], [], [68, 987, 989, 21, 116], [], [], []], [[], [], [], [], [], [], [], [19, 495], [], [], [], [9, 493], [], [], [48, 925, 874, 875, 111], []], [[], [], [], [], [], [], [], [], []]]
def g_m116 : MethodName × ByteArray × Nat × Option FieldType := (⟨"RideLaws$Outlook", "ticksTillAllSpoke", "()I"⟩, prog_6_method_7_code, 3, some .int)
def g_c117 : List (List (Option (Nat × Int × Nat × Nat))) := [[some (2, 0, 1, 0), some (3, 0, 2, 0), some (0, 0, 0, 1), some (3, 0, 3, 0), some (2, 0, 3, 0), some (2, 2, 0, 0), some (13, 2, 9, 0), none, none, some (13, 2, 3, 0), none, none, some (0, 3, 0, 1), some (15, 0, 0, 0), some (10, 0, 3, 52), none], [none, some (2, 2, 0, 0), some (13, 2, 9, 2), none, none, some (13, 2, 4, 12), none, none, some (2, 0, 3, 0), some (15, 0, 0, 0), some (2, 2, 0, 0), some (13, 2, 9, 1), none, none, some (13, 2, 4, 12), none], [none, some (2, 0, 3, 0), some (15, 0, 0, 0), some (10, 0, 5, 46), none, none, some (2, 0, 2, 0), some (0, 1, 0, 1), some (2, 0, 3, 0), some (5, 0, 6, 0), some (0, (-1), 0, 1), some (5, 0, 5, 0), some (5, 0, 3, 0), some (3, 0, 2, 0), some (4, 1, 3, 0), none], [none, some (11, 0, 0, 4), none, none, some (2, 0, 2, 0), some (40, 0, 0, 0)]]
def g_k117 : List (List (List Nat)) := [[[], [], [], [], [], [], [9, 493], [], [], [52, 255], [], [], [], [], [], []], [[], [], [19, 495], [], [], [72, 346], [], [], [], [], [], [15, 494], [], [], [72, 346], []], [[], [], [], [], [], [], [], [], [], [], [], [], [], [], [], []], [[], [], [], [], [], []]]
def g_m117 : MethodName × ByteArray × Nat × Option FieldType := (⟨"RideLaws$Outlook", "stillSilent", "(I)I"⟩, prog_6_method_8_code, 4, some .int)
def g_c118 : List (List (Option (Nat × Int × Nat × Nat))) := [[some (2, 2, 0, 0), some (13, 2, 0, 1), none, none, some (13, 2, 2, 1), none, none, some (13, 0, 4, 4), none, none, some (9, 0, 1, 15), none, none, some (0, (-1), 0, 1), some (40, 0, 0, 0), some (0, 0, 0, 1)], [some (3, 0, 1, 0), some (0, 1, 0, 1), some (3, 0, 2, 0), some (2, 0, 2, 0), some (2, 2, 0, 0), some (13, 2, 0, 1), none, none, some (13, 2, 2, 0), none, none, some (13, 2, 3, 0), none, none, some (0, 3, 0, 1), some (15, 0, 0, 0)], [some (10, 0, 3, 70), none, none, some (2, 2, 0, 0), some (13, 2, 0, 1), none, none, some (13, 2, 2, 1), none, none, some (13, 2, 4, 12), none, none, some (2, 0, 2, 0), some (15, 0, 0, 0), some (2, 2, 0, 0)], [some (13, 2, 0, 1), none, none, some (13, 2, 2, 1), none, none, some (13, 2, 4, 12), none, none, some (2, 0, 1, 0), some (15, 0, 0, 0), some (10, 0, 5, 64), none, none, some (2, 0, 2, 0), some (3, 0, 1, 0)], [some (4, 1, 2, 0), none, none, some (11, 0, 0, 19), none, none, some (2, 0, 1, 0), some (40, 0, 0, 0)]]
def g_k118 : List (List (List Nat)) := [[[], [19, 531], [], [], [63, 411], [], [], [211, 324], [], [], [], [], [], [], [], []], [[], [], [], [], [], [19, 531], [], [], [50, 408], [], [], [288, 258], [], [], [], []], [[], [], [], [], [19, 531], [], [], [63, 411], [], [], [162, 345], [], [], [], [], []], [[19, 531], [], [], [63, 411], [], [], [162, 345], [], [], [], [], [], [], [], [], []], [[], [], [], [], [], [], [], []]]
def g_m118 : MethodName × ByteArray × Nat × Option FieldType := (⟨"RideLaws", "most", "()I"⟩, prog_1_method_28_code, 3, some .int)
def g_c119 : List (List (Option (Nat × Int × Nat × Nat))) := [[some (2, 2, 0, 0), some (0, 3, 0, 1), some (2, 0, 1, 0), some (30, 10, 70, 3), none, none, some (9, 0, 1, 11), none, none, some (0, (-1), 0, 1), some (40, 0, 0, 0), some (2, 2, 0, 0), some (13, 2, 0, 10), none, none, some (0, 0, 0, 1)], [some (14, 0, 11, 1), none, none, some (2, 2, 0, 0), some (13, 2, 0, 10), none, none, some (2, 2, 0, 0), some (13, 2, 0, 1), none, none, some (13, 2, 2, 0), none, none, some (0, 3, 0, 1), some (2, 0, 1, 0)], [some (30, 13, 120, 3), none, none, some (30, 21, 121, 2), none, none, some (2, 2, 0, 0), some (13, 2, 0, 1), none, none, some (13, 2, 2, 1), none, none, some (13, 2, 4, 8), none, none], [some (2, 0, 1, 0), some (15, 0, 0, 0), some (3, 0, 2, 0), some (2, 0, 2, 0), some (0, (-1), 0, 1), some (10, 0, 1, 69), none, none, some (2, 2, 0, 0), some (13, 2, 0, 10), none, none, some (19, 0, 1, 1), none, none, some (30, 21, 123, 2)], [none, none, some (11, 0, 0, 98), none, none, some (2, 2, 0, 0), some (13, 2, 0, 10), none, none, some (19, 0, 2, 1), none, none, some (30, 21, 123, 2), none, none, some (2, 2, 0, 0)], [some (13, 2, 0, 10), none, none, some (2, 2, 0, 0), some (13, 2, 0, 1), none, none, some (13, 2, 2, 0), none, none, some (0, 1, 0, 1), some (2, 0, 2, 0), some (30, 13, 120, 3), none, none, some (30, 21, 121, 2)], [none, none, some (2, 2, 0, 0), some (13, 2, 0, 1), none, none, some (13, 2, 2, 1), none, none, some (2, 0, 1, 0), some (30, 14, 124, 2), none, none, some (3, 0, 3, 0), some (2, 0, 3, 0), some (0, (-1), 0, 1)], [some (10, 0, 1, 128), none, none, some (2, 2, 0, 0), some (13, 2, 0, 10), none, none, some (19, 0, 3, 1), none, none, some (30, 21, 123, 2), none, none, some (11, 0, 0, 157), none, none], [some (2, 2, 0, 0), some (13, 2, 0, 10), none, none, some (19, 0, 4, 1), none, none, some (30, 21, 123, 2), none, none, some (2, 2, 0, 0), some (13, 2, 0, 10), none, none, some (2, 2, 0, 0), some (13, 2, 0, 1)], [none, none, some (13, 2, 2, 0), none, none, some (0, 2, 0, 1), some (2, 0, 3, 0), some (30, 13, 120, 3), none, none, some (30, 21, 121, 2), none, none, some (2, 2, 0, 0), some (13, 2, 0, 10), none], [none, some (13, 0, 11, 1), none, none, some (40, 0, 0, 0)]]
def g_k119 : List (List (List Nat)) := [[[], [], [], [139, 779, 781, 13, 102], [], [], [], [], [], [], [], [], [84, 540], [], [], []], [[308, 523], [], [], [], [84, 540], [], [], [], [19, 531], [], [], [50, 408], [], [], [], []], [[309, 999, 1000, 1001, 109], [], [], [313, 1003, 1004, 1005, 118], [], [], [], [19, 531], [], [], [63, 411], [], [], [150, 335], [], []], [[], [], [], [], [], [], [], [], [], [84, 540], [], [], [317], [], [], [319, 1013, 1014, 1015, 118]], [[], [], [], [], [], [], [84, 540], [], [], [322], [], [], [319, 1013, 1014, 1015, 118], [], [], []], [[84, 540], [], [], [], [19, 531], [], [], [50, 408], [], [], [], [], [309, 999, 1000, 1001, 109], [], [], [313, 1003, 1004, 1005, 118]], [[], [], [], [19, 531], [], [], [63, 411], [], [], [], [158, 1020, 1021, 1022, 111], [], [], [], [], []], [[], [], [], [], [84, 540], [], [], [324], [], [], [319, 1013, 1014, 1015, 118], [], [], [], [], []], [[], [84, 540], [], [], [326], [], [], [319, 1013, 1014, 1015, 118], [], [], [], [84, 540], [], [], [], [19, 531]], [[], [], [50, 408], [], [], [], [], [309, 999, 1000, 1001, 109], [], [], [313, 1003, 1004, 1005, 118], [], [], [], [84, 540], []], [[], [308, 523], [], [], []]]
def g_m119 : MethodName × ByteArray × Nat × Option FieldType := (⟨"RideLaws", "line", "(I)I"⟩, prog_1_method_29_code, 4, some .int)
def g_c120 : List (List (Option (Nat × Int × Nat × Nat))) := [[some (2, 2, 0, 0), some (13, 2, 3, 1), none, none, some (2, 0, 1, 0), some (0, 8, 1, 2), none, some (5, 0, 2, 0), some (2, 0, 2, 0), some (5, 0, 0, 0), some (15, 0, 2, 0), some (40, 0, 1, 4)]]
def g_k120 : List (List (List Nat)) := [[[], [15, 259], [], [], [], [], [], [], [], [], [], []]]
def g_m120 : MethodName × ByteArray × Nat × Option FieldType := (⟨"RideLaws$Plan", "nameOf", "(II)J"⟩, prog_7_method_7_code, 3, some .long)
def g_c121 : List (List (Option (Nat × Int × Nat × Nat))) := [[some (0, 30, 1, 2), none, some (3, 0, 3, 0), some (2, 0, 3, 0), some (9, 0, 2, 39), none, none, some (2, 1, 1, 0), some (2, 0, 3, 0), some (6, 0, 5, 0), some (1, 31, 1, 3), none, none, some (6, 0, 2, 0), some (7, 0, 1, 0), some (3, 0, 4, 1)], [none, some (2, 0, 4, 1), none, some (9, 0, 0, 33), none, none, some (2, 2, 0, 0), some (0, 97, 1, 2), none, some (2, 0, 4, 1), none, some (5, 0, 0, 0), some (0, 1, 0, 1), some (5, 0, 1, 0), some (30, 21, 122, 2), none], [none, some (4, (-5), 3, 0), none, none, some (11, 0, 0, 3), none, none, some (40, 0, 2, 0)]]
def g_k121 : List (List (List Nat)) := [[[], [], [], [], [], [], [], [], [], [], [31, 1007], [], [], [], [], []], [[], [], [], [], [], [], [], [], [], [], [], [], [], [], [27, 1008, 1010, 22, 118], []], [[], [], [], [], [], [], [], []]]
def g_m121 : MethodName × ByteArray × Nat × Option FieldType := (⟨"RideLaws$Line", "addName", "(J)V"⟩, prog_5_method_3_code, 5, none)
def g_c122 : List (List (Option (Nat × Int × Nat × Nat))) := [[some (2, 2, 0, 0), some (13, 0, 11, 1), none, none, some (0, 32, 1, 2), none, some (10, 0, 3, 30), none, none, some (2, 2, 0, 0), some (13, 2, 11, 0), none, none, some (2, 2, 0, 0), some (13, 0, 11, 1), none], [none, some (2, 0, 1, 0), some (7, 0, 2, 0), some (16, 0, 1, 4), some (2, 2, 0, 0), some (8, 0, 0, 0), some (13, 0, 11, 1), none, none, some (0, 1, 0, 1), some (5, 0, 0, 0), some (14, 0, 11, 1), none, none, some (40, 0, 2, 0)]]
def g_k122 : List (List (List Nat)) := [[[], [13, 522], [], [], [], [], [], [], [], [], [9, 520], [], [], [], [13, 522], []], [[], [], [], [], [], [], [13, 522], [], [], [], [], [13, 522], [], [], []]]
def g_m122 : MethodName × ByteArray × Nat × Option FieldType := (⟨"RideLaws$Line", "addByte", "(I)V"⟩, prog_5_method_4_code, 2, none)
def g_c123 : List (List (Option (Nat × Int × Nat × Nat))) := [[some (0, 0, 0, 1), some (3, 0, 2, 0), some (2, 0, 2, 0), some (2, 2, 1, 0), some (30, 5, 2, 1), none, none, some (10, 0, 3, 25), none, none, some (2, 2, 0, 0), some (2, 2, 1, 0), some (2, 0, 2, 0), some (30, 5, 4, 2), none, none], [some (30, 21, 122, 2), none, none, some (4, 1, 2, 0), none, none, some (11, 0, 0, 2), none, none, some (40, 0, 2, 0)]]
def g_k123 : List (List (List Nat)) := [[[], [], [], [], [17, 1017, 143, 144, 104], [], [], [], [], [], [], [], [], [23, 1018, 153, 154, 104], [], []], [[27, 1008, 1010, 22, 118], [], [], [], [], [], [], [], [], []]]
def g_m123 : MethodName × ByteArray × Nat × Option FieldType := (⟨"RideLaws$Line", "addText", "(Ljava/lang/String;)V"⟩, prog_5_method_2_code, 3, none)
def g_c124 : List (List (Option (Nat × Int × Nat × Nat))) := [[some (2, 2, 0, 0), some (13, 2, 4, 9), none, none, some (2, 0, 1, 0), some (15, 0, 0, 0), some (9, 0, 1, 13), none, none, some (0, (-1), 0, 1), some (11, 0, 0, 24), none, none, some (2, 2, 0, 0), some (2, 0, 1, 0), some (2, 2, 0, 0)], [some (13, 2, 4, 11), none, none, some (2, 0, 1, 0), some (15, 0, 0, 0), some (30, 14, 71, 3), none, none, some (40, 0, 0, 0)]]
def g_k124 : List (List (List Nat)) := [[[], [40, 338], [], [], [], [], [], [], [], [], [], [], [], [], [], []], [[46, 343], [], [], [], [], [73, 885, 784, 785, 111], [], [], []]]
def g_m124 : MethodName × ByteArray × Nat × Option FieldType := (⟨"RideLaws$State", "nextWord", "(I)I"⟩, prog_12_method_7_code, 2, some .int)
def g_c125 : List (List (Option (Nat × Int × Nat × Nat))) := [[some (2, 0, 1, 0), some (9, 0, 2, 27), none, none, some (2, 0, 1, 0), some (2, 2, 0, 0), some (13, 2, 0, 10), none, none, some (13, 0, 11, 1), none, none, some (10, 0, 3, 27), none, none, some (2, 2, 0, 0)], [some (13, 2, 0, 10), none, none, some (13, 2, 11, 0), none, none, some (2, 0, 1, 0), some (15, 0, 1, 0), some (11, 0, 0, 28), none, none, some (0, (-1), 0, 1), some (40, 0, 0, 0)]]
def g_k125 : List (List (List Nat)) := [[[], [], [], [], [], [], [84, 540], [], [], [308, 523], [], [], [], [], [], []], [[84, 540], [], [], [328, 521], [], [], [], [], [], [], [], [], []]]
def g_m125 : MethodName × ByteArray × Nat × Option FieldType := (⟨"RideLaws", "byteAt", "(I)I"⟩, prog_1_method_30_code, 2, some .int)
def g_c126 : List (List (Option (Nat × Int × Nat × Nat))) := [[some (2, 0, 1, 0), some (0, 1, 0, 1), some (10, 0, 2, 11), none, none, some (2, 0, 1, 0), some (0, 60, 1, 2), none, some (10, 0, 5, 13), none, none, some (0, (-1), 0, 1), some (40, 0, 0, 0), some (2, 0, 1, 0), some (2, 2, 0, 0), some (13, 2, 0, 1)], [none, none, some (13, 2, 2, 1), none, none, some (30, 14, 90, 1), none, none, some (26, 0, 1, 0), none, none, some (3, 0, 3, 0), some (2, 0, 3, 0), some (9, 0, 5, 46), none, none], [some (2, 2, 0, 0), some (13, 2, 0, 5), none, none, some (2, 2, 0, 0), some (13, 2, 0, 1), none, none, some (13, 2, 2, 1), none, none, some (30, 16, 80, 2), none, none, some (2, 2, 0, 0), some (13, 2, 0, 9)], [none, none, some (2, 0, 2, 0), some (14, 0, 10, 0), none, none, some (0, 0, 0, 1), some (3, 0, 4, 1), none, some (2, 0, 4, 1), none, some (2, 0, 3, 0), some (10, 0, 3, 90), none, none, some (2, 2, 0, 0)], [some (13, 2, 0, 1), none, none, some (13, 2, 2, 1), none, none, some (2, 2, 0, 0), some (13, 2, 0, 1), none, none, some (13, 2, 2, 0), none, none, some (2, 2, 0, 0), some (13, 2, 0, 9), none], [none, some (30, 14, 127, 3), none, none, some (4, 1, 4, 0), none, none, some (11, 0, 0, 57), none, none, some (2, 0, 3, 0), some (40, 0, 0, 0)]]
def g_k126 : List (List (List Nat)) := [[[], [], [], [], [], [], [], [], [], [], [], [], [], [], [], [19, 531]], [[], [], [63, 411], [], [], [252, 863, 864, 865, 111], [], [], [255, 870], [], [], [], [], [], [], []], [[], [35, 535], [], [], [], [19, 531], [], [], [63, 411], [], [], [226, 819, 820, 821, 113], [], [], [], [77, 539]], [[], [], [], [332, 510], [], [], [], [], [], [], [], [], [], [], [], []], [[19, 531], [], [], [63, 411], [], [], [], [19, 531], [], [], [50, 408], [], [], [], [77, 539], []], [[], [335, 1034, 1035, 1036, 111], [], [], [], [], [], [], [], [], [], []]]
def g_m126 : MethodName × ByteArray × Nat × Option FieldType := (⟨"RideLaws", "drawn", "(II)I"⟩, prog_1_method_31_code, 5, some .int)
def g_c127 : List (List (Option (Nat × Int × Nat × Nat))) := [[some (2, 2, 1, 0), some (13, 2, 3, 0), none, none, some (0, 3, 0, 1), some (15, 0, 0, 0), some (3, 0, 3, 0), some (2, 2, 1, 0), some (13, 2, 3, 0), none, none, some (0, 1, 0, 1), some (15, 0, 0, 0), some (3, 0, 4, 1), none, some (2, 2, 1, 0)], [some (13, 2, 3, 0), none, none, some (0, 2, 0, 1), some (15, 0, 0, 0), some (3, 0, 5, 1), none, some (2, 2, 2, 0), some (0, 12, 1, 2), none, some (30, 20, 128, 2), none, none, some (3, 0, 6, 1), none, some (2, 0, 6, 1)], [none, some (9, 0, 1, 67), none, none, some (2, 0, 3, 0), some (9, 0, 5, 67), none, none, some (2, 0, 4, 1), none, some (9, 0, 5, 67), none, none, some (2, 2, 2, 0), some (2, 0, 3, 0), some (30, 20, 128, 2)], [none, none, some (3, 0, 7, 1), none, some (2, 2, 0, 0), some (2, 0, 7, 1), none, some (2, 2, 2, 0), some (2, 0, 4, 1), none, some (30, 20, 128, 2), none, none, some (30, 14, 129, 3), none, none], [some (11, 0, 0, 134), none, none, some (2, 0, 6, 1), none, some (0, 1, 0, 1), some (10, 0, 1, 117), none, none, some (2, 0, 3, 0), some (9, 0, 5, 117), none, none, some (2, 0, 5, 1), none, some (9, 0, 5, 117)], [none, none, some (2, 2, 2, 0), some (2, 0, 3, 0), some (30, 20, 128, 2), none, none, some (3, 0, 7, 1), none, some (2, 2, 2, 0), some (2, 0, 5, 1), none, some (30, 20, 128, 2), none, none, some (3, 0, 8, 1)], [none, some (2, 2, 0, 0), some (2, 0, 7, 1), none, some (30, 14, 54, 2), none, none, some (9, 0, 1, 114), none, none, some (2, 2, 0, 0), some (2, 0, 7, 1), none, some (2, 0, 8, 1), none, some (30, 14, 55, 3)], [none, none, some (11, 0, 0, 134), none, none, some (2, 0, 6, 1), none, some (0, 2, 0, 1), some (10, 0, 1, 134), none, none, some (2, 2, 0, 0), some (30, 14, 87, 1), none, none, some (9, 0, 1, 134)], [none, none, some (2, 2, 0, 0), some (30, 14, 88, 1), none, none, some (2, 2, 0, 0), some (2, 2, 1, 0), some (30, 14, 91, 2), none, none, some (40, 0, 2, 0)]]
def g_k127 : List (List (List Nat)) := [[[], [76, 257], [], [], [], [], [], [], [76, 257], [], [], [], [], [], [], []], [[76, 257], [], [], [], [], [], [], [], [], [], [94, 1038, 1039, 1040, 117], [], [], [], [], []], [[], [], [], [], [], [], [], [], [], [], [], [], [], [], [], [94, 1038, 1039, 1040, 117]], [[], [], [], [], [], [], [], [], [], [], [94, 1038, 1039, 1040, 117], [], [], [100, 1043, 1045, 23, 111], [], []], [[], [], [], [], [], [], [], [], [], [], [], [], [], [], [], []], [[], [], [], [], [94, 1038, 1039, 1040, 117], [], [], [], [], [], [], [], [94, 1038, 1039, 1040, 117], [], [], []], [[], [], [], [], [104, 1051, 711, 712, 111], [], [], [], [], [], [], [], [], [], [], [107, 1052, 715, 716, 111]], [[], [], [], [], [], [], [], [], [], [], [], [], [110, 1053, 852, 853, 111], [], [], []], [[], [], [], [114, 1054, 856, 857, 111], [], [], [], [], [117, 1055, 874, 875, 111], [], [], []]]
def g_m127 : MethodName × ByteArray × Nat × Option FieldType := (⟨"RideLaws$State", "turnDrawn", "(LRideLaws$Plan;LRideLaws$Draws;)V"⟩, prog_12_method_19_code, 9, none)
def g_c128 : List (List (Option (Nat × Int × Nat × Nat))) := [[some (2, 2, 0, 0), some (2, 2, 0, 0), some (13, 0, 10, 0), none, none, some (0, 1103515245, 3, 2), none, some (5, 0, 2, 0), some (0, 12345, 2, 3), none, none, some (5, 0, 0, 0), some (14, 0, 10, 0), none, none, some (2, 0, 1, 0)], [some (9, 0, 5, 31), none, none, some (2, 2, 0, 0), some (13, 0, 10, 0), none, none, some (0, 8, 1, 2), none, some (5, 0, 8, 0), some (2, 0, 1, 0), some (5, 0, 10, 0), some (11, 0, 0, 32), none, none, some (0, 0, 0, 1)], [some (40, 0, 0, 0)]]
def g_k128 : List (List (List Nat)) := [[[], [], [7, 509], [], [], [13, 1042], [], [], [], [], [], [], [7, 509], [], [], []], [[], [], [], [], [7, 509], [], [], [], [], [], [], [], [], [], [], []], [[]]]
def g_m128 : MethodName × ByteArray × Nat × Option FieldType := (⟨"RideLaws$Draws", "below", "(I)I"⟩, prog_3_method_2_code, 2, some .int)
def g_c129 : List (List (Option (Nat × Int × Nat × Nat))) := [[some (2, 2, 0, 0), some (2, 0, 1, 0), some (30, 14, 83, 2), none, none, some (9, 0, 1, 16), none, none, some (2, 2, 0, 0), some (2, 0, 1, 0), some (30, 14, 84, 2), none, none, some (11, 0, 0, 31), none, none], [some (2, 2, 0, 0), some (2, 0, 1, 0), some (2, 0, 2, 0), some (30, 14, 79, 3), none, none, some (9, 0, 1, 31), none, none, some (2, 2, 0, 0), some (2, 0, 1, 0), some (2, 0, 2, 0), some (30, 14, 52, 3), none, none, some (40, 0, 2, 0)]]
def g_k129 : List (List (List Nat)) := [[[], [], [121, 1047, 834, 835, 111], [], [], [], [], [], [], [], [124, 1048, 838, 839, 111], [], [], [], [], []], [[], [], [], [128, 1049, 816, 817, 111], [], [], [], [], [], [], [], [], [131, 1050, 703, 704, 111], [], [], []]]
def g_m129 : MethodName × ByteArray × Nat × Option FieldType := (⟨"RideLaws$State", "mountOrAlight", "(II)V"⟩, prog_12_method_20_code, 3, none)
def g_c130 : List (List (Option (Nat × Int × Nat × Nat))) := [[some (2, 2, 0, 0), some (0, 4, 0, 1), some (2, 0, 1, 0), some (30, 10, 70, 3), none, none, some (9, 0, 0, 20), none, none, some (2, 0, 2, 0), some (0, 1, 0, 1), some (10, 0, 2, 20), none, none, some (2, 0, 2, 0), some (0, 30, 1, 2)], [none, some (10, 0, 5, 22), none, none, some (0, (-1), 0, 1), some (40, 0, 0, 0), some (0, 0, 0, 1), some (3, 0, 4, 1), none, some (0, 0, 0, 1), some (3, 0, 5, 1), none, some (2, 0, 5, 1), none, some (2, 0, 2, 0), some (10, 0, 3, 69)], [none, none, some (2, 2, 0, 0), some (13, 2, 0, 9), none, none, some (2, 0, 3, 0), some (2, 0, 5, 1), none, some (5, 0, 0, 0), some (14, 0, 10, 0), none, none, some (2, 2, 0, 0), some (13, 2, 0, 8), none], [none, some (2, 0, 1, 0), some (2, 2, 0, 0), some (13, 2, 0, 9), none, none, some (30, 19, 131, 3), none, none, some (9, 0, 0, 63), none, none, some (4, 1, 4, 0), none, none, some (4, 1, 5, 0)], [none, none, some (11, 0, 0, 28), none, none, some (2, 0, 4, 1), none, some (40, 0, 0, 0)]]
def g_k130 : List (List (List Nat)) := [[[], [], [], [139, 779, 781, 13, 102], [], [], [], [], [], [], [], [], [], [], [], []], [[], [], [], [], [], [], [], [], [], [], [], [], [], [], [], []], [[], [], [], [77, 539], [], [], [], [], [], [], [332, 510], [], [], [], [70, 538], []], [[], [], [], [77, 539], [], [], [339, 1060, 1061, 1062, 116], [], [], [], [], [], [], [], [], []], [[], [], [], [], [], [], [], []]]
def g_m130 : MethodName × ByteArray × Nat × Option FieldType := (⟨"RideLaws", "odds", "(III)I"⟩, prog_1_method_32_code, 6, some .int)
def g_c131 : List (List (Option (Nat × Int × Nat × Nat))) := [[some (2, 2, 0, 0), some (13, 2, 9, 2), none, none, some (2, 2, 0, 0), some (13, 2, 9, 1), none, none, some (30, 14, 66, 2), none, none, some (0, 0, 0, 1), some (3, 0, 3, 0), some (2, 0, 3, 0), some (0, 30, 1, 2), none], [some (10, 0, 3, 37), none, none, some (2, 2, 0, 0), some (13, 2, 9, 2), none, none, some (2, 2, 0, 0), some (13, 2, 9, 0), none, none, some (2, 2, 2, 0), some (30, 14, 127, 3), none, none, some (4, 1, 3, 0)], [none, none, some (11, 0, 0, 13), none, none, some (2, 2, 0, 0), some (13, 2, 9, 2), none, none, some (2, 0, 1, 0), some (30, 14, 74, 2), none, none, some (40, 0, 0, 1)]]
def g_k131 : List (List (List Nat)) := [[[], [19, 495], [], [], [], [15, 494], [], [], [41, 920, 762, 763, 111], [], [], [], [], [], [], []], [[], [], [], [], [19, 495], [], [], [], [9, 493], [], [], [], [75, 1064, 1035, 1036, 111], [], [], []], [[], [], [], [], [], [], [19, 495], [], [], [], [37, 919, 796, 797, 111], [], [], []]]
def g_m131 : MethodName × ByteArray × Nat × Option FieldType := (⟨"RideLaws$Outlook", "holdsByDraws", "(ILRideLaws$Draws;)Z"⟩, prog_6_method_9_code, 4, some .boolean)
def g_c132 : List (List (Option (Nat × Int × Nat × Nat))) := [[some (2, 0, 1, 0), some (9, 0, 0, 13), none, none, some (2, 0, 1, 0), some (0, 1, 0, 1), some (10, 0, 0, 13), none, none, some (0, (-1000), 2, 3), none, none, some (40, 0, 0, 0), some (2, 2, 0, 0), some (13, 2, 0, 7), none], [none, some (30, 18, 133, 1), none, none, some (3, 0, 2, 0), some (2, 2, 0, 0), some (30, 10, 62, 1), none, none, some (2, 0, 2, 0), some (9, 0, 1, 40), none, none, some (0, (-2), 1, 2), none, some (2, 2, 0, 0)], [some (13, 2, 0, 0), none, none, some (13, 0, 1, 10), none, none, some (5, 0, 1, 0), some (40, 0, 0, 0), some (2, 2, 0, 0), some (13, 2, 0, 2), none, none, some (13, 2, 2, 1), none, none, some (2, 2, 0, 0)], [some (13, 2, 0, 1), none, none, some (13, 2, 2, 1), none, none, some (30, 14, 66, 2), none, none, some (2, 2, 0, 0), some (13, 2, 0, 7), none, none, some (2, 2, 0, 0), some (13, 2, 0, 2), none], [none, some (13, 2, 2, 1), none, none, some (30, 18, 139, 2), none, none, some (3, 0, 3, 0), some (2, 2, 0, 0), some (13, 2, 0, 11), none, none, some (0, 0, 0, 1), some (2, 0, 3, 0), some (16, 0, 0, 4), some (2, 2, 0, 0)], [some (13, 2, 0, 11), none, none, some (0, 1, 0, 1), some (2, 2, 0, 0), some (13, 2, 0, 7), none, none, some (13, 0, 8, 6), none, none, some (16, 0, 0, 4), some (2, 2, 0, 0), some (13, 2, 0, 11), none, none], [some (0, 2, 0, 1), some (2, 2, 0, 0), some (13, 2, 0, 2), none, none, some (13, 2, 2, 1), none, none, some (13, 0, 4, 0), none, none, some (16, 0, 0, 4), some (2, 2, 0, 0), some (13, 2, 0, 11), none, none], [some (0, 3, 0, 1), some (2, 2, 0, 0), some (13, 2, 0, 2), none, none, some (13, 2, 2, 1), none, none, some (13, 0, 4, 3), none, none, some (16, 0, 0, 4), some (2, 0, 1, 0), some (0, 1, 0, 1), some (10, 0, 1, 170), none], [none, some (2, 2, 0, 0), some (13, 2, 0, 7), none, none, some (13, 0, 8, 6), none, none, some (9, 0, 5, 170), none, none, some (2, 2, 0, 0), some (13, 2, 0, 5), none, none, some (2, 2, 0, 0)], [some (13, 2, 0, 1), none, none, some (13, 2, 2, 1), none, none, some (30, 16, 80, 2), none, none, some (2, 2, 0, 0), some (13, 2, 0, 1), none, none, some (13, 2, 2, 1), none, none], [some (2, 2, 0, 0), some (13, 2, 0, 2), none, none, some (13, 2, 2, 1), none, none, some (30, 14, 66, 2), none, none, some (2, 0, 3, 0), some (9, 0, 1, 178), none, none, some (0, (-1), 0, 1), some (11, 0, 0, 185)], [none, none, some (2, 2, 0, 0), some (13, 2, 0, 7), none, none, some (13, 0, 8, 6), none, none, some (40, 0, 0, 0)]]
def g_k132 : List (List (List Nat)) := [[[], [], [], [], [], [], [], [], [], [], [], [], [], [], [57, 537], []], [[], [343, 1069, 1070, 1071, 115], [], [], [], [], [119, 742, 744, 12, 102], [], [], [], [], [], [], [], [], []], [[10, 530], [], [], [122, 213], [], [], [], [], [], [23, 532], [], [], [63, 411], [], [], []], [[19, 531], [], [], [63, 411], [], [], [346, 1099, 762, 763, 111], [], [], [], [57, 537], [], [], [], [23, 532], []], [[], [63, 411], [], [], [348, 1100, 1101, 1102, 115], [], [], [], [], [88, 541], [], [], [], [], [], []], [[88, 541], [], [], [], [], [57, 537], [], [], [352, 471], [], [], [], [], [88, 541], [], []], [[], [], [23, 532], [], [], [63, 411], [], [], [199, 315], [], [], [], [], [88, 541], [], []], [[], [], [23, 532], [], [], [63, 411], [], [], [208, 322], [], [], [], [], [], [], []], [[], [], [57, 537], [], [], [352, 471], [], [], [], [], [], [], [35, 535], [], [], []], [[19, 531], [], [], [63, 411], [], [], [226, 819, 820, 821, 113], [], [], [], [19, 531], [], [], [63, 411], [], []], [[], [23, 532], [], [], [63, 411], [], [], [346, 1099, 762, 763, 111], [], [], [], [], [], [], [], []], [[], [], [], [57, 537], [], [], [352, 471], [], [], []]]
def g_m132 : MethodName × ByteArray × Nat × Option FieldType := (⟨"RideLaws", "book", "(I)I"⟩, prog_1_method_33_code, 4, some .int)
def g_c133 : List (List (Option (Nat × Int × Nat × Nat))) := [[some (2, 2, 0, 0), some (0, 0, 0, 1), some (14, 0, 8, 5), none, none, some (2, 2, 0, 0), some (13, 2, 8, 0), none, none, some (0, 400, 2, 3), none, none, some (30, 11, 28, 2), none, none, some (0, 0, 0, 1)], [some (3, 0, 1, 0), some (2, 0, 1, 0), some (0, 40, 1, 2), none, some (10, 0, 4, 60), none, none, some (2, 2, 0, 0), some (13, 2, 8, 0), none, none, some (13, 0, 1, 5), none, none, some (9, 0, 0, 60), none], [none, some (2, 2, 0, 0), some (30, 18, 134, 1), none, none, some (9, 0, 0, 52), none, none, some (2, 2, 0, 0), some (13, 2, 8, 0), none, none, some (0, 59, 1, 2), none, some (30, 11, 60, 2), none], [none, some (9, 0, 1, 54), none, none, some (0, 0, 0, 1), some (40, 0, 0, 1), some (4, 1, 1, 0), none, none, some (11, 0, 0, 17), none, none, some (0, 1, 0, 1), some (40, 0, 0, 1)]]
def g_k133 : List (List (List Nat)) := [[[], [], [21, 469], [], [], [], [28, 464], [], [], [], [], [], [36, 1073, 605, 606, 103], [], [], []], [[], [], [], [], [], [], [], [], [28, 464], [], [], [42, 201], [], [], [], []], [[], [], [45, 1074, 1076, 24, 115], [], [], [], [], [], [], [28, 464], [], [], [], [], [49, 1098, 735, 736, 103], []], [[], [], [], [], [], [], [], [], [], [], [], [], [], []]]
def g_m133 : MethodName × ByteArray × Nat × Option FieldType := (⟨"RideLaws$BookText", "readAll", "()Z"⟩, prog_2_method_2_code, 2, some .boolean)
def g_c134 : List (List (Option (Nat × Int × Nat × Nat))) := [[some (2, 2, 0, 0), some (13, 2, 8, 0), none, none, some (0, 10, 1, 2), none, some (30, 11, 135, 2), none, none, some (3, 0, 1, 0), some (2, 2, 0, 0), some (13, 2, 8, 0), none, none, some (0, 11, 1, 2), none], [some (30, 11, 135, 2), none, none, some (3, 0, 2, 0), some (0, (-1), 0, 1), some (3, 0, 3, 0), some (2, 0, 1, 0), some (9, 0, 1, 50), none, none, some (2, 0, 2, 0), some (9, 0, 1, 50), none, none, some (2, 2, 0, 0), some (13, 2, 8, 0)], [none, none, some (2, 2, 0, 0), some (13, 2, 8, 1), none, none, some (0, 3, 0, 1), some (30, 11, 47, 3), none, none, some (3, 0, 3, 0), some (2, 0, 3, 0), some (0, (-1), 0, 1), some (10, 0, 1, 50), none, none], [some (0, 0, 0, 1), some (40, 0, 0, 1), some (2, 2, 0, 0), some (13, 0, 8, 5), none, none, some (0, 40, 1, 2), none, some (10, 0, 2, 68), none, none, some (2, 2, 0, 0), some (13, 2, 8, 0), none, none, some (0, 4, 0, 1)], [some (30, 11, 37, 2), none, none, some (40, 0, 0, 1), some (2, 2, 0, 0), some (13, 2, 8, 0), none, none, some (30, 11, 29, 1), none, none, some (2, 0, 1, 0), some (9, 0, 0, 88), none, none, some (2, 2, 0, 0)], [some (0, 10, 1, 2), none, some (0, (-1), 0, 1), some (0, 0, 0, 1), some (30, 18, 136, 4), none, none, some (40, 0, 0, 1), some (2, 0, 2, 0), some (9, 0, 0, 99), none, none, some (2, 2, 0, 0), some (30, 18, 137, 1), none, none], [some (11, 0, 0, 104), none, none, some (2, 2, 0, 0), some (2, 0, 3, 0), some (30, 18, 138, 2), none, none, some (40, 0, 0, 1)]]
def g_k134 : List (List (List Nat)) := [[[], [28, 464], [], [], [], [], [53, 1078, 1079, 1080, 103], [], [], [], [], [28, 464], [], [], [], []], [[53, 1078, 1079, 1080, 103], [], [], [], [], [], [], [], [], [], [], [], [], [], [], [28, 464]], [[], [], [], [32, 465], [], [], [], [56, 1082, 681, 682, 103], [], [], [], [], [], [], [], []], [[], [], [], [21, 469], [], [], [], [], [], [], [], [], [28, 464], [], [], []], [[60, 1083, 637, 638, 103], [], [], [], [], [28, 464], [], [], [63, 1084, 609, 610, 103], [], [], [], [], [], [], []], [[], [], [], [], [66, 1085, 1087, 25, 115], [], [], [], [], [], [], [], [], [70, 1089, 1091, 26, 115], [], []], [[], [], [], [], [], [73, 1094, 1096, 27, 115], [], [], []]]
def g_m134 : MethodName × ByteArray × Nat × Option FieldType := (⟨"RideLaws$BookText", "readLine", "()Z"⟩, prog_2_method_3_code, 4, some .boolean)
def g_c135 : List (List (Option (Nat × Int × Nat × Nat))) := [[some (2, 2, 0, 0), some (13, 0, 1, 5), none, none, some (0, 3, 0, 1), some (10, 0, 1, 20), none, none, some (2, 2, 0, 0), some (13, 0, 1, 7), none, none, some (2, 0, 1, 0), some (10, 0, 1, 20), none, none], [some (0, 1, 0, 1), some (11, 0, 0, 21), none, none, some (0, 0, 0, 1), some (40, 0, 0, 1)]]
def g_k135 : List (List (List Nat)) := [[[], [29, 200], [], [], [], [], [], [], [], [35, 205], [], [], [], [], [], []], [[], [], [], [], [], []]]
def g_m135 : MethodName × ByteArray × Nat × Option FieldType := (⟨"RideLaws$Reader", "isKeyword", "(I)Z"⟩, prog_8_method_13_code, 2, some .boolean)
def g_c136 : List (List (Option (Nat × Int × Nat × Nat))) := [[some (2, 2, 0, 0), some (13, 0, 8, 5), none, none, some (0, 40, 1, 2), none, some (10, 0, 3, 49), none, none, some (2, 2, 0, 0), some (13, 2, 8, 2), none, none, some (2, 2, 0, 0), some (13, 0, 8, 5), none], [none, some (2, 0, 1, 0), some (16, 0, 0, 4), some (2, 2, 0, 0), some (13, 2, 8, 3), none, none, some (2, 2, 0, 0), some (13, 0, 8, 5), none, none, some (2, 0, 2, 0), some (16, 0, 0, 4), some (2, 2, 0, 0), some (13, 2, 8, 4), none], [none, some (2, 2, 0, 0), some (13, 0, 8, 5), none, none, some (2, 0, 3, 0), some (16, 0, 0, 4), some (2, 2, 0, 0), some (8, 0, 0, 0), some (13, 0, 8, 5), none, none, some (0, 1, 0, 1), some (5, 0, 0, 0), some (14, 0, 8, 5), none], [none, some (0, 1, 0, 1), some (40, 0, 0, 1)]]
def g_k136 : List (List (List Nat)) := [[[], [21, 469], [], [], [], [], [], [], [], [], [11, 466], [], [], [], [21, 469], []], [[], [], [], [], [15, 467], [], [], [], [21, 469], [], [], [], [], [], [18, 468], []], [[], [], [21, 469], [], [], [], [], [], [], [21, 469], [], [], [], [], [21, 469], []], [[], [], []]]
def g_m136 : MethodName × ByteArray × Nat × Option FieldType := (⟨"RideLaws$BookText", "add", "(III)Z"⟩, prog_2_method_6_code, 4, some .boolean)
def g_c137 : List (List (Option (Nat × Int × Nat × Nat))) := [[some (2, 2, 0, 0), some (13, 2, 8, 0), none, none, some (0, 1, 0, 1), some (0, 60, 1, 2), none, some (30, 11, 43, 3), none, none, some (3, 0, 1, 0), some (2, 0, 1, 0), some (0, (-1), 0, 1), some (10, 0, 1, 18), none, none], [some (0, 0, 0, 1), some (40, 0, 0, 1), some (2, 2, 0, 0), some (13, 2, 8, 0), none, none, some (30, 11, 29, 1), none, none, some (2, 2, 0, 0), some (0, 11, 1, 2), none, some (0, (-1), 0, 1), some (2, 0, 1, 0), some (30, 18, 136, 4), none], [none, some (40, 0, 0, 1)]]
def g_k137 : List (List (List Nat)) := [[[], [28, 464], [], [], [], [], [], [76, 1093, 664, 665, 103], [], [], [], [], [], [], [], []], [[], [], [], [28, 464], [], [], [63, 1084, 609, 610, 103], [], [], [], [], [], [], [], [66, 1085, 1087, 25, 115], []], [[], []]]
def g_m137 : MethodName × ByteArray × Nat × Option FieldType := (⟨"RideLaws$BookText", "readTicks", "()Z"⟩, prog_2_method_4_code, 2, some .boolean)
def g_c138 : List (List (Option (Nat × Int × Nat × Nat))) := [[some (2, 2, 0, 0), some (13, 2, 8, 0), none, none, some (0, 8, 1, 2), none, some (30, 11, 135, 2), none, none, some (9, 0, 0, 28), none, none, some (2, 2, 0, 0), some (13, 2, 8, 0), none, none], [some (30, 11, 29, 1), none, none, some (2, 2, 0, 0), some (0, 8, 1, 2), none, some (2, 0, 1, 0), some (0, 0, 0, 1), some (30, 18, 136, 4), none, none, some (40, 0, 0, 1), some (2, 2, 0, 0), some (13, 2, 8, 0), none, none], [some (0, 7, 1, 2), none, some (30, 11, 135, 2), none, none, some (3, 0, 2, 0), some (2, 0, 2, 0), some (9, 0, 1, 63), none, none, some (2, 2, 0, 0), some (13, 2, 8, 0), none, none, some (0, 9, 1, 2), none], [some (30, 11, 135, 2), none, none, some (9, 0, 1, 63), none, none, some (2, 2, 0, 0), some (13, 2, 8, 0), none, none, some (0, 1, 0, 1), some (30, 11, 37, 2), none, none, some (40, 0, 0, 1), some (2, 2, 0, 0)], [some (13, 2, 8, 0), none, none, some (30, 11, 29, 1), none, none, some (2, 2, 0, 0), some (13, 2, 8, 0), none, none, some (2, 2, 0, 0), some (13, 2, 8, 1), none, none, some (2, 0, 2, 0), some (9, 0, 0, 86)], [none, none, some (0, 1, 0, 1), some (11, 0, 0, 87), none, none, some (0, 2, 0, 1), some (30, 11, 47, 3), none, none, some (3, 0, 3, 0), some (2, 0, 3, 0), some (0, (-1), 0, 1), some (10, 0, 1, 98), none, none], [some (0, 0, 0, 1), some (40, 0, 0, 1), some (2, 2, 0, 0), some (13, 2, 8, 0), none, none, some (30, 11, 29, 1), none, none, some (2, 2, 0, 0), some (2, 0, 2, 0), some (9, 0, 0, 115), none, none, some (0, 7, 1, 2), none], [some (11, 0, 0, 117), none, none, some (0, 9, 1, 2), none, some (2, 0, 1, 0), some (2, 0, 3, 0), some (30, 18, 136, 4), none, none, some (40, 0, 0, 1)]]
def g_k138 : List (List (List Nat)) := [[[], [28, 464], [], [], [], [], [53, 1078, 1079, 1080, 103], [], [], [], [], [], [], [28, 464], [], []], [[63, 1084, 609, 610, 103], [], [], [], [], [], [], [], [66, 1085, 1087, 25, 115], [], [], [], [], [28, 464], [], []], [[], [], [53, 1078, 1079, 1080, 103], [], [], [], [], [], [], [], [], [28, 464], [], [], [], []], [[53, 1078, 1079, 1080, 103], [], [], [], [], [], [], [28, 464], [], [], [], [60, 1083, 637, 638, 103], [], [], [], []], [[28, 464], [], [], [63, 1084, 609, 610, 103], [], [], [], [28, 464], [], [], [], [32, 465], [], [], [], []], [[], [], [], [], [], [], [], [56, 1082, 681, 682, 103], [], [], [], [], [], [], [], []], [[], [], [], [28, 464], [], [], [63, 1084, 609, 610, 103], [], [], [], [], [], [], [], [], []], [[], [], [], [], [], [], [], [66, 1085, 1087, 25, 115], [], [], []]]
def g_m138 : MethodName × ByteArray × Nat × Option FieldType := (⟨"RideLaws$BookText", "readAct", "(I)Z"⟩, prog_2_method_5_code, 4, some .boolean)
def g_c139 : List (List (Option (Nat × Int × Nat × Nat))) := [[some (2, 2, 0, 0), some (0, 0, 0, 1), some (14, 0, 8, 6), none, none, some (0, 0, 0, 1), some (3, 0, 2, 0), some (0, 0, 0, 1), some (3, 0, 3, 0), some (2, 0, 3, 0), some (2, 2, 0, 0), some (13, 0, 8, 5), none, none, some (10, 0, 3, 48), none], [none, some (2, 0, 2, 0), some (9, 0, 1, 48), none, none, some (2, 2, 0, 0), some (2, 0, 3, 0), some (2, 2, 1, 0), some (30, 18, 140, 3), none, none, some (3, 0, 2, 0), some (2, 0, 2, 0), some (9, 0, 1, 42), none, none], [some (2, 2, 0, 0), some (8, 0, 0, 0), some (13, 0, 8, 6), none, none, some (0, 1, 0, 1), some (5, 0, 0, 0), some (14, 0, 8, 6), none, none, some (4, 1, 3, 0), none, none, some (11, 0, 0, 9), none, none], [some (2, 0, 2, 0), some (40, 0, 0, 0)]]
def g_k139 : List (List (List Nat)) := [[[], [], [25, 470], [], [], [], [], [], [], [], [], [21, 469], [], [], [], []], [[], [], [], [], [], [], [], [], [80, 1104, 1106, 28, 115], [], [], [], [], [], [], []], [[], [], [25, 470], [], [], [], [], [25, 470], [], [], [], [], [], [], [], []], [[], []]]
def g_m139 : MethodName × ByteArray × Nat × Option FieldType := (⟨"RideLaws$BookText", "liveOn", "(LRideLaws$State;)I"⟩, prog_2_method_7_code, 4, some .int)
def g_c140 : List (List (Option (Nat × Int × Nat × Nat))) := [[some (2, 2, 0, 0), some (13, 2, 8, 2), none, none, some (2, 0, 1, 0), some (15, 0, 0, 0), some (20, 7, 158, 4), none, none, none, none, none, none, none, none, none], [none, none, none, none, none, none, none, none, none, none, none, none, none, none, none, none], [none, none, none, none, some (2, 2, 0, 0), some (13, 2, 8, 3), none, none, some (2, 0, 1, 0), some (15, 0, 0, 0), some (2, 2, 0, 0), some (13, 2, 8, 4), none, none, some (2, 0, 1, 0), some (15, 0, 0, 0)], [some (2, 2, 2, 0), some (30, (-1), 141, 3), none, none, some (40, 0, 0, 0), some (2, 2, 2, 0), some (2, 2, 0, 0), some (13, 2, 8, 3), none, none, some (2, 0, 1, 0), some (15, 0, 0, 0), some (30, 14, 83, 2), none, none, some (9, 0, 0, 80)], [none, none, some (0, 10, 1, 2), none, some (2, 2, 2, 0), some (2, 2, 0, 0), some (13, 2, 8, 3), none, none, some (2, 0, 1, 0), some (15, 0, 0, 0), some (30, 14, 83, 2), none, none, some (5, 0, 0, 0), some (40, 0, 0, 0)], [some (2, 2, 2, 0), some (2, 2, 0, 0), some (13, 2, 8, 3), none, none, some (2, 0, 1, 0), some (15, 0, 0, 0), some (30, 14, 84, 2), none, none, some (0, 0, 0, 1), some (40, 0, 0, 0), some (2, 2, 2, 0), some (2, 2, 0, 0), some (13, 2, 8, 3), none], [none, some (2, 0, 1, 0), some (15, 0, 0, 0), some (30, 14, 54, 2), none, none, some (9, 0, 0, 119), none, none, some (0, 20, 1, 2), none, some (2, 2, 2, 0), some (2, 2, 0, 0), some (13, 2, 8, 3), none, none], [some (2, 0, 1, 0), some (15, 0, 0, 0), some (30, 14, 54, 2), none, none, some (5, 0, 0, 0), some (40, 0, 0, 0), some (2, 2, 2, 0), some (2, 2, 0, 0), some (13, 2, 8, 3), none, none, some (2, 0, 1, 0), some (15, 0, 0, 0), some (2, 2, 0, 0), some (13, 2, 8, 4)], [none, none, some (2, 0, 1, 0), some (15, 0, 0, 0), some (30, 14, 55, 3), none, none, some (0, 0, 0, 1), some (40, 0, 0, 0), some (2, 2, 2, 0), some (30, 14, 87, 1), none, none, some (9, 0, 0, 152), none, none], [some (0, 30, 1, 2), none, some (2, 2, 2, 0), some (30, 14, 87, 1), none, none, some (5, 0, 0, 0), some (40, 0, 0, 0), some (2, 2, 2, 0), some (30, 14, 88, 1), none, none, some (0, 0, 0, 1), some (40, 0, 0, 0), some (2, 2, 0, 0), some (2, 2, 0, 0)], [some (13, 2, 8, 4), none, none, some (2, 0, 1, 0), some (15, 0, 0, 0), some (2, 2, 2, 0), some (30, 18, 142, 3), none, none, some (40, 0, 0, 0)]]
def g_k140 : List (List (List Nat)) := [[[], [11, 466], [], [], [], [], [], [], [], [], [], [], [], [], [], []], [[], [], [], [], [], [], [], [], [], [], [], [], [], [], [], []], [[], [], [], [], [], [15, 467], [], [], [], [], [], [18, 468], [], [], [], []], [[], [84, 1108, 1109, 115], [], [], [], [], [], [15, 467], [], [], [], [], [88, 1113, 834, 835, 111], [], [], []], [[], [], [], [], [], [], [15, 467], [], [], [], [], [88, 1113, 834, 835, 111], [], [], [], []], [[], [], [15, 467], [], [], [], [], [94, 1114, 838, 839, 111], [], [], [], [], [], [], [15, 467], []], [[], [], [], [97, 1115, 711, 712, 111], [], [], [], [], [], [], [], [], [], [15, 467], [], []], [[], [], [97, 1115, 711, 712, 111], [], [], [], [], [], [], [15, 467], [], [], [], [], [], [18, 468]], [[], [], [], [], [100, 1116, 715, 716, 111], [], [], [], [], [], [104, 1117, 852, 853, 111], [], [], [], [], []], [[], [], [], [104, 1117, 852, 853, 111], [], [], [], [], [], [108, 1118, 856, 857, 111], [], [], [], [], [], []], [[18, 468], [], [], [], [], [], [111, 1119, 1121, 29, 115], [], [], []]]
def g_m140 : MethodName × ByteArray × Nat × Option FieldType := (⟨"RideLaws$BookText", "liveLine", "(ILRideLaws$State;)I"⟩, prog_2_method_8_code, 3, some .int)
def g_c141 : List (List (Option (Nat × Int × Nat × Nat))) := [[some (2, 2, 2, 0), some (2, 0, 0, 0), some (2, 0, 1, 0), some (30, 14, 79, 3), none, none, some (3, 0, 3, 0), some (2, 0, 3, 0), some (9, 0, 1, 17), none, none, some (2, 2, 2, 0), some (2, 0, 0, 0), some (2, 0, 1, 0), some (30, 14, 52, 3), none], [none, some (2, 0, 3, 0), some (40, 0, 0, 0)]]
def g_k141 : List (List (List Nat)) := [[[], [], [], [114, 1111, 816, 817, 111], [], [], [], [], [], [], [], [], [], [], [117, 1112, 703, 704, 111], []], [[], [], []]]
def g_m141 : MethodName × ByteArray × Nat × Option FieldType := (⟨"RideLaws$BookText", "liveMount", "(IILRideLaws$State;)I"⟩, prog_2_method_9_code, 4, some .int)
def g_c142 : List (List (Option (Nat × Int × Nat × Nat))) := [[some (2, 2, 2, 0), some (30, 14, 90, 1), none, none, some (2, 0, 1, 0), some (10, 0, 3, 11), none, none, some (0, 41, 1, 2), none, some (40, 0, 0, 0), some (0, 0, 0, 1), some (3, 0, 3, 0), some (2, 0, 3, 0), some (2, 0, 1, 0), some (10, 0, 3, 32)], [none, none, some (2, 2, 2, 0), some (2, 2, 0, 0), some (13, 2, 8, 1), none, none, some (30, 14, 91, 2), none, none, some (4, 1, 3, 0), none, none, some (11, 0, 0, 13), none, none], [some (0, 0, 0, 1), some (40, 0, 0, 0)]]
def g_k142 : List (List (List Nat)) := [[[], [120, 1123, 864, 865, 111], [], [], [], [], [], [], [], [], [], [], [], [], [], []], [[], [], [], [], [32, 465], [], [], [123, 1124, 874, 875, 111], [], [], [], [], [], [], [], []], [[], []]]
def g_m142 : MethodName × ByteArray × Nat × Option FieldType := (⟨"RideLaws$BookText", "liveTicks", "(ILRideLaws$State;)I"⟩, prog_2_method_10_code, 4, some .int)
def g_c143 : List (List (Option (Nat × Int × Nat × Nat))) := [[some (2, 0, 1, 0), some (9, 0, 2, 22), none, none, some (2, 0, 1, 0), some (2, 2, 0, 0), some (13, 2, 0, 11), none, none, some (25, 0, 0, 0), some (10, 0, 3, 22), none, none, some (2, 2, 0, 0), some (13, 2, 0, 11), none], [none, some (2, 0, 1, 0), some (15, 0, 0, 0), some (11, 0, 0, 23), none, none, some (0, (-1), 0, 1), some (40, 0, 0, 0)]]
def g_k143 : List (List (List Nat)) := [[[], [], [], [], [], [], [88, 541], [], [], [], [], [], [], [], [88, 541], []], [[], [], [], [], [], [], [], []]]
def g_m143 : MethodName × ByteArray × Nat × Option FieldType := (⟨"RideLaws", "told", "(I)I"⟩, prog_1_method_34_code, 2, some .int)
def g_c144 : List (List (Option (Nat × Int × Nat × Nat))) := [[some (2, 2, 0, 0), some (13, 2, 0, 2), none, none, some (13, 2, 2, 2), none, none, some (2, 2, 0, 0), some (13, 2, 0, 0), none, none, some (2, 2, 0, 0), some (13, 2, 0, 1), none, none, some (13, 2, 2, 0)], [none, none, some (30, 15, 145, 3), none, none, some (3, 0, 1, 0), some (2, 2, 0, 0), some (30, 10, 62, 1), none, none, some (2, 0, 1, 0), some (9, 0, 1, 40), none, none, some (0, (-1), 0, 1), some (2, 2, 0, 0)], [some (13, 2, 0, 0), none, none, some (13, 0, 1, 10), none, none, some (5, 0, 1, 0), some (40, 0, 0, 0), some (2, 2, 0, 0), some (13, 2, 0, 1), none, none, some (13, 2, 2, 2), none, none, some (2, 2, 0, 0)], [some (13, 2, 0, 2), none, none, some (13, 2, 2, 2), none, none, some (30, 15, 67, 2), none, none, some (2, 2, 0, 0), some (13, 2, 0, 1), none, none, some (13, 2, 2, 2), none, none], [some (13, 0, 5, 4), none, none, some (40, 0, 0, 0)]]
def g_k144 : List (List (List Nat)) := [[[], [23, 532], [], [], [125, 413], [], [], [], [10, 530], [], [], [], [19, 531], [], [], [50, 408]], [[], [], [355, 1133, 1134, 1135, 112], [], [], [], [], [119, 742, 744, 12, 102], [], [], [], [], [], [], [], []], [[10, 530], [], [], [122, 213], [], [], [], [], [], [19, 531], [], [], [125, 413], [], [], []], [[23, 532], [], [], [125, 413], [], [], [358, 1169, 767, 768, 112], [], [], [], [19, 531], [], [], [125, 413], [], []], [[361, 390], [], [], []]]
def g_m144 : MethodName × ByteArray × Nat × Option FieldType := (⟨"RideLaws", "sentence", "()I"⟩, prog_1_method_35_code, 2, some .int)
def g_c145 : List (List (Option (Nat × Int × Nat × Nat))) := [[some (2, 2, 0, 0), some (30, 15, 63, 1), none, none, some (2, 2, 1, 0), some (0, 200, 2, 3), none, none, some (30, 11, 28, 2), none, none, some (2, 2, 0, 0), some (2, 2, 1, 0), some (2, 2, 2, 0), some (0, 1, 0, 1), some (30, 15, 146, 4)], [none, none, some (9, 0, 1, 23), none, none, some (0, 0, 0, 1), some (40, 0, 0, 1), some (2, 2, 1, 0), some (13, 0, 1, 5), none, none, some (9, 0, 0, 36), none, none, some (2, 2, 1, 0), some (0, 1, 0, 1)], [some (30, 11, 37, 2), none, none, some (40, 0, 0, 1), some (2, 2, 0, 0), some (0, 1, 0, 1), some (14, 3, 5, 5), none, none, some (0, 1, 0, 1), some (40, 0, 0, 1)]]
def g_k145 : List (List (List Nat)) := [[[], [38, 1137, 747, 748, 112], [], [], [], [], [], [], [41, 1138, 605, 606, 103], [], [], [], [], [], [], [47, 1139, 1141, 30, 112]], [[], [], [], [], [], [], [], [], [51, 203], [], [], [], [], [], [], []], [[54, 1151, 637, 638, 103], [], [], [], [], [], [28, 391], [], [], [], []]]
def g_m145 : MethodName × ByteArray × Nat × Option FieldType := (⟨"RideLaws$Sentence", "readAll", "(LRideLaws$Reader;LRideLaws$Plan;)Z"⟩, prog_11_method_4_code, 3, some .boolean)
def g_c146 : List (List (Option (Nat × Int × Nat × Nat))) := [[some (2, 2, 0, 0), some (2, 2, 1, 0), some (2, 2, 2, 0), some (2, 0, 3, 0), some (30, 15, 147, 4), none, none, some (9, 0, 1, 12), none, none, some (0, 0, 0, 1), some (40, 0, 0, 1), some (0, 0, 0, 1), some (3, 0, 4, 1), none, some (0, 0, 0, 1)], [some (3, 0, 5, 1), none, some (2, 0, 5, 1), none, some (0, 20, 1, 2), none, some (10, 0, 3, 123), none, none, some (2, 2, 1, 0), some (0, 13, 1, 2), none, some (30, 11, 135, 2), none, none, some (9, 0, 1, 43)], [none, none, some (2, 2, 1, 0), some (0, 12, 1, 2), none, some (30, 11, 135, 2), none, none, some (9, 0, 0, 123), none, none, some (2, 2, 1, 0), some (0, 13, 1, 2), none, some (30, 11, 135, 2), none], [none, some (3, 0, 6, 1), none, some (2, 0, 6, 1), none, some (9, 0, 1, 70), none, none, some (2, 0, 4, 1), none, some (9, 0, 0, 70), none, none, some (2, 2, 0, 0), some (0, 12, 1, 2), none], [some (0, 0, 0, 1), some (0, 0, 0, 1), some (30, 15, 149, 4), none, none, some (8, 0, 1, 0), some (2, 0, 4, 1), none, some (9, 0, 1, 80), none, none, some (2, 0, 6, 1), none, some (9, 0, 1, 84), none, none], [some (0, 1, 0, 1), some (11, 0, 0, 85), none, none, some (0, 0, 0, 1), some (3, 0, 4, 1), none, some (2, 2, 1, 0), some (30, 11, 29, 1), none, none, some (2, 2, 0, 0), some (2, 2, 1, 0), some (2, 2, 2, 0), some (2, 0, 3, 0), some (30, 15, 147, 4)], [none, none, some (9, 0, 1, 103), none, none, some (0, 0, 0, 1), some (40, 0, 0, 1), some (2, 0, 6, 1), none, some (9, 0, 0, 117), none, none, some (2, 2, 0, 0), some (0, 13, 1, 2), none, some (0, 0, 0, 1)], [some (0, 0, 0, 1), some (30, 15, 149, 4), none, none, some (8, 0, 1, 0), some (4, 1, 5, 0), none, none, some (11, 0, 0, 18), none, none, some (2, 0, 4, 1), none, some (9, 0, 0, 139), none, none], [some (2, 2, 0, 0), some (0, 12, 1, 2), none, some (0, 0, 0, 1), some (0, 0, 0, 1), some (30, 15, 149, 4), none, none, some (9, 0, 0, 143), none, none, some (0, 1, 0, 1), some (11, 0, 0, 144), none, none, some (0, 0, 0, 1)], [some (40, 0, 0, 1)]]
def g_k146 : List (List (List Nat)) := [[[], [], [], [], [58, 1143, 1145, 31, 112], [], [], [], [], [], [], [], [], [], [], []], [[], [], [], [], [], [], [], [], [], [], [], [], [61, 1168, 1079, 1080, 103], [], [], []], [[], [], [], [], [], [61, 1168, 1079, 1080, 103], [], [], [], [], [], [], [], [], [61, 1168, 1079, 1080, 103], []], [[], [], [], [], [], [], [], [], [], [], [], [], [], [], [], []], [[], [], [64, 1154, 1156, 32, 112], [], [], [], [], [], [], [], [], [], [], [], [], []], [[], [], [], [], [], [], [], [], [68, 1152, 609, 610, 103], [], [], [], [], [], [], [58, 1143, 1145, 31, 112]], [[], [], [], [], [], [], [], [], [], [], [], [], [], [], [], []], [[], [64, 1154, 1156, 32, 112], [], [], [], [], [], [], [], [], [], [], [], [], [], []], [[], [], [], [], [], [64, 1154, 1156, 32, 112], [], [], [], [], [], [], [], [], [], []], [[]]]
def g_m146 : MethodName × ByteArray × Nat × Option FieldType := (⟨"RideLaws$Sentence", "readCond", "(LRideLaws$Reader;LRideLaws$Plan;I)Z"⟩, prog_11_method_5_code, 7, some .boolean)
def g_c147 : List (List (Option (Nat × Int × Nat × Nat))) := [[some (2, 2, 1, 0), some (0, 40, 1, 2), none, some (30, 11, 61, 2), none, none, some (3, 0, 4, 1), none, some (2, 0, 4, 1), none, some (9, 0, 1, 26), none, none, some (2, 2, 1, 0), some (30, (-1), 148, 1), none], [none, some (9, 0, 1, 26), none, none, some (2, 2, 1, 0), some (0, 1, 0, 1), some (30, 11, 37, 2), none, none, some (40, 0, 0, 1), some (2, 2, 0, 0), some (13, 0, 5, 4), none, none, some (0, 20, 1, 2), none], [some (10, 0, 3, 41), none, none, some (2, 0, 3, 0), some (0, 8, 1, 2), none, some (10, 0, 5, 47), none, none, some (2, 2, 1, 0), some (0, 4, 0, 1), some (30, 11, 37, 2), none, none, some (40, 0, 0, 1), some (2, 2, 0, 0)], [some (8, 0, 0, 0), some (13, 0, 5, 4), none, none, some (0, 1, 0, 1), some (5, 0, 0, 0), some (14, 0, 5, 4), none, none, some (2, 2, 1, 0), some (13, 0, 1, 7), none, none, some (3, 0, 5, 1), none, some (2, 2, 1, 0)], [some (30, 11, 29, 1), none, none, some (2, 0, 4, 1), none, some (9, 0, 0, 99), none, none, some (2, 2, 0, 0), some (2, 2, 1, 0), some (2, 2, 2, 0), some (2, 0, 3, 0), some (0, 1, 0, 1), some (5, 0, 0, 0), some (30, 15, 146, 4), none], [none, some (9, 0, 0, 97), none, none, some (2, 2, 1, 0), some (0, 41, 1, 2), none, some (30, 11, 60, 2), none, none, some (9, 0, 0, 97), none, none, some (0, 1, 0, 1), some (11, 0, 0, 98), none], [none, some (0, 0, 0, 1), some (40, 0, 0, 1), some (2, 0, 5, 1), none, some (20, 14, 209, 5), none, none, none, none, none, none, none, none, none, none], [none, none, none, none, none, none, none, none, none, none, none, none, none, none, none, none], [none, none, none, none, none, none, none, none, none, none, none, none, none, none, none, none], [none, none, none, none, none, none, none, none, some (2, 2, 0, 0), some (2, 2, 1, 0), some (2, 2, 2, 0), some (2, 0, 3, 0), some (0, 1, 0, 1), some (5, 0, 0, 0), some (30, 15, 147, 4), none], [none, some (9, 0, 0, 179), none, none, some (2, 2, 0, 0), some (2, 0, 5, 1), none, some (0, 0, 0, 1), some (0, 0, 0, 1), some (30, 15, 149, 4), none, none, some (9, 0, 0, 179), none, none, some (0, 1, 0, 1)], [some (11, 0, 0, 180), none, none, some (0, 0, 0, 1), some (40, 0, 0, 1), some (2, 2, 0, 0), some (2, 2, 1, 0), some (2, 2, 2, 0), some (2, 0, 5, 1), none, some (0, 1, 0, 1), some (30, 15, 150, 5), none, none, some (40, 0, 0, 1), some (2, 2, 0, 0)], [some (2, 2, 1, 0), some (2, 2, 2, 0), some (2, 0, 5, 1), none, some (0, 2, 0, 1), some (30, 15, 150, 5), none, none, some (40, 0, 0, 1), some (2, 2, 0, 0), some (2, 2, 1, 0), some (2, 0, 5, 1), none, some (30, 15, 151, 3), none, none], [some (40, 0, 0, 1), some (2, 2, 0, 0), some (2, 0, 5, 1), none, some (0, 0, 0, 1), some (0, 0, 0, 1), some (30, 15, 149, 4), none, none, some (40, 0, 0, 1)]]
def g_k147 : List (List (List Nat)) := [[[], [], [], [71, 1147, 739, 740, 103], [], [], [], [], [], [], [], [], [], [], [74, 1148, 1149, 112], []], [[], [], [], [], [], [], [54, 1151, 637, 638, 103], [], [], [], [], [25, 389], [], [], [], []], [[], [], [], [], [], [], [], [], [], [], [], [54, 1151, 637, 638, 103], [], [], [], []], [[], [25, 389], [], [], [], [], [25, 389], [], [], [], [78, 207], [], [], [], [], []], [[68, 1152, 609, 610, 103], [], [], [], [], [], [], [], [], [], [], [], [], [], [47, 1139, 1141, 30, 112], []], [[], [], [], [], [], [], [], [81, 1153, 735, 736, 103], [], [], [], [], [], [], [], []], [[], [], [], [], [], [], [], [], [], [], [], [], [], [], [], []], [[], [], [], [], [], [], [], [], [], [], [], [], [], [], [], []], [[], [], [], [], [], [], [], [], [], [], [], [], [], [], [], []], [[], [], [], [], [], [], [], [], [], [], [], [], [], [], [58, 1143, 1145, 31, 112], []], [[], [], [], [], [], [], [], [], [], [64, 1154, 1156, 32, 112], [], [], [], [], [], []], [[], [], [], [], [], [], [], [], [], [], [], [84, 1158, 1160, 33, 112], [], [], [], []], [[], [], [], [], [], [84, 1158, 1160, 33, 112], [], [], [], [], [], [], [], [88, 1163, 1165, 34, 112], [], []], [[], [], [], [], [], [], [64, 1154, 1156, 32, 112], [], [], []]]
def g_m147 : MethodName × ByteArray × Nat × Option FieldType := (⟨"RideLaws$Sentence", "readOne", "(LRideLaws$Reader;LRideLaws$Plan;I)Z"⟩, prog_11_method_6_code, 6, some .boolean)
def g_c148 : List (List (Option (Nat × Int × Nat × Nat))) := [[some (2, 2, 0, 0), some (13, 0, 1, 5), none, none, some (0, 3, 0, 1), some (10, 0, 1, 30), none, none, some (2, 2, 0, 0), some (13, 0, 1, 7), none, none, some (0, 14, 1, 2), none, some (10, 0, 2, 30), none], [none, some (2, 2, 0, 0), some (13, 0, 1, 7), none, none, some (0, 22, 1, 2), none, some (10, 0, 4, 30), none, none, some (0, 1, 0, 1), some (11, 0, 0, 31), none, none, some (0, 0, 0, 1), some (40, 0, 0, 1)]]
def g_k148 : List (List (List Nat)) := [[[], [51, 203], [], [], [], [], [], [], [], [78, 207], [], [], [], [], [], []], [[], [], [78, 207], [], [], [], [], [], [], [], [], [], [], [], [], []]]
def g_m148 : MethodName × ByteArray × Nat × Option FieldType := (⟨"RideLaws$Sentence", "beginsOne", "(LRideLaws$Reader;)Z"⟩, prog_11_method_7_code, 1, some .boolean)
def g_c149 : List (List (Option (Nat × Int × Nat × Nat))) := [[some (2, 2, 0, 0), some (13, 0, 5, 3), none, none, some (0, 40, 1, 2), none, some (10, 0, 3, 49), none, none, some (2, 2, 0, 0), some (13, 2, 5, 0), none, none, some (2, 2, 0, 0), some (13, 0, 5, 3), none], [none, some (2, 0, 1, 0), some (16, 0, 0, 4), some (2, 2, 0, 0), some (13, 2, 5, 1), none, none, some (2, 2, 0, 0), some (13, 0, 5, 3), none, none, some (2, 0, 2, 0), some (16, 0, 0, 4), some (2, 2, 0, 0), some (13, 2, 5, 2), none], [none, some (2, 2, 0, 0), some (13, 0, 5, 3), none, none, some (2, 0, 3, 0), some (16, 0, 0, 4), some (2, 2, 0, 0), some (8, 0, 0, 0), some (13, 0, 5, 3), none, none, some (0, 1, 0, 1), some (5, 0, 0, 0), some (14, 0, 5, 3), none], [none, some (0, 1, 0, 1), some (40, 0, 0, 1)]]
def g_k149 : List (List (List Nat)) := [[[], [21, 388], [], [], [], [], [], [], [], [], [11, 385], [], [], [], [21, 388], []], [[], [], [], [], [15, 386], [], [], [], [21, 388], [], [], [], [], [], [18, 387], []], [[], [], [21, 388], [], [], [], [], [], [], [21, 388], [], [], [], [], [21, 388], []], [[], [], []]]
def g_m149 : MethodName × ByteArray × Nat × Option FieldType := (⟨"RideLaws$Sentence", "add", "(III)Z"⟩, prog_11_method_10_code, 4, some .boolean)
def g_c150 : List (List (Option (Nat × Int × Nat × Nat))) := [[some (2, 2, 1, 0), some (2, 2, 2, 0), some (2, 0, 4, 1), none, some (30, 11, 47, 3), none, none, some (3, 0, 5, 1), none, some (2, 0, 5, 1), none, some (0, (-1), 0, 1), some (10, 0, 1, 17), none, none, some (0, 0, 0, 1)], [some (40, 0, 0, 1), some (2, 2, 1, 0), some (30, 11, 29, 1), none, none, some (2, 2, 0, 0), some (2, 0, 3, 0), some (0, 0, 0, 1), some (2, 0, 5, 1), none, some (30, 15, 149, 4), none, none, some (40, 0, 0, 1)]]
def g_k150 : List (List (List Nat)) := [[[], [], [], [], [92, 1162, 681, 682, 103], [], [], [], [], [], [], [], [], [], [], []], [[], [], [68, 1152, 609, 610, 103], [], [], [], [], [], [], [], [64, 1154, 1156, 32, 112], [], [], []]]
def g_m150 : MethodName × ByteArray × Nat × Option FieldType := (⟨"RideLaws$Sentence", "readNamed", "(LRideLaws$Reader;LRideLaws$Plan;II)Z"⟩, prog_11_method_8_code, 6, some .boolean)
def g_c151 : List (List (Option (Nat × Int × Nat × Nat))) := [[some (2, 2, 1, 0), some (0, 60, 1, 2), none, some (30, 11, 61, 2), none, none, some (9, 0, 1, 33), none, none, some (2, 2, 1, 0), some (0, 61, 1, 2), none, some (30, 11, 61, 2), none, none, some (9, 0, 1, 33)], [none, none, some (2, 2, 1, 0), some (0, 62, 1, 2), none, some (30, 11, 61, 2), none, none, some (9, 0, 1, 33), none, none, some (2, 2, 1, 0), some (0, 1, 0, 1), some (30, 11, 37, 2), none, none], [some (40, 0, 0, 1), some (2, 2, 1, 0), some (13, 0, 1, 7), none, none, some (3, 0, 3, 0), some (2, 2, 1, 0), some (30, 11, 29, 1), none, none, some (2, 2, 1, 0), some (0, 0, 0, 1), some (0, 999, 2, 3), none, none, some (30, 11, 43, 3)], [none, none, some (3, 0, 4, 1), none, some (2, 0, 4, 1), none, some (0, (-1), 0, 1), some (10, 0, 1, 60), none, none, some (0, 0, 0, 1), some (40, 0, 0, 1), some (2, 2, 1, 0), some (30, 11, 29, 1), none, none], [some (2, 2, 0, 0), some (2, 0, 2, 0), some (2, 0, 3, 0), some (2, 0, 4, 1), none, some (30, 15, 149, 4), none, none, some (40, 0, 0, 1)]]
def g_k151 : List (List (List Nat)) := [[[], [], [], [71, 1147, 739, 740, 103], [], [], [], [], [], [], [], [], [71, 1147, 739, 740, 103], [], [], []], [[], [], [], [], [], [71, 1147, 739, 740, 103], [], [], [], [], [], [], [], [54, 1151, 637, 638, 103], [], []], [[], [], [78, 207], [], [], [], [], [68, 1152, 609, 610, 103], [], [], [], [], [], [], [], [96, 1167, 664, 665, 103]], [[], [], [], [], [], [], [], [], [], [], [], [], [], [68, 1152, 609, 610, 103], [], []], [[], [], [], [], [], [64, 1154, 1156, 32, 112], [], [], []]]
def g_m151 : MethodName × ByteArray × Nat × Option FieldType := (⟨"RideLaws$Sentence", "readCompared", "(LRideLaws$Reader;I)Z"⟩, prog_11_method_9_code, 5, some .boolean)
def g_c152 : List (List (Option (Nat × Int × Nat × Nat))) := [[some (2, 2, 0, 0), some (13, 2, 0, 1), none, none, some (13, 2, 2, 2), none, none, some (13, 3, 5, 5), none, none, some (9, 0, 0, 18), none, none, some (2, 0, 1, 0), some (0, (-1), 0, 1), some (10, 0, 3, 20)], [none, none, some (0, (-1), 0, 1), some (40, 0, 0, 0), some (0, 0, 0, 1), some (3, 0, 2, 0), some (0, 0, 0, 1), some (3, 0, 3, 0), some (2, 0, 3, 0), some (2, 2, 0, 0), some (13, 2, 0, 1), none, none, some (13, 2, 2, 0), none, none], [some (13, 2, 3, 0), none, none, some (0, 3, 0, 1), some (15, 0, 0, 0), some (10, 0, 3, 77), none, none, some (2, 2, 0, 0), some (13, 2, 0, 1), none, none, some (13, 2, 2, 2), none, none, some (2, 2, 0, 0)], [some (13, 2, 0, 1), none, none, some (13, 2, 2, 1), none, none, some (2, 0, 3, 0), some (30, 15, 153, 3), none, none, some (9, 0, 0, 71), none, none, some (2, 0, 2, 0), some (2, 0, 1, 0), some (10, 0, 1, 68)], [none, none, some (2, 0, 3, 0), some (40, 0, 0, 0), some (4, 1, 2, 0), none, none, some (4, 1, 3, 0), none, none, some (11, 0, 0, 24), none, none, some (2, 0, 1, 0), some (0, (-1), 0, 1), some (10, 0, 1, 86)], [none, none, some (2, 0, 2, 0), some (11, 0, 0, 87), none, none, some (0, (-1), 0, 1), some (40, 0, 0, 0)]]
def g_k152 : List (List (List Nat)) := [[[], [19, 531], [], [], [125, 413], [], [], [364, 392], [], [], [], [], [], [], [], []], [[], [], [], [], [], [], [], [], [], [], [19, 531], [], [], [50, 408], [], []], [[288, 258], [], [], [], [], [], [], [], [], [19, 531], [], [], [125, 413], [], [], []], [[19, 531], [], [], [63, 411], [], [], [], [368, 1174, 1175, 1176, 112], [], [], [], [], [], [], [], []], [[], [], [], [], [], [], [], [], [], [], [], [], [], [], [], []], [[], [], [], [], [], [], [], []]]
def g_m152 : MethodName × ByteArray × Nat × Option FieldType := (⟨"RideLaws", "said", "(I)I"⟩, prog_1_method_36_code, 4, some .int)
def g_c153 : List (List (Option (Nat × Int × Nat × Nat))) := [[some (0, 0, 0, 1), some (3, 0, 3, 0), some (0, 0, 0, 1), some (3, 0, 4, 1), none, some (2, 0, 4, 1), none, some (2, 2, 0, 0), some (13, 0, 5, 3), none, none, some (10, 0, 3, 116), none, none, some (2, 2, 0, 0), some (13, 2, 5, 0)], [none, none, some (2, 0, 4, 1), none, some (15, 0, 0, 0), some (20, 12, 89, 6), none, none, none, none, none, none, none, none, none, none], [none, none, none, none, none, none, none, none, none, none, none, none, none, none, none, none], [some (2, 0, 3, 0), some (0, 1, 0, 1), some (5, 0, 5, 0), some (3, 0, 3, 0), some (11, 0, 0, 110), none, none, some (2, 0, 3, 0), some (0, 2, 0, 1), some (5, 0, 7, 0), some (0, 1, 0, 1), some (5, 0, 6, 0), some (2, 0, 3, 0), some (0, 1, 0, 1), some (5, 0, 7, 0), some (2, 0, 3, 0)], [some (5, 0, 3, 0), some (0, 1, 0, 1), some (5, 0, 3, 0), some (5, 0, 4, 0), some (3, 0, 3, 0), some (11, 0, 0, 110), none, none, some (2, 0, 3, 0), some (0, 2, 0, 1), some (5, 0, 7, 0), some (0, 1, 0, 1), some (5, 0, 6, 0), some (2, 0, 3, 0), some (0, 1, 0, 1), some (5, 0, 7, 0)], [some (2, 0, 3, 0), some (5, 0, 4, 0), some (0, 1, 0, 1), some (5, 0, 3, 0), some (5, 0, 4, 0), some (3, 0, 3, 0), some (11, 0, 0, 110), none, none, some (2, 0, 3, 0), some (0, 1, 0, 1), some (5, 0, 6, 0), some (2, 2, 0, 0), some (2, 0, 4, 1), none, some (2, 2, 1, 0)], [some (2, 0, 2, 0), some (30, 15, 154, 4), none, none, some (9, 0, 0, 107), none, none, some (0, 1, 0, 1), some (11, 0, 0, 108), none, none, some (0, 0, 0, 1), some (5, 0, 4, 0), some (3, 0, 3, 0), some (4, 1, 4, 0), none], [none, some (11, 0, 0, 5), none, none, some (2, 0, 3, 0), some (0, 1, 0, 1), some (5, 0, 3, 0), some (9, 0, 0, 126), none, none, some (0, 1, 0, 1), some (11, 0, 0, 127), none, none, some (0, 0, 0, 1), some (40, 0, 0, 1)]]
def g_k153 : List (List (List Nat)) := [[[], [], [], [], [], [], [], [], [21, 388], [], [], [], [], [], [], [11, 385]], [[], [], [], [], [], [], [], [], [], [], [], [], [], [], [], []], [[], [], [], [], [], [], [], [], [], [], [], [], [], [], [], []], [[], [], [], [], [], [], [], [], [], [], [], [], [], [], [], []], [[], [], [], [], [], [], [], [], [], [], [], [], [], [], [], []], [[], [], [], [], [], [], [], [], [], [], [], [], [], [], [], []], [[], [100, 1178, 1180, 35, 112], [], [], [], [], [], [], [], [], [], [], [], [], [], []], [[], [], [], [], [], [], [], [], [], [], [], [], [], [], [], []]]
def g_m153 : MethodName × ByteArray × Nat × Option FieldType := (⟨"RideLaws$Sentence", "fits", "(LRideLaws$State;I)Z"⟩, prog_11_method_11_code, 5, some .boolean)
def g_c154 : List (List (Option (Nat × Int × Nat × Nat))) := [[some (2, 2, 0, 0), some (13, 2, 5, 0), none, none, some (2, 0, 1, 0), some (15, 0, 0, 0), some (20, 15, 181, 7), none, none, none, none, none, none, none, none, none], [none, none, none, none, none, none, none, none, none, none, none, none, none, none, none, none], [none, none, none, none, none, none, none, none, none, none, none, none, none, none, none, none], [some (2, 2, 2, 0), some (13, 2, 4, 8), none, none, some (2, 0, 3, 0), some (15, 0, 0, 0), some (0, (-1), 0, 1), some (10, 0, 0, 62), none, none, some (0, 1, 0, 1), some (11, 0, 0, 63), none, none, some (0, 0, 0, 1), some (40, 0, 0, 1)], [some (2, 2, 2, 0), some (13, 2, 4, 9), none, none, some (2, 0, 3, 0), some (15, 0, 0, 0), some (9, 0, 1, 77), none, none, some (0, 1, 0, 1), some (11, 0, 0, 78), none, none, some (0, 0, 0, 1), some (40, 0, 0, 1), some (2, 2, 2, 0)], [some (13, 0, 4, 2), none, none, some (2, 0, 3, 0), some (10, 0, 1, 91), none, none, some (0, 1, 0, 1), some (11, 0, 0, 92), none, none, some (0, 0, 0, 1), some (40, 0, 0, 1), some (2, 2, 2, 0), some (13, 2, 4, 8), none], [none, some (2, 0, 3, 0), some (15, 0, 0, 0), some (2, 2, 0, 0), some (13, 2, 5, 2), none, none, some (2, 0, 1, 0), some (15, 0, 0, 0), some (10, 0, 1, 112), none, none, some (0, 1, 0, 1), some (11, 0, 0, 113), none, none], [some (0, 0, 0, 1), some (40, 0, 0, 1), some (2, 2, 2, 0), some (2, 0, 3, 0), some (30, 14, 108, 2), none, none, some (2, 2, 0, 0), some (13, 2, 5, 2), none, none, some (2, 0, 1, 0), some (15, 0, 0, 0), some (5, 0, 7, 0), some (0, 1, 0, 1), some (5, 0, 3, 0)], [some (9, 0, 0, 135), none, none, some (0, 1, 0, 1), some (11, 0, 0, 136), none, none, some (0, 0, 0, 1), some (40, 0, 0, 1), some (2, 2, 2, 0), some (13, 2, 4, 12), none, none, some (2, 0, 3, 0), some (15, 0, 0, 0), some (2, 2, 0, 0)], [some (13, 2, 5, 1), none, none, some (2, 0, 1, 0), some (15, 0, 0, 0), some (2, 2, 0, 0), some (13, 2, 5, 2), none, none, some (2, 0, 1, 0), some (15, 0, 0, 0), some (30, (-1), 155, 3), none, none, some (40, 0, 0, 1), some (2, 2, 2, 0)], [some (13, 2, 4, 9), none, none, some (2, 0, 3, 0), some (15, 0, 0, 0), some (2, 2, 0, 0), some (13, 2, 5, 1), none, none, some (2, 0, 1, 0), some (15, 0, 0, 0), some (2, 2, 0, 0), some (13, 2, 5, 2), none, none, some (2, 0, 1, 0)], [some (15, 0, 0, 0), some (30, (-1), 155, 3), none, none, some (40, 0, 0, 1), some (2, 0, 3, 0), some (2, 2, 0, 0), some (13, 2, 5, 1), none, none, some (2, 0, 1, 0), some (15, 0, 0, 0), some (2, 2, 0, 0), some (13, 2, 5, 2), none, none], [some (2, 0, 1, 0), some (15, 0, 0, 0), some (30, (-1), 155, 3), none, none, some (40, 0, 0, 1)]]
def g_k154 : List (List (List Nat)) := [[[], [11, 385], [], [], [], [], [], [], [], [], [], [], [], [], [], []], [[], [], [], [], [], [], [], [], [], [], [], [], [], [], [], []], [[], [], [], [], [], [], [], [], [], [], [], [], [], [], [], []], [[], [104, 337], [], [], [], [], [], [], [], [], [], [], [], [], [], []], [[], [109, 341], [], [], [], [], [], [], [], [], [], [], [], [], [], []], [[112, 320], [], [], [], [], [], [], [], [], [], [], [], [], [], [104, 337], []], [[], [], [], [], [18, 387], [], [], [], [], [], [], [], [], [], [], []], [[], [], [], [], [115, 1182, 949, 950, 111], [], [], [], [18, 387], [], [], [], [], [], [], []], [[], [], [], [], [], [], [], [], [], [], [119, 347], [], [], [], [], []], [[15, 386], [], [], [], [], [], [18, 387], [], [], [], [], [122, 1183, 1184, 112], [], [], [], []], [[109, 341], [], [], [], [], [], [15, 386], [], [], [], [], [], [18, 387], [], [], []], [[], [122, 1183, 1184, 112], [], [], [], [], [], [15, 386], [], [], [], [], [], [18, 387], [], []], [[], [], [122, 1183, 1184, 112], [], [], []]]
def g_m154 : MethodName × ByteArray × Nat × Option FieldType := (⟨"RideLaws$Sentence", "isTrue", "(ILRideLaws$State;I)Z"⟩, prog_11_method_12_code, 4, some .boolean)
def g_c155 : List (List (Option (Nat × Int × Nat × Nat))) := [[some (2, 0, 1, 0), some (0, 60, 1, 2), none, some (10, 0, 1, 17), none, none, some (2, 0, 0, 0), some (2, 0, 2, 0), some (10, 0, 3, 15), none, none, some (0, 1, 0, 1), some (11, 0, 0, 16), none, none, some (0, 0, 0, 1)], [some (40, 0, 0, 1), some (2, 0, 1, 0), some (0, 61, 1, 2), none, some (10, 0, 1, 36), none, none, some (2, 0, 0, 0), some (2, 0, 2, 0), some (10, 0, 1, 32), none, none, some (0, 1, 0, 1), some (11, 0, 0, 46), none, none], [some (0, 0, 0, 1), some (11, 0, 0, 46), none, none, some (2, 0, 0, 0), some (2, 0, 2, 0), some (10, 0, 5, 45), none, none, some (0, 1, 0, 1), some (11, 0, 0, 46), none, none, some (0, 0, 0, 1), some (40, 0, 0, 1)]]
def g_k155 : List (List (List Nat)) := [[[], [], [], [], [], [], [], [], [], [], [], [], [], [], [], []], [[], [], [], [], [], [], [], [], [], [], [], [], [], [], [], []], [[], [], [], [], [], [], [], [], [], [], [], [], [], [], []]]
def g_m155 : MethodName × ByteArray × Nat × Option FieldType := (⟨"RideLaws$Sentence", "isSo", "(III)Z"⟩, prog_11_method_13_code, 3, some .boolean)
def g_c156 : List (List (Option (Nat × Int × Nat × Nat))) := [[some (2, 0, 1, 0), some (9, 0, 0, 11), none, none, some (2, 0, 1, 0), some (0, 1, 0, 1), some (10, 0, 0, 11), none, none, some (0, 0, 0, 1), some (40, 0, 0, 1), some (2, 0, 1, 0), some (9, 0, 1, 22), none, none, some (2, 2, 0, 0)], [some (13, 2, 0, 3), none, none, some (11, 0, 0, 26), none, none, some (2, 2, 0, 0), some (13, 2, 0, 4), none, none, some (3, 2, 2, 0), some (2, 2, 2, 0), some (2, 2, 0, 0), some (13, 2, 0, 1), none, none], [some (30, 12, 64, 2), none, none, some (2, 2, 2, 0), some (0, 1, 0, 1), some (14, 3, 2, 3), none, none, some (0, 1, 0, 1), some (40, 0, 0, 1)]]
def g_k156 : List (List (List Nat)) := [[[], [], [], [], [], [], [], [], [], [], [], [], [], [], [], []], [[26, 533], [], [], [], [], [], [], [29, 534], [], [], [], [], [], [19, 531], [], []], [[134, 750, 751, 752, 108], [], [], [], [], [372, 415], [], [], [], []]]
def g_m156 : MethodName × ByteArray × Nat × Option FieldType := (⟨"RideLaws", "image", "(I)Z"⟩, prog_1_method_37_code, 3, some .boolean)
def g_c157 : List (List (Option (Nat × Int × Nat × Nat))) := [[some (2, 0, 1, 0), some (9, 0, 0, 11), none, none, some (2, 0, 1, 0), some (0, 1, 0, 1), some (10, 0, 0, 11), none, none, some (0, 0, 0, 1), some (40, 0, 0, 1), some (2, 0, 1, 0), some (9, 0, 1, 22), none, none, some (2, 2, 0, 0)], [some (13, 2, 0, 3), none, none, some (11, 0, 0, 26), none, none, some (2, 2, 0, 0), some (13, 2, 0, 4), none, none, some (3, 2, 2, 0), some (2, 2, 2, 0), some (13, 3, 2, 3), none, none, some (9, 0, 1, 36)], [none, none, some (0, 0, 0, 1), some (40, 0, 0, 1), some (2, 2, 0, 0), some (13, 2, 0, 1), none, none, some (2, 2, 2, 0), some (30, 12, 64, 2), none, none, some (2, 2, 0, 0), some (13, 2, 0, 5), none, none], [some (0, 0, 0, 1), some (14, 0, 6, 1), none, none, some (0, 1, 0, 1), some (40, 0, 0, 1)]]
def g_k157 : List (List (List Nat)) := [[[], [], [], [], [], [], [], [], [], [], [], [], [], [], [], []], [[26, 533], [], [], [], [], [], [], [29, 534], [], [], [], [], [372, 415], [], [], []], [[], [], [], [], [], [19, 531], [], [], [], [134, 750, 751, 752, 108], [], [], [], [35, 535], [], []], [[], [138, 436], [], [], [], []]]
def g_m157 : MethodName × ByteArray × Nat × Option FieldType := (⟨"RideLaws", "restore", "(I)Z"⟩, prog_1_method_38_code, 3, some .boolean)
def g_c158 : List (List (Option (Nat × Int × Nat × Nat))) := [[some (2, 0, 1, 0), some (0, 5, 0, 1), some (10, 0, 1, 13), none, none, some (2, 2, 0, 0), some (13, 2, 0, 0), none, none, some (13, 0, 1, 2), none, none, some (40, 0, 0, 0), some (2, 0, 1, 0), some (9, 0, 2, 37), none], [none, some (2, 0, 1, 0), some (0, 5, 0, 1), some (10, 0, 3, 37), none, none, some (2, 2, 0, 0), some (13, 2, 0, 1), none, none, some (13, 2, 2, 0), none, none, some (13, 2, 3, 0), none, none], [some (2, 0, 1, 0), some (15, 0, 0, 0), some (11, 0, 0, 38), none, none, some (0, (-1), 0, 1), some (40, 0, 0, 0)]]
def g_k158 : List (List (List Nat)) := [[[], [], [], [], [], [], [10, 530], [], [], [108, 197], [], [], [], [], [], []], [[], [], [], [], [], [], [], [19, 531], [], [], [50, 408], [], [], [288, 258], [], []], [[], [], [], [], [], [], []]]
def g_m158 : MethodName × ByteArray × Nat × Option FieldType := (⟨"RideLaws", "count", "(I)I"⟩, prog_1_method_39_code, 2, some .int)
def g_c159 : List (List (Option (Nat × Int × Nat × Nat))) := [[some (2, 2, 3, 0), some (0, 0, 0, 1), some (2, 2, 0, 0), some (2, 0, 1, 0), some (2, 0, 2, 0), some (31, 15, 160, 3), none, none, some (7, 0, 0, 0), some (16, 0, 2, 4), some (11, 0, 0, 17), none, none, some (3, 2, 4, 1), none, some (0, 1, 0, 1)], [some (40, 0, 0, 0), some (0, 0, 0, 1), some (40, 0, 0, 0)]]
def g_k159 : List (List (List Nat)) := [[[], [], [], [], [], [7, 1202, 1203, 1204, 102, 0, 4, 13, 13], [], [], [], [], [], [], [], [], [], []], [[], [], []]]
def g_m159 : MethodName × ByteArray × Nat × Option FieldType := (⟨"RideLawsLaw", "rider", "(LRideLaws;II[J)I"⟩, method_3_code, 5, some .int)
def g_c160 : List (List (Option (Nat × Int × Nat × Nat))) := [[some (2, 2, 0, 0), some (0, 3, 0, 1), some (2, 0, 1, 0), some (30, 10, 70, 3), none, none, some (9, 0, 0, 18), none, none, some (2, 0, 2, 0), some (9, 0, 2, 18), none, none, some (2, 0, 2, 0), some (0, 4, 0, 1), some (10, 0, 5, 28)], [none, none, some (41, 0, 5, 0), none, none, none, none, none, none, none, none, none, some (2, 0, 2, 0), some (20, 0, 111, 8), none, none], [none, none, none, none, none, none, none, none, none, none, none, none, none, none, none, none], [none, none, none, none, none, none, none, none, none, none, none, none, some (2, 2, 0, 0), some (13, 2, 0, 1), none, none], [some (13, 2, 2, 1), none, none, some (13, 2, 4, 8), none, none, some (2, 0, 1, 0), some (15, 0, 0, 0), some (40, 0, 0, 0), some (2, 2, 0, 0), some (13, 2, 0, 1), none, none, some (13, 2, 2, 1), none, none], [some (13, 2, 4, 9), none, none, some (2, 0, 1, 0), some (15, 0, 0, 0), some (40, 0, 0, 0), some (2, 2, 0, 0), some (13, 2, 0, 1), none, none, some (13, 2, 2, 1), none, none, some (2, 0, 1, 0), some (30, 14, 124, 2), none], [none, some (40, 0, 0, 0), some (2, 2, 0, 0), some (13, 2, 0, 1), none, none, some (13, 2, 2, 1), none, none, some (13, 2, 4, 12), none, none, some (2, 0, 1, 0), some (15, 0, 0, 0), some (40, 0, 0, 0), some (2, 2, 0, 0)], [some (13, 2, 0, 1), none, none, some (13, 2, 2, 1), none, none, some (2, 0, 1, 0), some (30, 14, 108, 2), none, none, some (40, 0, 0, 0)]]
def g_k160 : List (List (List Nat)) := [[[], [], [], [139, 779, 781, 13, 102], [], [], [], [], [], [], [], [], [], [], [], []], [[], [], [143, 145, 147], [], [], [], [], [], [], [], [], [], [], [], [], []], [[], [], [], [], [], [], [], [], [], [], [], [], [], [], [], []], [[], [], [], [], [], [], [], [], [], [], [], [], [], [19, 531], [], []], [[63, 411], [], [], [150, 335], [], [], [], [], [], [], [19, 531], [], [], [63, 411], [], []], [[155, 339], [], [], [], [], [], [], [19, 531], [], [], [63, 411], [], [], [], [158, 1020, 1021, 1022, 111], []], [[], [], [], [19, 531], [], [], [63, 411], [], [], [162, 345], [], [], [], [], [], []], [[19, 531], [], [], [63, 411], [], [], [], [165, 1271, 949, 950, 111], [], [], []]]
def g_m160 : MethodName × ByteArray × Nat × Option FieldType := (⟨"RideLaws", "rider", "(II)I"⟩, prog_1_method_6_code, 3, some .int)
def g_c161 : List (List (Option (Nat × Int × Nat × Nat))) := [[some (2, 2, 4, 1), none, some (0, 0, 0, 1), some (2, 2, 0, 0), some (2, 0, 1, 0), some (2, 0, 2, 0), some (2, 0, 3, 0), some (31, 17, 162, 4), none, none, some (7, 0, 0, 0), some (16, 0, 2, 4), some (11, 0, 0, 19), none, none, some (3, 2, 5, 1)], [none, some (0, 1, 0, 1), some (40, 0, 0, 0), some (0, 0, 0, 1), some (40, 0, 0, 0)]]
def g_k161 : List (List (List Nat)) := [[[], [], [], [], [], [], [], [15, 1275, 1276, 1277, 102, 0, 5, 13, 15], [], [], [], [], [], [], [], []], [[], [], [], [], []]]
def g_m161 : MethodName × ByteArray × Nat × Option FieldType := (⟨"RideLawsLaw", "power", "(LRideLaws;III[J)I"⟩, method_4_code, 6, some .int)
def g_c162 : List (List (Option (Nat × Int × Nat × Nat))) := [[some (2, 2, 0, 0), some (0, 3, 0, 1), some (2, 0, 1, 0), some (30, 10, 70, 3), none, none, some (9, 0, 0, 27), none, none, some (2, 2, 0, 0), some (0, 4, 0, 1), some (2, 0, 2, 0), some (30, 10, 70, 3), none, none, some (9, 0, 0, 27)], [none, none, some (2, 0, 3, 0), some (9, 0, 2, 27), none, none, some (2, 0, 3, 0), some (0, 1, 0, 1), some (10, 0, 5, 38), none, none, some (41, 0, 6, 1), none, none, none, none], [none, none, none, none, none, none, some (2, 2, 0, 0), some (13, 2, 0, 8), none, none, some (2, 0, 1, 0), some (2, 0, 2, 0), some (30, 19, 163, 3), none, none, some (0, 1, 0, 1)], [some (2, 2, 0, 0), some (13, 2, 0, 1), none, none, some (13, 2, 2, 0), none, none, some (13, 2, 3, 0), none, none, some (0, 3, 0, 1), some (15, 0, 0, 0), some (0, 1, 0, 1), some (5, 0, 1, 0), some (5, 0, 6, 0), some (2, 0, 3, 0)], [some (30, (-1), 165, 3), none, none, some (40, 0, 0, 0)]]
def g_k162 : List (List (List Nat)) := [[[], [], [], [139, 779, 781, 13, 102], [], [], [], [], [], [], [], [], [139, 779, 781, 13, 102], [], [], []], [[], [], [], [], [], [], [], [], [], [], [], [143, 283, 147], [], [], [], []], [[], [], [], [], [], [], [], [70, 538], [], [], [], [], [285, 1280, 1281, 1282, 116], [], [], []], [[], [19, 531], [], [], [50, 408], [], [], [288, 258], [], [], [], [], [], [], [], []], [[291, 1288, 1289, 102], [], [], []]]
def g_m162 : MethodName × ByteArray × Nat × Option FieldType := (⟨"RideLaws", "power", "(III)I"⟩, prog_1_method_23_code, 4, some .int)
def g_c163 : List (List (Option (Nat × Int × Nat × Nat))) := [[some (2, 2, 0, 0), some (2, 0, 2, 0), some (30, 19, 109, 2), none, none, some (3, 0, 3, 0), some (2, 2, 0, 0), some (13, 2, 9, 1), none, none, some (2, 0, 1, 0), some (30, 14, 108, 2), none, none, some (3, 0, 4, 1), none], [some (0, 0, 0, 1), some (3, 0, 5, 1), none, some (0, 0, 0, 1), some (3, 0, 6, 1), none, some (2, 0, 6, 1), none, some (0, 1, 0, 1), some (2, 2, 0, 0), some (13, 2, 9, 0), none, none, some (13, 2, 3, 0), none, none], [some (0, 3, 0, 1), some (15, 0, 0, 0), some (5, 0, 6, 0), some (10, 0, 3, 83), none, none, some (2, 0, 6, 1), none, some (2, 0, 1, 0), some (5, 0, 7, 0), some (0, 1, 0, 1), some (5, 0, 3, 0), some (9, 0, 1, 77), none, none, some (2, 2, 0, 0)], [some (2, 0, 6, 1), none, some (30, 19, 164, 2), none, none, some (3, 0, 7, 1), none, some (2, 0, 7, 1), none, some (2, 0, 3, 0), some (5, 0, 3, 0), some (2, 0, 3, 0), some (10, 0, 0, 77), none, none, some (2, 0, 7, 1)], [none, some (2, 0, 4, 1), none, some (5, 0, 4, 0), some (2, 0, 3, 0), some (5, 0, 3, 0), some (2, 0, 3, 0), some (10, 0, 1, 77), none, none, some (4, 1, 5, 0), none, none, some (4, 1, 6, 0), none, none], [some (11, 0, 0, 22), none, none, some (2, 0, 5, 1), none, some (40, 0, 0, 0)]]
def g_k163 : List (List (List Nat)) := [[[], [], [88, 952, 954, 19, 116], [], [], [], [], [15, 494], [], [], [], [85, 948, 949, 950, 111], [], [], [], []], [[], [], [], [], [], [], [], [], [], [], [9, 493], [], [], [52, 255], [], []], [[], [], [], [], [], [], [], [], [], [], [], [], [], [], [], []], [[], [], [91, 1284, 1286, 37, 116], [], [], [], [], [], [], [], [], [], [], [], [], []], [[], [], [], [], [], [], [], [], [], [], [], [], [], [], [], []], [[], [], [], [], [], []]]
def g_m163 : MethodName × ByteArray × Nat × Option FieldType := (⟨"RideLaws$Outlook", "setsTurned", "(II)I"⟩, prog_6_method_12_code, 8, some .int)
def g_c164 : List (List (Option (Nat × Int × Nat × Nat))) := [[some (0, 0, 0, 1), some (3, 0, 2, 0), some (0, 0, 0, 1), some (3, 0, 3, 0), some (2, 0, 3, 0), some (2, 2, 0, 0), some (13, 2, 9, 0), none, none, some (13, 2, 3, 0), none, none, some (0, 3, 0, 1), some (15, 0, 0, 0), some (10, 0, 3, 42), none], [none, some (2, 0, 1, 0), some (2, 0, 3, 0), some (5, 0, 7, 0), some (0, 1, 0, 1), some (5, 0, 3, 0), some (9, 0, 0, 36), none, none, some (2, 0, 2, 0), some (2, 2, 0, 0), some (13, 2, 9, 1), none, none, some (2, 0, 3, 0), some (30, 14, 108, 2)], [none, none, some (5, 0, 4, 0), some (3, 0, 2, 0), some (4, 1, 3, 0), none, none, some (11, 0, 0, 4), none, none, some (2, 0, 2, 0), some (40, 0, 0, 0)]]
def g_k164 : List (List (List Nat)) := [[[], [], [], [], [], [], [9, 493], [], [], [52, 255], [], [], [], [], [], []], [[], [], [], [], [], [], [], [], [], [], [], [15, 494], [], [], [], [85, 948, 949, 950, 111]], [[], [], [], [], [], [], [], [], [], [], [], []]]
def g_m164 : MethodName × ByteArray × Nat × Option FieldType := (⟨"RideLaws$Outlook", "knownTo", "(I)I"⟩, prog_6_method_13_code, 4, some .int)
def g_c165 : List (List (Option (Nat × Int × Nat × Nat))) := [[some (2, 0, 1, 0), some (3, 0, 3, 0), some (2, 0, 0, 0), some (3, 0, 4, 1), none, some (0, 0, 0, 1), some (3, 0, 5, 1), none, some (2, 0, 5, 1), none, some (0, 64, 1, 2), none, some (10, 0, 3, 39), none, none, some (2, 0, 4, 1)], [none, some (9, 0, 0, 39), none, none, some (2, 0, 3, 0), some (2, 0, 4, 1), none, some (5, 0, 10, 0), some (3, 0, 6, 1), none, some (2, 0, 4, 1), none, some (3, 0, 3, 0), some (2, 0, 6, 1), none, some (3, 0, 4, 1)], [none, some (4, 1, 5, 0), none, none, some (11, 0, 0, 8), none, none, some (2, 0, 3, 0), some (9, 0, 1, 53), none, none, some (2, 0, 2, 0), some (9, 0, 1, 51), none, none, some (0, 0, 0, 1)], [some (11, 0, 0, 52), none, none, some (0, 1, 0, 1), some (40, 0, 0, 0), some (2, 0, 2, 0), some (9, 0, 1, 61), none, none, some (2, 0, 0, 0), some (11, 0, 0, 62), none, none, some (2, 0, 1, 0), some (2, 0, 3, 0), some (5, 0, 9, 0)], [some (40, 0, 0, 0)]]
def g_k165 : List (List (List Nat)) := [[[], [], [], [], [], [], [], [], [], [], [], [], [], [], [], []], [[], [], [], [], [], [], [], [], [], [], [], [], [], [], [], []], [[], [], [], [], [], [], [], [], [], [], [], [], [], [], [], []], [[], [], [], [], [], [], [], [], [], [], [], [], [], [], [], []], [[]]]
def g_m165 : MethodName × ByteArray × Nat × Option FieldType := (⟨"RideLaws", "inLeastTerms", "(III)I"⟩, prog_1_method_44_code, 7, some .int)
def g_c166 : List (List (Option (Nat × Int × Nat × Nat))) := [[some (2, 2, 3, 0), some (0, 0, 0, 1), some (2, 2, 0, 0), some (2, 0, 1, 0), some (2, 0, 2, 0), some (31, 15, 167, 3), none, none, some (7, 0, 0, 0), some (16, 0, 2, 4), some (11, 0, 0, 17), none, none, some (3, 2, 4, 1), none, some (0, 1, 0, 1)], [some (40, 0, 0, 0), some (0, 0, 0, 1), some (40, 0, 0, 0)]]
def g_k166 : List (List (List Nat)) := [[[], [], [], [], [], [19, 1294, 1295, 1296, 102, 0, 4, 13, 13], [], [], [], [], [], [], [], [], [], []], [[], [], []]]
def g_m166 : MethodName × ByteArray × Nat × Option FieldType := (⟨"RideLawsLaw", "part", "(LRideLaws;II[J)I"⟩, method_5_code, 5, some .int)
def g_c167 : List (List (Option (Nat × Int × Nat × Nat))) := [[some (2, 2, 0, 0), some (0, 3, 0, 1), some (2, 0, 1, 0), some (30, 10, 70, 3), none, none, some (9, 0, 0, 31), none, none, some (2, 2, 0, 0), some (13, 2, 0, 1), none, none, some (13, 2, 2, 1), none, none], [some (13, 0, 4, 4), none, none, some (9, 0, 0, 31), none, none, some (2, 0, 2, 0), some (9, 0, 2, 31), none, none, some (2, 0, 2, 0), some (0, 1, 0, 1), some (10, 0, 5, 42), none, none, some (41, 0, 7, 1)], [none, none, none, none, none, none, none, none, none, none, some (2, 2, 0, 0), some (13, 2, 0, 1), none, none, some (13, 2, 2, 1), none], [none, some (13, 2, 4, 12), none, none, some (2, 0, 1, 0), some (15, 0, 0, 0), some (2, 2, 0, 0), some (13, 2, 0, 1), none, none, some (13, 2, 2, 1), none, none, some (13, 0, 4, 4), none, none], [some (2, 0, 2, 0), some (30, (-1), 165, 3), none, none, some (40, 0, 0, 0)]]
def g_k167 : List (List (List Nat)) := [[[], [], [], [139, 779, 781, 13, 102], [], [], [], [], [], [], [19, 531], [], [], [63, 411], [], []], [[211, 324], [], [], [], [], [], [], [], [], [], [], [], [], [], [], [143, 306, 147]], [[], [], [], [], [], [], [], [], [], [], [], [19, 531], [], [], [63, 411], []], [[], [162, 345], [], [], [], [], [], [19, 531], [], [], [63, 411], [], [], [211, 324], [], []], [[], [291, 1288, 1289, 102], [], [], []]]
def g_m167 : MethodName × ByteArray × Nat × Option FieldType := (⟨"RideLaws", "part", "(II)I"⟩, prog_1_method_27_code, 3, some .int)
def g_c168 : List (List (Option (Nat × Int × Nat × Nat))) := [[some (2, 2, 0, 0), some (13, 0, 12, 0), none, none, some (40, 0, 0, 0)]]
def g_k168 : List (List (List Nat)) := [[[], [1, 1348], [], [], []]]
def g_m168 : MethodName × ByteArray × Nat × Option FieldType := (⟨"RideLawsModel", "thrown", "()I"⟩, prog_14_method_1_code, 1, some .int)
def g_c169 : List (List (Option (Nat × Int × Nat × Nat))) := [[some (2, 2, 0, 0), some (0, 0, 0, 1), some (14, 0, 12, 0), none, none, some (2, 2, 0, 0), some (13, 0, 12, 2), none, none, some (0, 20, 1, 2), none, some (5, 0, 0, 0), some (0, 940, 2, 3), none, none, some (10, 0, 5, 20)], [none, none, some (0, (-1), 0, 1), some (40, 0, 0, 0), some (2, 2, 0, 0), some (2, 0, 1, 0), some (30, 22, 170, 2), none, none, some (2, 2, 0, 0), some (2, 0, 2, 0), some (30, 22, 170, 2), none, none, some (2, 2, 0, 0), some (2, 0, 3, 0)], [some (30, 22, 170, 2), none, none, some (2, 2, 0, 0), some (2, 0, 4, 1), none, some (30, 22, 170, 2), none, none, some (2, 2, 0, 0), some (2, 0, 5, 1), none, some (30, 22, 170, 2), none, none, some (2, 2, 0, 0)], [some (13, 0, 12, 2), none, none, some (40, 0, 0, 0)]]
def g_k169 : List (List (List Nat)) := [[[], [], [1, 1348], [], [], [], [7, 1350], [], [], [], [], [], [], [], [], []], [[], [], [], [], [], [], [10, 1307, 1309, 38, 119], [], [], [], [], [10, 1307, 1309, 38, 119], [], [], [], []], [[10, 1307, 1309, 38, 119], [], [], [], [], [], [10, 1307, 1309, 38, 119], [], [], [], [], [], [10, 1307, 1309, 38, 119], [], [], []], [[7, 1350], [], [], []]]
def g_m169 : MethodName × ByteArray × Nat × Option FieldType := (⟨"RideLawsModel", "feed", "(IIIII)I"⟩, prog_14_method_3_code, 6, some .int)
def g_c170 : List (List (Option (Nat × Int × Nat × Nat))) := [[some (0, 24, 1, 2), none, some (3, 0, 2, 0), some (2, 0, 2, 0), some (9, 0, 2, 36), none, none, some (2, 2, 0, 0), some (13, 2, 12, 1), none, none, some (2, 2, 0, 0), some (13, 0, 12, 2), none, none, some (2, 0, 1, 0)], [some (2, 0, 2, 0), some (5, 0, 7, 0), some (7, 0, 2, 0), some (16, 0, 1, 4), some (2, 2, 0, 0), some (8, 0, 0, 0), some (13, 0, 12, 2), none, none, some (0, 1, 0, 1), some (5, 0, 0, 0), some (14, 0, 12, 2), none, none, some (4, (-8), 2, 0), none], [none, some (11, 0, 0, 3), none, none, some (40, 0, 2, 0)]]
def g_k170 : List (List (List Nat)) := [[[], [], [], [], [], [], [], [], [14, 1349], [], [], [], [7, 1350], [], [], []], [[], [], [], [], [], [], [7, 1350], [], [], [], [], [7, 1350], [], [], [], []], [[], [], [], [], []]]
def g_m170 : MethodName × ByteArray × Nat × Option FieldType := (⟨"RideLawsModel", "four", "(I)V"⟩, prog_14_method_4_code, 3, none)
def g_c171 : List (List (Option (Nat × Int × Nat × Nat))) := [[some (2, 2, 0, 0), some (0, 0, 0, 1), some (14, 0, 12, 0), none, none, some (2, 0, 1, 0), some (9, 0, 2, 17), none, none, some (2, 0, 1, 0), some (2, 2, 0, 0), some (13, 0, 12, 2), none, none, some (10, 0, 5, 19), none], [none, some (0, 0, 0, 1), some (40, 0, 0, 1), some (2, 2, 0, 0), some (2, 0, 1, 0), some (14, 0, 12, 2), none, none, some (0, 1, 0, 1), some (40, 0, 0, 1)]]
def g_k171 : List (List (List Nat)) := [[[], [], [1, 1348], [], [], [], [], [], [], [], [], [7, 1350], [], [], [], []], [[], [], [], [], [], [7, 1350], [], [], [], []]]
def g_m171 : MethodName × ByteArray × Nat × Option FieldType := (⟨"RideLawsModel", "end", "(I)Z"⟩, prog_14_method_5_code, 2, some .boolean)
def g_c172 : List (List (Option (Nat × Int × Nat × Nat))) := [[some (2, 2, 0, 0), some (23, 0, 0, 0), none, none, some (2, 2, 0, 0), some (0, 940, 2, 3), none, none, some (17, 0, 1, 0), none, some (14, 2, 12, 1), none, none, some (2, 2, 0, 0), some (0, 361, 2, 3), none], [none, some (17, 0, 0, 0), none, some (14, 2, 12, 6), none, none, some (2, 2, 0, 0), some (0, 99, 1, 2), none, some (17, 0, 0, 0), none, some (14, 2, 12, 7), none, none, some (2, 2, 0, 0), some (0, 135, 2, 3)], [none, none, some (17, 0, 0, 0), none, some (14, 2, 12, 8), none, none, some (2, 2, 0, 0), some (0, 66, 1, 2), none, some (17, 0, 2, 0), none, some (14, 2, 12, 9), none, none, some (2, 2, 0, 0)], [some (0, 23, 1, 2), none, some (17, 0, 2, 0), none, some (14, 2, 12, 10), none, none, some (2, 2, 0, 0), some (0, 648, 2, 3), none, none, some (17, 0, 0, 0), none, some (14, 2, 12, 20), none, none], [some (2, 2, 0, 0), some (0, 81, 1, 2), none, some (17, 0, 0, 0), none, some (14, 2, 12, 21), none, none, some (2, 2, 0, 0), some (0, 48, 1, 2), none, some (17, 0, 1, 0), none, some (14, 2, 12, 27), none, none], [some (2, 2, 0, 0), some (0, 4, 0, 1), some (17, 0, 0, 0), none, some (14, 2, 12, 31), none, none, some (2, 2, 0, 0), some (0, 45, 1, 2), none, some (17, 0, 0, 0), none, some (14, 2, 12, 33), none, none, some (2, 2, 0, 0)], [some (0, 45, 1, 2), none, some (17, 0, 3, 0), none, some (14, 2, 12, 39), none, none, some (2, 2, 0, 0), some (0, 722, 2, 3), none, none, some (17, 0, 0, 0), none, some (14, 2, 12, 40), none, none], [some (2, 2, 0, 0), some (0, 66, 1, 2), none, some (17, 0, 2, 0), none, some (14, 2, 12, 41), none, none, some (2, 2, 0, 0), some (0, 2, 0, 1), some (17, 0, 3, 0), none, some (14, 2, 12, 42), none, none, some (2, 2, 0, 0)], [some (13, 2, 12, 10), none, none, some (0, 0, 0, 1), some (1, 1919512167, 1, 3), none, none, some (16, 0, 2, 4), some (2, 2, 0, 0), some (13, 2, 12, 10), none, none, some (0, 1, 0, 1), some (1, 1936023924, 1, 3), none, none], [some (16, 0, 2, 4), some (2, 2, 0, 0), some (13, 2, 12, 10), none, none, some (0, 2, 0, 1), some (1, 2003792484, 1, 3), none, none, some (16, 0, 2, 4), some (2, 2, 0, 0), some (13, 2, 12, 10), none, none, some (0, 3, 0, 1), some (1, 491394458994, 1, 3)], [none, none, some (16, 0, 2, 4), some (2, 2, 0, 0), some (13, 2, 12, 10), none, none, some (0, 4, 0, 1), some (1, 1935767923, 1, 3), none, none, some (16, 0, 2, 4), some (2, 2, 0, 0), some (13, 2, 12, 10), none, none], [some (0, 5, 0, 1), some (1, 7102839, 1, 3), none, none, some (16, 0, 2, 4), some (2, 2, 0, 0), some (13, 2, 12, 10), none, none, some (0, 6, 1, 2), none, some (1, 427020088168, 1, 3), none, none, some (16, 0, 2, 4), some (2, 2, 0, 0)], [some (13, 2, 12, 10), none, none, some (0, 7, 1, 2), none, some (1, 120325478970483, 1, 3), none, none, some (16, 0, 2, 4), some (2, 2, 0, 0), some (13, 2, 12, 10), none, none, some (0, 8, 1, 2), none, some (1, 27422272703198323, 1, 3)], [none, none, some (16, 0, 2, 4), some (2, 2, 0, 0), some (13, 2, 12, 10), none, none, some (0, 9, 1, 2), none, some (1, 119182682386035, 1, 3), none, none, some (16, 0, 2, 4), some (2, 2, 0, 0), some (13, 2, 12, 10), none], [none, some (0, 10, 1, 2), none, some (1, 33610324346432613, 1, 3), none, none, some (16, 0, 2, 4), some (2, 2, 0, 0), some (13, 2, 12, 10), none, none, some (0, 11, 1, 2), none, some (1, 1953063787, 1, 3), none, none], [some (16, 0, 2, 4), some (2, 2, 0, 0), some (13, 2, 12, 10), none, none, some (0, 12, 1, 2), none, some (1, 28530, 1, 3), none, none, some (16, 0, 2, 4), some (2, 2, 0, 0), some (13, 2, 12, 10), none, none, some (0, 13, 1, 2)], [none, some (1, 6385252, 1, 3), none, none, some (16, 0, 2, 4), some (2, 2, 0, 0), some (13, 2, 12, 10), none, none, some (0, 14, 1, 2), none, some (1, 7237492, 1, 3), none, none, some (16, 0, 2, 4), some (2, 2, 0, 0)], [some (13, 2, 12, 10), none, none, some (0, 15, 1, 2), none, some (1, 30064, 1, 3), none, none, some (16, 0, 2, 4), some (2, 2, 0, 0), some (13, 2, 12, 10), none, none, some (0, 16, 1, 2), none, some (1, 1836414053, 1, 3)], [none, none, some (16, 0, 2, 4), some (2, 2, 0, 0), some (13, 2, 12, 10), none, none, some (0, 17, 1, 2), none, some (1, 119165820433268, 1, 3), none, none, some (16, 0, 2, 4), some (2, 2, 0, 0), some (13, 2, 12, 10), none], [none, some (0, 18, 1, 2), none, some (1, 28526, 1, 3), none, none, some (16, 0, 2, 4), some (2, 2, 0, 0), some (13, 2, 12, 10), none, none, some (0, 19, 1, 2), none, some (1, 461414299507, 1, 3), none, none], [some (16, 0, 2, 4), some (2, 2, 0, 0), some (13, 2, 12, 10), none, none, some (0, 20, 1, 2), none, some (1, 1935763812, 1, 3), none, none, some (16, 0, 2, 4), some (2, 2, 0, 0), some (13, 2, 12, 10), none, none, some (0, 21, 1, 2)], [none, some (1, 1919904876, 1, 3), none, none, some (16, 0, 2, 4), some (2, 2, 0, 0), some (13, 2, 12, 10), none, none, some (0, 22, 1, 2), none, some (1, 121450625394034, 1, 3), none, none, some (16, 0, 2, 4), some (2, 2, 0, 0)], [some (30, 22, 173, 1), none, none, some (0, 0, 0, 1), some (3, 0, 1, 0), some (2, 0, 1, 0), some (0, 99, 1, 2), none, some (10, 0, 3, 381), none, none, some (2, 2, 0, 0), some (13, 2, 12, 6), none, none, some (2, 0, 1, 0)], [some (2, 2, 0, 0), some (13, 2, 12, 7), none, none, some (2, 0, 1, 0), some (15, 0, 0, 0), some (16, 0, 0, 4), some (4, 1, 1, 0), none, none, some (11, 0, 0, 357), none, none, some (40, 0, 2, 0)]]
def g_k172 : List (List (List Nat)) := [[[], [27, 1320], [], [], [], [], [], [], [], [], [14, 1349], [], [], [], [], []], [[], [], [], [33, 1354], [], [], [], [], [], [], [], [37, 1355], [], [], [], []], [[], [], [], [], [40, 1356], [], [], [], [], [], [], [], [43, 1357], [], [], []], [[], [], [], [], [47, 1358], [], [], [], [], [], [], [], [], [50, 1368], [], []], [[], [], [], [], [], [53, 1369], [], [], [], [], [], [], [], [56, 1375], [], []], [[], [], [], [], [59, 1379], [], [], [], [], [], [], [], [62, 1381], [], [], []], [[], [], [], [], [65, 1387], [], [], [], [], [], [], [], [], [69, 1388], [], []], [[], [], [], [], [], [72, 1389], [], [], [], [], [], [], [75, 1390], [], [], []], [[47, 1358], [], [], [], [78, 1321], [], [], [], [], [47, 1358], [], [], [], [80, 1322], [], []], [[], [], [47, 1358], [], [], [], [82, 1323], [], [], [], [], [47, 1358], [], [], [], [84, 1324]], [[], [], [], [], [47, 1358], [], [], [], [86, 1325], [], [], [], [], [47, 1358], [], []], [[], [88, 1326], [], [], [], [], [47, 1358], [], [], [], [], [90, 1327], [], [], [], []], [[47, 1358], [], [], [], [], [92, 1328], [], [], [], [], [47, 1358], [], [], [], [], [94, 1329]], [[], [], [], [], [47, 1358], [], [], [], [], [96, 1330], [], [], [], [], [47, 1358], []], [[], [], [], [98, 1331], [], [], [], [], [47, 1358], [], [], [], [], [100, 1332], [], []], [[], [], [47, 1358], [], [], [], [], [102, 1333], [], [], [], [], [47, 1358], [], [], []], [[], [104, 1334], [], [], [], [], [47, 1358], [], [], [], [], [106, 1335], [], [], [], []], [[47, 1358], [], [], [], [], [108, 1336], [], [], [], [], [47, 1358], [], [], [], [], [110, 1337]], [[], [], [], [], [47, 1358], [], [], [], [], [112, 1338], [], [], [], [], [47, 1358], []], [[], [], [], [114, 1339], [], [], [], [], [47, 1358], [], [], [], [], [116, 1340], [], []], [[], [], [47, 1358], [], [], [], [], [118, 1341], [], [], [], [], [47, 1358], [], [], []], [[], [120, 1342], [], [], [], [], [47, 1358], [], [], [], [], [122, 1343], [], [], [], []], [[124, 1344, 1346, 39, 119], [], [], [], [], [], [], [], [], [], [], [], [33, 1354], [], [], []], [[], [37, 1355], [], [], [], [], [], [], [], [], [], [], [], []]]
def g_m172 : MethodName × ByteArray × Nat × Option FieldType := (⟨"RideLawsModel", "<init>", "()V"⟩, prog_14_method_10_code, 2, none)
def g_c173 : List (List (Option (Nat × Int × Nat × Nat))) := [[some (0, 0, 0, 1), some (3, 0, 1, 0), some (2, 0, 1, 0), some (0, 99, 1, 2), none, some (10, 0, 3, 21), none, none, some (2, 2, 0, 0), some (13, 2, 12, 7), none, none, some (2, 0, 1, 0), some (0, 0, 0, 1), some (16, 0, 0, 4), some (4, 1, 1, 0)], [none, none, some (11, 0, 0, 2), none, none, some (40, 0, 2, 0)]]
def g_k173 : List (List (List Nat)) := [[[], [], [], [], [], [], [], [], [], [37, 1355], [], [], [], [], [], []], [[], [], [], [], [], []]]
def g_m173 : MethodName × ByteArray × Nat × Option FieldType := (⟨"RideLawsModel", "clears", "()V"⟩, prog_14_method_11_code, 2, none)
def g_c174 : List (List (Option (Nat × Int × Nat × Nat))) := [[some (2, 2, 0, 0), some (0, 0, 0, 1), some (14, 0, 12, 0), none, none, some (2, 2, 0, 0), some (0, 900, 2, 3), none, none, some (30, 22, 175, 2), none, none, some (2, 2, 0, 0), some (0, 0, 0, 1), some (14, 0, 12, 15), none], [none, some (2, 2, 0, 0), some (0, 0, 0, 1), some (14, 0, 12, 19), none, none, some (2, 2, 0, 0), some (30, 22, 173, 1), none, none, some (2, 2, 0, 0), some (30, 22, 176, 1), none, none, some (2, 2, 0, 0), some (13, 0, 12, 11)], [none, none, some (9, 0, 0, 73), none, none, some (2, 2, 0, 0), some (30, 22, 180, 1), none, none, some (9, 0, 0, 53), none, none, some (2, 2, 0, 0), some (0, 59, 1, 2), none, some (30, 22, 199, 2)], [none, none, some (9, 0, 1, 60), none, none, some (0, (-1), 0, 1), some (2, 2, 0, 0), some (13, 0, 12, 16), none, none, some (5, 0, 1, 0), some (40, 0, 0, 0), some (2, 2, 0, 0), some (8, 0, 0, 0), some (13, 0, 12, 19), none], [none, some (0, 1, 0, 1), some (5, 0, 0, 0), some (14, 0, 12, 19), none, none, some (11, 0, 0, 30), none, none, some (0, 0, 0, 1), some (3, 0, 1, 0), some (2, 0, 1, 0), some (0, 361, 2, 3), none, none, some (10, 0, 3, 110)], [none, none, some (2, 2, 0, 0), some (13, 2, 12, 6), none, none, some (2, 0, 1, 0), some (2, 0, 1, 0), some (0, 99, 1, 2), none, some (10, 0, 3, 102), none, none, some (2, 2, 0, 0), some (13, 2, 12, 7), none], [none, some (2, 0, 1, 0), some (15, 0, 0, 0), some (11, 0, 0, 103), none, none, some (0, 0, 0, 1), some (16, 0, 0, 4), some (4, 1, 1, 0), none, none, some (11, 0, 0, 75), none, none, some (0, 0, 0, 1), some (3, 0, 1, 0)], [some (2, 0, 1, 0), some (0, 33, 1, 2), none, some (10, 0, 3, 139), none, none, some (2, 2, 0, 0), some (13, 2, 12, 9), none, none, some (2, 0, 1, 0), some (2, 2, 0, 0), some (13, 2, 12, 9), none, none, some (0, 33, 1, 2)], [none, some (2, 0, 1, 0), some (5, 0, 0, 0), some (15, 0, 2, 0), some (16, 0, 2, 4), some (4, 1, 1, 0), none, none, some (11, 0, 0, 112), none, none, some (0, 0, 0, 1), some (3, 0, 1, 0), some (2, 0, 1, 0), some (0, 8, 1, 2), none], [some (10, 0, 3, 171), none, none, some (2, 2, 0, 0), some (13, 2, 12, 6), none, none, some (0, 104, 1, 2), none, some (2, 0, 1, 0), some (5, 0, 0, 0), some (2, 2, 0, 0), some (13, 2, 12, 6), none, none, some (0, 19, 1, 2)], [none, some (2, 0, 1, 0), some (5, 0, 0, 0), some (15, 0, 0, 0), some (16, 0, 0, 4), some (4, 1, 1, 0), none, none, some (11, 0, 0, 141), none, none, some (0, 0, 0, 1), some (3, 0, 1, 0), some (2, 0, 1, 0), some (0, 48, 1, 2), none], [some (10, 0, 3, 203), none, none, some (2, 2, 0, 0), some (13, 2, 12, 6), none, none, some (0, 112, 1, 2), none, some (2, 0, 1, 0), some (5, 0, 0, 0), some (2, 2, 0, 0), some (13, 2, 12, 6), none, none, some (0, 27, 1, 2)], [none, some (2, 0, 1, 0), some (5, 0, 0, 0), some (15, 0, 0, 0), some (16, 0, 0, 4), some (4, 1, 1, 0), none, none, some (11, 0, 0, 173), none, none, some (2, 2, 0, 0), some (0, 0, 0, 1), some (14, 0, 12, 22), none, none], [some (2, 2, 0, 0), some (13, 0, 12, 19), none, none, some (40, 0, 0, 0)]]
def g_k174 : List (List (List Nat)) := [[[], [], [1, 1348], [], [], [], [], [], [], [228, 1483, 1485, 40, 119], [], [], [], [], [154, 1363], []], [[], [], [], [231, 1367], [], [], [], [124, 1344, 1346, 39, 119], [], [], [], [166, 1487, 1489, 41, 119], [], [], [], [137, 1359]], [[], [], [], [], [], [], [234, 1501, 1503, 43, 119], [], [], [], [], [], [], [], [], [237, 1575, 1577, 60, 119]], [[], [], [], [], [], [], [], [157, 1364], [], [], [], [], [], [], [231, 1367], []], [[], [], [], [231, 1367], [], [], [], [], [], [], [], [], [], [], [], []], [[], [], [], [33, 1354], [], [], [], [], [], [], [], [], [], [], [37, 1355], []], [[], [], [], [], [], [], [], [], [], [], [], [], [], [], [], []], [[], [], [], [], [], [], [], [43, 1357], [], [], [], [], [43, 1357], [], [], []], [[], [], [], [], [], [], [], [], [], [], [], [], [], [], [], []], [[], [], [], [], [33, 1354], [], [], [], [], [], [], [], [33, 1354], [], [], []], [[], [], [], [], [], [], [], [], [], [], [], [], [], [], [], []], [[], [], [], [], [33, 1354], [], [], [], [], [], [], [], [33, 1354], [], [], []], [[], [], [], [], [], [], [], [], [], [], [], [], [], [240, 1370], [], []], [[], [231, 1367], [], [], []]]
def g_m174 : MethodName × ByteArray × Nat × Option FieldType := (⟨"RideLawsModel", "ride", "()I"⟩, prog_14_method_35_code, 2, some .int)
def g_c175 : List (List (Option (Nat × Int × Nat × Nat))) := [[some (2, 2, 0, 0), some (2, 2, 0, 0), some (13, 0, 12, 2), none, none, some (14, 0, 12, 3), none, none, some (2, 2, 0, 0), some (0, 0, 0, 1), some (14, 0, 12, 2), none, none, some (2, 2, 0, 0), some (0, 0, 0, 1), some (14, 0, 12, 4)], [none, none, some (2, 2, 0, 0), some (2, 0, 1, 0), some (14, 0, 12, 5), none, none, some (40, 0, 2, 0)]]
def g_k175 : List (List (List Nat)) := [[[], [], [7, 1350], [], [], [18, 1351], [], [], [], [], [7, 1350], [], [], [], [], [21, 1352]], [[], [], [], [], [24, 1353], [], [], []]]
def g_m175 : MethodName × ByteArray × Nat × Option FieldType := (⟨"RideLawsModel", "taken", "(I)V"⟩, prog_14_method_6_code, 2, none)
def g_c176 : List (List (Option (Nat × Int × Nat × Nat))) := [[some (2, 2, 0, 0), some (30, 22, 177, 1), none, none, some (0, 32, 1, 2), none, some (10, 0, 0, 18), none, none, some (2, 2, 0, 0), some (30, 22, 177, 1), none, none, some (0, 10, 1, 2), none, some (10, 0, 1, 31)], [none, none, some (2, 2, 0, 0), some (8, 0, 0, 0), some (13, 0, 12, 4), none, none, some (0, 1, 0, 1), some (5, 0, 0, 0), some (14, 0, 12, 4), none, none, some (11, 0, 0, 0), none, none, some (2, 2, 0, 0)], [some (2, 2, 0, 0), some (13, 0, 12, 4), none, none, some (14, 0, 12, 12), none, none, some (2, 2, 0, 0), some (0, 0, 0, 1), some (14, 0, 12, 13), none, none, some (2, 2, 0, 0), some (13, 0, 12, 3), none, none], [some (2, 2, 0, 0), some (13, 0, 12, 5), none, none, some (10, 0, 5, 80), none, none, some (2, 2, 0, 0), some (13, 0, 12, 4), none, none, some (2, 2, 0, 0), some (13, 0, 12, 5), none, none, some (10, 0, 2, 80)], [none, none, some (2, 2, 0, 0), some (2, 2, 0, 0), some (13, 0, 12, 5), none, none, some (14, 0, 12, 12), none, none, some (2, 2, 0, 0), some (0, 4, 0, 1), some (14, 0, 12, 11), none, none, some (40, 0, 2, 0)], [some (2, 2, 0, 0), some (30, 22, 177, 1), none, none, some (3, 0, 1, 0), some (2, 0, 1, 0), some (9, 0, 3, 95), none, none, some (2, 2, 0, 0), some (0, 0, 0, 1), some (14, 0, 12, 11), none, none, some (40, 0, 2, 0), some (2, 0, 1, 0)], [some (30, (-1), 178, 1), none, none, some (9, 0, 1, 164), none, none, some (2, 0, 1, 0), some (30, (-1), 179, 1), none, none, some (9, 0, 1, 164), none, none, some (2, 2, 0, 0), some (2, 0, 1, 0), some (0, 59, 1, 2)], [none, some (10, 0, 0, 140), none, none, some (2, 0, 1, 0), some (0, 40, 1, 2), none, some (10, 0, 0, 140), none, none, some (2, 0, 1, 0), some (0, 41, 1, 2), none, some (10, 0, 0, 140), none, none], [some (2, 0, 1, 0), some (0, 60, 1, 2), none, some (10, 0, 2, 144), none, none, some (2, 0, 1, 0), some (0, 62, 1, 2), none, some (10, 0, 4, 144), none, none, some (0, 3, 0, 1), some (11, 0, 0, 145), none, none], [some (0, 4, 0, 1), some (14, 0, 12, 11), none, none, some (2, 2, 0, 0), some (2, 0, 1, 0), some (14, 0, 12, 14), none, none, some (2, 2, 0, 0), some (8, 0, 0, 0), some (13, 0, 12, 4), none, none, some (0, 1, 0, 1), some (5, 0, 0, 0)], [some (14, 0, 12, 4), none, none, some (40, 0, 2, 0), some (2, 0, 1, 0), some (30, (-1), 178, 1), none, none, some (3, 0, 2, 0), some (0, 1, 0, 1), some (3, 0, 3, 0), some (2, 2, 0, 0), some (1, 0, 0, 1), some (14, 1, 12, 17), none, none], [some (2, 2, 0, 0), some (0, 0, 0, 1), some (14, 0, 12, 14), none, none, some (2, 2, 0, 0), some (30, 22, 177, 1), none, none, some (30, (-1), 178, 1), none, none, some (9, 0, 1, 201), none, none, some (2, 2, 0, 0)], [some (30, 22, 177, 1), none, none, some (30, (-1), 179, 1), none, none, some (9, 0, 0, 298), none, none, some (2, 0, 3, 0), some (9, 0, 0, 220), none, none, some (2, 2, 0, 0), some (30, 22, 177, 1), none], [none, some (30, (-1), 178, 1), none, none, some (2, 0, 2, 0), some (10, 0, 1, 220), none, none, some (0, 1, 0, 1), some (11, 0, 0, 221), none, none, some (0, 0, 0, 1), some (3, 0, 3, 0), some (2, 2, 0, 0), some (13, 0, 12, 13)], [none, none, some (0, 7, 1, 2), none, some (10, 0, 3, 248), none, none, some (2, 2, 0, 0), some (2, 2, 0, 0), some (13, 1, 12, 17), none, none, some (0, 8, 1, 2), none, some (6, 0, 4, 0), some (2, 2, 0, 0)], [some (30, 22, 177, 1), none, none, some (7, 0, 0, 0), some (6, 0, 3, 0), some (14, 1, 12, 17), none, none, some (2, 2, 0, 0), some (13, 0, 12, 13), none, none, some (0, 3, 0, 1), some (10, 0, 3, 275), none, none], [some (2, 2, 0, 0), some (0, 10, 1, 2), none, some (2, 2, 0, 0), some (13, 0, 12, 14), none, none, some (5, 0, 2, 0), some (2, 2, 0, 0), some (30, 22, 177, 1), none, none, some (5, 0, 0, 0), some (0, 48, 1, 2), none, some (5, 0, 1, 0)], [some (14, 0, 12, 14), none, none, some (2, 2, 0, 0), some (8, 0, 0, 0), some (13, 0, 12, 13), none, none, some (0, 1, 0, 1), some (5, 0, 0, 0), some (14, 0, 12, 13), none, none, some (2, 2, 0, 0), some (8, 0, 0, 0), some (13, 0, 12, 4)], [none, none, some (0, 1, 0, 1), some (5, 0, 0, 0), some (14, 0, 12, 4), none, none, some (11, 0, 0, 181), none, none, some (2, 2, 0, 0), some (2, 0, 3, 0), some (9, 0, 0, 320), none, none, some (2, 2, 0, 0)], [some (13, 0, 12, 13), none, none, some (2, 0, 2, 0), some (9, 0, 0, 316), none, none, some (0, 7, 1, 2), none, some (11, 0, 0, 317), none, none, some (0, 3, 0, 1), some (10, 0, 5, 324), none, none], [some (0, 4, 0, 1), some (11, 0, 0, 333), none, none, some (2, 0, 2, 0), some (9, 0, 0, 332), none, none, some (0, 1, 0, 1), some (11, 0, 0, 333), none, none, some (0, 2, 0, 1), some (14, 0, 12, 11), none, none], [some (40, 0, 2, 0)]]
def g_k176 : List (List (List Nat)) := [[[], [127, 1491, 1493, 42, 119], [], [], [], [], [], [], [], [], [127, 1491, 1493, 42, 119], [], [], [], [], []], [[], [], [], [], [21, 1352], [], [], [], [], [21, 1352], [], [], [], [], [], []], [[], [21, 1352], [], [], [131, 1360], [], [], [], [], [134, 1361], [], [], [], [18, 1351], [], []], [[], [24, 1353], [], [], [], [], [], [], [21, 1352], [], [], [], [24, 1353], [], [], []], [[], [], [], [], [24, 1353], [], [], [131, 1360], [], [], [], [], [137, 1359], [], [], []], [[], [127, 1491, 1493, 42, 119], [], [], [], [], [], [], [], [], [], [137, 1359], [], [], [], []], [[140, 1495, 1496, 119], [], [], [], [], [], [], [144, 1498, 1499, 119], [], [], [], [], [], [], [], []], [[], [], [], [], [], [], [], [], [], [], [], [], [], [], [], []], [[], [], [], [], [], [], [], [], [], [], [], [], [], [], [], []], [[], [137, 1359], [], [], [], [], [147, 1362], [], [], [], [], [21, 1352], [], [], [], []], [[21, 1352], [], [], [], [], [140, 1495, 1496, 119], [], [], [], [], [], [], [], [150, 1365], [], []], [[], [], [147, 1362], [], [], [], [127, 1491, 1493, 42, 119], [], [], [140, 1495, 1496, 119], [], [], [], [], [], []], [[127, 1491, 1493, 42, 119], [], [], [144, 1498, 1499, 119], [], [], [], [], [], [], [], [], [], [], [127, 1491, 1493, 42, 119], []], [[], [140, 1495, 1496, 119], [], [], [], [], [], [], [], [], [], [], [], [], [], [134, 1361]], [[], [], [], [], [], [], [], [], [], [150, 1365], [], [], [], [], [], []], [[127, 1491, 1493, 42, 119], [], [], [], [], [150, 1365], [], [], [], [134, 1361], [], [], [], [], [], []], [[], [], [], [], [147, 1362], [], [], [], [], [127, 1491, 1493, 42, 119], [], [], [], [], [], []], [[147, 1362], [], [], [], [], [134, 1361], [], [], [], [], [134, 1361], [], [], [], [], [21, 1352]], [[], [], [], [], [21, 1352], [], [], [], [], [], [], [], [], [], [], []], [[134, 1361], [], [], [], [], [], [], [], [], [], [], [], [], [], [], []], [[], [], [], [], [], [], [], [], [], [], [], [], [], [137, 1359], [], []], [[]]]
def g_m176 : MethodName × ByteArray × Nat × Option FieldType := (⟨"RideLawsModel", "next", "()V"⟩, prog_14_method_15_code, 4, none)
def g_c177 : List (List (Option (Nat × Int × Nat × Nat))) := [[some (2, 2, 0, 0), some (13, 0, 12, 4), none, none, some (2, 2, 0, 0), some (13, 0, 12, 3), none, none, some (10, 0, 3, 27), none, none, some (2, 2, 0, 0), some (13, 2, 12, 1), none, none, some (2, 2, 0, 0)], [some (13, 0, 12, 4), none, none, some (15, 0, 1, 0), some (0, 255, 2, 3), none, none, some (5, 0, 3, 0), some (11, 0, 0, 28), none, none, some (0, (-1), 0, 1), some (40, 0, 0, 0)]]
def g_k177 : List (List (List Nat)) := [[[], [21, 1352], [], [], [], [18, 1351], [], [], [], [], [], [], [14, 1349], [], [], []], [[21, 1352], [], [], [], [], [], [], [], [], [], [], [], []]]
def g_m177 : MethodName × ByteArray × Nat × Option FieldType := (⟨"RideLawsModel", "peek", "()I"⟩, prog_14_method_12_code, 1, some .int)
def g_c178 : List (List (Option (Nat × Int × Nat × Nat))) := [[some (2, 0, 0, 0), some (0, 97, 1, 2), none, some (10, 0, 2, 16), none, none, some (2, 0, 0, 0), some (0, 122, 1, 2), none, some (10, 0, 4, 16), none, none, some (0, 1, 0, 1), some (11, 0, 0, 17), none, none], [some (0, 0, 0, 1), some (40, 0, 0, 1)]]
def g_k178 : List (List (List Nat)) := [[[], [], [], [], [], [], [], [], [], [], [], [], [], [], [], []], [[], []]]
def g_m178 : MethodName × ByteArray × Nat × Option FieldType := (⟨"RideLawsModel", "isSmall", "(I)Z"⟩, prog_14_method_13_code, 1, some .boolean)
def g_c179 : List (List (Option (Nat × Int × Nat × Nat))) := [[some (2, 0, 0, 0), some (0, 48, 1, 2), none, some (10, 0, 2, 16), none, none, some (2, 0, 0, 0), some (0, 57, 1, 2), none, some (10, 0, 4, 16), none, none, some (0, 1, 0, 1), some (11, 0, 0, 17), none, none], [some (0, 0, 0, 1), some (40, 0, 0, 1)]]
def g_k179 : List (List (List Nat)) := [[[], [], [], [], [], [], [], [], [], [], [], [], [], [], [], []], [[], []]]
def g_m179 : MethodName × ByteArray × Nat × Option FieldType := (⟨"RideLawsModel", "isDigit", "(I)Z"⟩, prog_14_method_14_code, 1, some .boolean)
def g_c180 : List (List (Option (Nat × Int × Nat × Nat))) := [[some (2, 2, 0, 0), some (1, 1919512167, 1, 3), none, none, some (30, 22, 181, 2), none, none, some (9, 0, 0, 15), none, none, some (2, 2, 0, 0), some (30, 22, 182, 1), none, none, some (40, 0, 0, 1), some (2, 2, 0, 0)], [some (1, 1936023924, 1, 3), none, none, some (30, 22, 181, 2), none, none, some (9, 0, 0, 30), none, none, some (2, 2, 0, 0), some (30, 22, 190, 1), none, none, some (40, 0, 0, 1), some (2, 2, 0, 0), some (1, 2003792484, 1, 3)], [none, none, some (30, 22, 181, 2), none, none, some (9, 0, 0, 45), none, none, some (2, 2, 0, 0), some (30, 22, 193, 1), none, none, some (40, 0, 0, 1), some (2, 2, 0, 0), some (1, 491394458994, 1, 3), none], [none, some (30, 22, 181, 2), none, none, some (9, 0, 0, 60), none, none, some (2, 2, 0, 0), some (30, 22, 194, 1), none, none, some (40, 0, 0, 1), some (2, 2, 0, 0), some (1, 1935767923, 1, 3), none, none], [some (30, 22, 181, 2), none, none, some (9, 0, 0, 75), none, none, some (2, 2, 0, 0), some (30, 22, 195, 1), none, none, some (40, 0, 0, 1), some (2, 2, 0, 0), some (1, 7102839, 1, 3), none, none, some (30, 22, 181, 2)], [none, none, some (9, 0, 0, 90), none, none, some (2, 2, 0, 0), some (30, 22, 196, 1), none, none, some (40, 0, 0, 1), some (2, 2, 0, 0), some (1, 427020088168, 1, 3), none, none, some (30, 22, 181, 2), none], [none, some (9, 0, 0, 107), none, none, some (2, 2, 0, 0), some (30, 22, 197, 1), none, none, some (11, 0, 0, 112), none, none, some (2, 2, 0, 0), some (0, 1, 0, 1), some (30, 22, 183, 2), none, none], [some (40, 0, 0, 1)]]
def g_k180 : List (List (List Nat)) := [[[], [78, 1321], [], [], [191, 1505, 1507, 44, 119], [], [], [], [], [], [], [195, 1509, 1511, 45, 119], [], [], [], []], [[80, 1322], [], [], [191, 1505, 1507, 44, 119], [], [], [], [], [], [], [198, 1540, 1542, 52, 119], [], [], [], [], [82, 1323]], [[], [], [191, 1505, 1507, 44, 119], [], [], [], [], [], [], [201, 1552, 1554, 55, 119], [], [], [], [], [84, 1324], []], [[], [191, 1505, 1507, 44, 119], [], [], [], [], [], [], [204, 1556, 1558, 56, 119], [], [], [], [], [86, 1325], [], []], [[191, 1505, 1507, 44, 119], [], [], [], [], [], [], [207, 1560, 1562, 57, 119], [], [], [], [], [88, 1326], [], [], [191, 1505, 1507, 44, 119]], [[], [], [], [], [], [], [210, 1564, 1566, 58, 119], [], [], [], [], [90, 1327], [], [], [191, 1505, 1507, 44, 119], []], [[], [], [], [], [], [213, 1568, 1570, 59, 119], [], [], [], [], [], [], [], [163, 1513, 1515, 46, 119], [], []], [[]]]
def g_m180 : MethodName × ByteArray × Nat × Option FieldType := (⟨"RideLawsModel", "readLine", "()Z"⟩, prog_14_method_27_code, 1, some .boolean)
def g_c181 : List (List (Option (Nat × Int × Nat × Nat))) := [[some (2, 2, 0, 0), some (13, 0, 12, 11), none, none, some (0, 1, 0, 1), some (10, 0, 1, 21), none, none, some (2, 2, 0, 0), some (13, 1, 12, 17), none, none, some (2, 1, 1, 0), some (12, 0, 0, 0), some (9, 0, 1, 21), none], [none, some (0, 1, 0, 1), some (11, 0, 0, 22), none, none, some (0, 0, 0, 1), some (40, 0, 0, 1)]]
def g_k181 : List (List (List Nat)) := [[[], [137, 1359], [], [], [], [], [], [], [], [150, 1365], [], [], [], [], [], []], [[], [], [], [], [], [], []]]
def g_m181 : MethodName × ByteArray × Nat × Option FieldType := (⟨"RideLawsModel", "isWord", "(J)Z"⟩, prog_14_method_17_code, 3, some .boolean)
def g_c182 : List (List (Option (Nat × Int × Nat × Nat))) := [[some (2, 2, 0, 0), some (13, 2, 12, 7), none, none, some (0, 0, 0, 1), some (15, 0, 0, 0), some (3, 0, 1, 0), some (2, 0, 1, 0), some (0, 3, 0, 1), some (10, 0, 1, 18), none, none, some (2, 2, 0, 0), some (0, 4, 0, 1), some (30, 22, 183, 2), none], [none, some (40, 0, 0, 1), some (2, 2, 0, 0), some (30, 22, 176, 1), none, none, some (2, 2, 0, 0), some (0, 33, 1, 2), none, some (2, 0, 1, 0), some (5, 0, 0, 0), some (30, 22, 184, 2), none, none, some (9, 0, 0, 60), none], [none, some (2, 2, 0, 0), some (0, 5, 0, 1), some (2, 0, 1, 0), some (5, 0, 0, 0), some (0, 2, 0, 1), some (0, 30, 1, 2), none, some (30, 22, 187, 4), none, none, some (9, 0, 0, 60), none, none, some (2, 2, 0, 0), some (0, 8, 1, 2)], [none, some (2, 0, 1, 0), some (5, 0, 0, 0), some (0, 1, 0, 1), some (0, 9, 1, 2), none, some (30, 22, 187, 4), none, none, some (9, 0, 1, 62), none, none, some (0, 0, 0, 1), some (40, 0, 0, 1), some (2, 2, 0, 0), some (13, 2, 12, 7)], [none, none, some (0, 0, 0, 1), some (8, 0, 2, 0), some (15, 0, 0, 0), some (0, 1, 0, 1), some (5, 0, 0, 0), some (16, 0, 0, 4), some (0, 1, 0, 1), some (40, 0, 0, 1)]]
def g_k182 : List (List (List Nat)) := [[[], [37, 1355], [], [], [], [], [], [], [], [], [], [], [], [], [163, 1513, 1515, 46, 119], []], [[], [], [], [166, 1487, 1489, 41, 119], [], [], [], [], [], [], [], [216, 1517, 1519, 47, 119], [], [], [], []], [[], [], [], [], [], [], [], [], [219, 1529, 1531, 50, 119], [], [], [], [], [], [], []], [[], [], [], [], [], [], [219, 1529, 1531, 50, 119], [], [], [], [], [], [], [], [], [37, 1355]], [[], [], [], [], [], [], [], [], [], []]]
def g_m182 : MethodName × ByteArray × Nat × Option FieldType := (⟨"RideLawsModel", "readRing", "()Z"⟩, prog_14_method_28_code, 2, some .boolean)
def g_c183 : List (List (Option (Nat × Int × Nat × Nat))) := [[some (2, 2, 0, 0), some (2, 0, 1, 0), some (14, 0, 12, 15), none, none, some (2, 2, 0, 0), some (2, 2, 0, 0), some (13, 0, 12, 12), none, none, some (14, 0, 12, 16), none, none, some (0, 0, 0, 1), some (40, 0, 0, 1)]]
def g_k183 : List (List (List Nat)) := [[[], [], [154, 1363], [], [], [], [], [131, 1360], [], [], [157, 1364], [], [], [], []]]
def g_m183 : MethodName × ByteArray × Nat × Option FieldType := (⟨"RideLawsModel", "bad", "(I)Z"⟩, prog_14_method_16_code, 2, some .boolean)
def g_c184 : List (List (Option (Nat × Int × Nat × Nat))) := [[some (2, 2, 0, 0), some (30, 22, 185, 1), none, none, some (9, 0, 1, 13), none, none, some (2, 2, 0, 0), some (0, 1, 0, 1), some (30, 22, 183, 2), none, none, some (40, 0, 0, 1), some (2, 2, 0, 0), some (0, 33, 1, 2), none], [some (2, 2, 0, 0), some (13, 2, 12, 7), none, none, some (0, 0, 0, 1), some (15, 0, 0, 0), some (30, 22, 186, 3), none, none, some (9, 0, 3, 88), none, none, some (2, 2, 0, 0), some (0, 36, 1, 2), none, some (2, 2, 0, 0)], [some (13, 2, 12, 7), none, none, some (0, 1, 0, 1), some (15, 0, 0, 0), some (30, 22, 186, 3), none, none, some (9, 0, 3, 88), none, none, some (2, 2, 0, 0), some (0, 44, 1, 2), none, some (2, 2, 0, 0), some (13, 2, 12, 7)], [none, none, some (0, 2, 0, 1), some (15, 0, 0, 0), some (30, 22, 186, 3), none, none, some (9, 0, 3, 88), none, none, some (2, 2, 0, 0), some (0, 52, 1, 2), none, some (2, 2, 0, 0), some (13, 2, 12, 7), none], [none, some (0, 3, 0, 1), some (15, 0, 0, 0), some (30, 22, 186, 3), none, none, some (9, 0, 3, 88), none, none, some (2, 2, 0, 0), some (0, 58, 1, 2), none, some (2, 2, 0, 0), some (13, 2, 12, 7), none, none], [some (0, 4, 0, 1), some (15, 0, 0, 0), some (30, 22, 186, 3), none, none, some (9, 0, 2, 94), none, none, some (2, 2, 0, 0), some (0, 3, 0, 1), some (30, 22, 183, 2), none, none, some (40, 0, 0, 1), some (2, 2, 0, 0), some (13, 2, 12, 9)], [none, none, some (2, 0, 1, 0), some (2, 2, 0, 0), some (13, 1, 12, 17), none, none, some (16, 0, 2, 4), some (2, 2, 0, 0), some (30, 22, 176, 1), none, none, some (0, 1, 0, 1), some (40, 0, 0, 1)]]
def g_k184 : List (List (List Nat)) := [[[], [180, 1521, 1523, 48, 119], [], [], [], [], [], [], [], [163, 1513, 1515, 46, 119], [], [], [], [], [], []], [[], [37, 1355], [], [], [], [], [184, 1525, 1527, 49, 119], [], [], [], [], [], [], [], [], []], [[37, 1355], [], [], [], [], [184, 1525, 1527, 49, 119], [], [], [], [], [], [], [], [], [], [37, 1355]], [[], [], [], [], [184, 1525, 1527, 49, 119], [], [], [], [], [], [], [], [], [], [37, 1355], []], [[], [], [], [184, 1525, 1527, 49, 119], [], [], [], [], [], [], [], [], [], [37, 1355], [], []], [[], [], [184, 1525, 1527, 49, 119], [], [], [], [], [], [], [], [163, 1513, 1515, 46, 119], [], [], [], [], [43, 1357]], [[], [], [], [], [150, 1365], [], [], [], [], [166, 1487, 1489, 41, 119], [], [], [], []]]
def g_m184 : MethodName × ByteArray × Nat × Option FieldType := (⟨"RideLawsModel", "fresh", "(I)Z"⟩, prog_14_method_24_code, 2, some .boolean)
def g_c185 : List (List (Option (Nat × Int × Nat × Nat))) := [[some (2, 2, 0, 0), some (13, 0, 12, 11), none, none, some (0, 1, 0, 1), some (10, 0, 1, 12), none, none, some (0, 1, 0, 1), some (11, 0, 0, 13), none, none, some (0, 0, 0, 1), some (3, 0, 1, 0), some (0, 0, 0, 1), some (3, 0, 2, 0)], [some (2, 0, 2, 0), some (0, 23, 1, 2), none, some (10, 0, 3, 52), none, none, some (2, 0, 1, 0), some (9, 0, 0, 44), none, none, some (2, 2, 0, 0), some (13, 1, 12, 17), none, none, some (2, 2, 0, 0), some (13, 2, 12, 10)], [none, none, some (2, 0, 2, 0), some (15, 0, 2, 0), some (12, 0, 0, 0), some (9, 0, 0, 44), none, none, some (0, 1, 0, 1), some (11, 0, 0, 45), none, none, some (0, 0, 0, 1), some (3, 0, 1, 0), some (4, 1, 2, 0), none], [none, some (11, 0, 0, 16), none, none, some (2, 0, 1, 0), some (40, 0, 0, 1)]]
def g_k185 : List (List (List Nat)) := [[[], [137, 1359], [], [], [], [], [], [], [], [], [], [], [], [], [], []], [[], [], [], [], [], [], [], [], [], [], [], [150, 1365], [], [], [], [47, 1358]], [[], [], [], [], [], [], [], [], [], [], [], [], [], [], [], []], [[], [], [], [], [], []]]
def g_m185 : MethodName × ByteArray × Nat × Option FieldType := (⟨"RideLawsModel", "isName", "()Z"⟩, prog_14_method_20_code, 3, some .boolean)
def g_c186 : List (List (Option (Nat × Int × Nat × Nat))) := [[some (0, 0, 0, 1), some (3, 0, 3, 0), some (2, 0, 3, 0), some (2, 0, 2, 0), some (10, 0, 3, 31), none, none, some (2, 2, 0, 0), some (13, 2, 12, 9), none, none, some (2, 0, 1, 0), some (2, 0, 3, 0), some (5, 0, 0, 0), some (15, 0, 2, 0), some (2, 2, 0, 0)], [some (13, 1, 12, 17), none, none, some (12, 0, 0, 0), some (9, 0, 1, 25), none, none, some (2, 0, 3, 0), some (40, 0, 0, 0), some (4, 1, 3, 0), none, none, some (11, 0, 0, 2), none, none, some (0, (-1), 0, 1)], [some (40, 0, 0, 0)]]
def g_k186 : List (List (List Nat)) := [[[], [], [], [], [], [], [], [], [43, 1357], [], [], [], [], [], [], []], [[150, 1365], [], [], [], [], [], [], [], [], [], [], [], [], [], [], []], [[]]]
def g_m186 : MethodName × ByteArray × Nat × Option FieldType := (⟨"RideLawsModel", "seek", "(II)I"⟩, prog_14_method_23_code, 4, some .int)
def g_c187 : List (List (Option (Nat × Int × Nat × Nat))) := [[some (2, 2, 0, 0), some (2, 0, 2, 0), some (2, 0, 3, 0), some (30, 22, 188, 3), none, none, some (9, 0, 1, 11), none, none, some (0, 0, 0, 1), some (40, 0, 0, 1), some (2, 2, 0, 0), some (13, 2, 12, 7), none, none, some (2, 0, 1, 0)], [some (2, 2, 0, 0), some (13, 0, 12, 18), none, none, some (16, 0, 0, 4), some (0, 1, 0, 1), some (40, 0, 0, 1)]]
def g_k187 : List (List (List Nat)) := [[[], [], [], [176, 1533, 1535, 51, 119], [], [], [], [], [], [], [], [], [37, 1355], [], [], []], [[], [173, 1366], [], [], [], [], []]]
def g_m187 : MethodName × ByteArray × Nat × Option FieldType := (⟨"RideLawsModel", "puts", "(III)Z"⟩, prog_14_method_22_code, 4, some .boolean)
def g_c188 : List (List (Option (Nat × Int × Nat × Nat))) := [[some (2, 2, 0, 0), some (13, 0, 12, 11), none, none, some (0, 2, 0, 1), some (10, 0, 0, 14), none, none, some (2, 2, 0, 0), some (0, 1, 0, 1), some (30, 22, 183, 2), none, none, some (40, 0, 0, 1), some (2, 2, 0, 0), some (13, 0, 12, 14)], [none, none, some (2, 0, 1, 0), some (2, 0, 2, 0), some (30, (-1), 189, 3), none, none, some (9, 0, 1, 32), none, none, some (2, 2, 0, 0), some (0, 2, 0, 1), some (30, 22, 183, 2), none, none, some (40, 0, 0, 1)], [some (2, 2, 0, 0), some (2, 2, 0, 0), some (13, 0, 12, 14), none, none, some (14, 0, 12, 18), none, none, some (2, 2, 0, 0), some (30, 22, 176, 1), none, none, some (0, 1, 0, 1), some (40, 0, 0, 1)]]
def g_k188 : List (List (List Nat)) := [[[], [137, 1359], [], [], [], [], [], [], [], [], [163, 1513, 1515, 46, 119], [], [], [], [], [147, 1362]], [[], [], [], [], [169, 1537, 1538, 119], [], [], [], [], [], [], [], [163, 1513, 1515, 46, 119], [], [], []], [[], [], [147, 1362], [], [], [173, 1366], [], [], [], [166, 1487, 1489, 41, 119], [], [], [], []]]
def g_m188 : MethodName × ByteArray × Nat × Option FieldType := (⟨"RideLawsModel", "takes", "(II)Z"⟩, prog_14_method_21_code, 3, some .boolean)
def g_c189 : List (List (Option (Nat × Int × Nat × Nat))) := [[some (2, 0, 0, 0), some (2, 0, 1, 0), some (10, 0, 2, 14), none, none, some (2, 0, 0, 0), some (2, 0, 2, 0), some (10, 0, 4, 14), none, none, some (0, 1, 0, 1), some (11, 0, 0, 15), none, none, some (0, 0, 0, 1), some (40, 0, 0, 1)]]
def g_k189 : List (List (List Nat)) := [[[], [], [], [], [], [], [], [], [], [], [], [], [], [], [], []]]
def g_m189 : MethodName × ByteArray × Nat × Option FieldType := (⟨"RideLawsModel", "isIn", "(III)Z"⟩, prog_14_method_7_code, 3, some .boolean)
def g_c190 : List (List (Option (Nat × Int × Nat × Nat))) := [[some (2, 2, 0, 0), some (13, 2, 12, 7), none, none, some (0, 1, 0, 1), some (15, 0, 0, 0), some (3, 0, 1, 0), some (2, 0, 1, 0), some (0, 8, 1, 2), none, some (10, 0, 1, 19), none, none, some (2, 2, 0, 0), some (0, 4, 0, 1), some (30, 22, 183, 2)], [none, none, some (40, 0, 0, 1), some (2, 2, 0, 0), some (30, 22, 176, 1), none, none, some (2, 2, 0, 0), some (0, 36, 1, 2), none, some (2, 0, 1, 0), some (5, 0, 0, 0), some (30, 22, 184, 2), none, none, some (9, 0, 0, 49)], [none, none, some (2, 2, 0, 0), some (0, 33, 1, 2), none, some (2, 2, 0, 0), some (13, 2, 12, 7), none, none, some (0, 0, 0, 1), some (15, 0, 0, 0), some (30, 22, 191, 3), none, none, some (9, 0, 1, 51), none], [none, some (0, 0, 0, 1), some (40, 0, 0, 1), some (2, 2, 0, 0), some (13, 0, 12, 18), none, none, some (3, 0, 2, 0), some (2, 2, 0, 0), some (13, 0, 12, 11), none, none, some (0, 2, 0, 1), some (10, 0, 0, 70), none, none], [some (2, 2, 0, 0), some (0, 1, 0, 1), some (30, 22, 183, 2), none, none, some (40, 0, 0, 1), some (2, 2, 0, 0), some (13, 0, 12, 14), none, none, some (2, 2, 0, 0), some (13, 2, 12, 7), none, none, some (0, 5, 0, 1), some (2, 0, 2, 0)], [some (5, 0, 0, 0), some (15, 0, 0, 0), some (10, 0, 2, 91), none, none, some (2, 2, 0, 0), some (0, 2, 0, 1), some (30, 22, 183, 2), none, none, some (40, 0, 0, 1), some (0, 0, 0, 1), some (3, 0, 3, 0), some (2, 0, 3, 0), some (2, 0, 1, 0), some (10, 0, 3, 139)], [none, none, some (2, 2, 0, 0), some (13, 2, 12, 7), none, none, some (0, 11, 1, 2), none, some (2, 0, 3, 0), some (5, 0, 0, 0), some (15, 0, 0, 0), some (2, 0, 2, 0), some (10, 0, 1, 133), none, none, some (2, 2, 0, 0)], [some (13, 2, 12, 7), none, none, some (0, 19, 1, 2), none, some (2, 0, 3, 0), some (5, 0, 0, 0), some (15, 0, 0, 0), some (2, 2, 0, 0), some (13, 0, 12, 14), none, none, some (10, 0, 1, 133), none, none, some (2, 2, 0, 0)], [some (0, 3, 0, 1), some (30, 22, 183, 2), none, none, some (40, 0, 0, 1), some (4, 1, 3, 0), none, none, some (11, 0, 0, 93), none, none, some (2, 2, 0, 0), some (13, 2, 12, 7), none, none, some (0, 11, 1, 2)], [none, some (2, 0, 1, 0), some (5, 0, 0, 0), some (2, 0, 2, 0), some (16, 0, 0, 4), some (2, 2, 0, 0), some (13, 2, 12, 7), none, none, some (0, 19, 1, 2), none, some (2, 0, 1, 0), some (5, 0, 0, 0), some (2, 2, 0, 0), some (13, 0, 12, 14), none], [none, some (16, 0, 0, 4), some (2, 2, 0, 0), some (30, 22, 176, 1), none, none, some (2, 2, 0, 0), some (13, 2, 12, 7), none, none, some (0, 1, 0, 1), some (8, 0, 2, 0), some (15, 0, 0, 0), some (0, 1, 0, 1), some (5, 0, 0, 0), some (16, 0, 0, 4)], [some (0, 1, 0, 1), some (40, 0, 0, 1)]]
def g_k190 : List (List (List Nat)) := [[[], [37, 1355], [], [], [], [], [], [], [], [], [], [], [], [], [], [163, 1513, 1515, 46, 119]], [[], [], [], [], [166, 1487, 1489, 41, 119], [], [], [], [], [], [], [], [216, 1517, 1519, 47, 119], [], [], []], [[], [], [], [], [], [], [37, 1355], [], [], [], [], [222, 1544, 1546, 53, 119], [], [], [], []], [[], [], [], [], [173, 1366], [], [], [], [], [137, 1359], [], [], [], [], [], []], [[], [], [163, 1513, 1515, 46, 119], [], [], [], [], [147, 1362], [], [], [], [37, 1355], [], [], [], []], [[], [], [], [], [], [], [], [163, 1513, 1515, 46, 119], [], [], [], [], [], [], [], []], [[], [], [], [37, 1355], [], [], [], [], [], [], [], [], [], [], [], []], [[37, 1355], [], [], [], [], [], [], [], [], [147, 1362], [], [], [], [], [], []], [[], [163, 1513, 1515, 46, 119], [], [], [], [], [], [], [], [], [], [], [37, 1355], [], [], []], [[], [], [], [], [], [], [37, 1355], [], [], [], [], [], [], [], [147, 1362], []], [[], [], [], [166, 1487, 1489, 41, 119], [], [], [], [37, 1355], [], [], [], [], [], [], [], []], [[], []]]
def g_m190 : MethodName × ByteArray × Nat × Option FieldType := (⟨"RideLawsModel", "readSeat", "()Z"⟩, prog_14_method_29_code, 4, some .boolean)
def g_c191 : List (List (Option (Nat × Int × Nat × Nat))) := [[some (2, 2, 0, 0), some (2, 0, 1, 0), some (2, 0, 2, 0), some (30, 22, 192, 3), none, none, some (9, 0, 1, 11), none, none, some (0, 0, 0, 1), some (40, 0, 0, 1), some (2, 2, 0, 0), some (30, 22, 176, 1), none, none, some (0, 1, 0, 1)], [some (40, 0, 0, 1)]]
def g_k191 : List (List (List Nat)) := [[[], [], [], [188, 1548, 1550, 54, 119], [], [], [], [], [], [], [], [], [166, 1487, 1489, 41, 119], [], [], []], [[]]]
def g_m191 : MethodName × ByteArray × Nat × Option FieldType := (⟨"RideLawsModel", "takesName", "(II)Z"⟩, prog_14_method_26_code, 3, some .boolean)
def g_c192 : List (List (Option (Nat × Int × Nat × Nat))) := [[some (2, 2, 0, 0), some (30, 22, 185, 1), none, none, some (9, 0, 1, 13), none, none, some (2, 2, 0, 0), some (0, 1, 0, 1), some (30, 22, 183, 2), none, none, some (40, 0, 0, 1), some (2, 2, 0, 0), some (2, 2, 0, 0), some (2, 0, 1, 0)], [some (2, 0, 2, 0), some (30, 22, 186, 3), none, none, some (14, 0, 12, 18), none, none, some (2, 2, 0, 0), some (13, 0, 12, 18), none, none, some (9, 0, 3, 38), none, none, some (2, 2, 0, 0), some (0, 3, 0, 1)], [some (30, 22, 183, 2), none, none, some (9, 0, 0, 42), none, none, some (0, 1, 0, 1), some (11, 0, 0, 43), none, none, some (0, 0, 0, 1), some (40, 0, 0, 1)]]
def g_k192 : List (List (List Nat)) := [[[], [180, 1521, 1523, 48, 119], [], [], [], [], [], [], [], [163, 1513, 1515, 46, 119], [], [], [], [], [], []], [[], [184, 1525, 1527, 49, 119], [], [], [173, 1366], [], [], [], [173, 1366], [], [], [], [], [], [], []], [[163, 1513, 1515, 46, 119], [], [], [], [], [], [], [], [], [], [], []]]
def g_m192 : MethodName × ByteArray × Nat × Option FieldType := (⟨"RideLawsModel", "looksAt", "(II)Z"⟩, prog_14_method_25_code, 3, some .boolean)
def g_c193 : List (List (Option (Nat × Int × Nat × Nat))) := [[some (2, 2, 0, 0), some (13, 2, 12, 7), none, none, some (0, 2, 0, 1), some (15, 0, 0, 0), some (3, 0, 1, 0), some (2, 0, 1, 0), some (0, 8, 1, 2), none, some (10, 0, 1, 19), none, none, some (2, 2, 0, 0), some (0, 4, 0, 1), some (30, 22, 183, 2)], [none, none, some (40, 0, 0, 1), some (2, 2, 0, 0), some (30, 22, 176, 1), none, none, some (2, 2, 0, 0), some (0, 44, 1, 2), none, some (2, 0, 1, 0), some (5, 0, 0, 0), some (30, 22, 184, 2), none, none, some (9, 0, 1, 36)], [none, none, some (0, 0, 0, 1), some (40, 0, 0, 1), some (2, 2, 0, 0), some (13, 2, 12, 7), none, none, some (0, 2, 0, 1), some (8, 0, 2, 0), some (15, 0, 0, 0), some (0, 1, 0, 1), some (5, 0, 0, 0), some (16, 0, 0, 4), some (0, 1, 0, 1), some (40, 0, 0, 1)]]
def g_k193 : List (List (List Nat)) := [[[], [37, 1355], [], [], [], [], [], [], [], [], [], [], [], [], [], [163, 1513, 1515, 46, 119]], [[], [], [], [], [166, 1487, 1489, 41, 119], [], [], [], [], [], [], [], [216, 1517, 1519, 47, 119], [], [], []], [[], [], [], [], [], [37, 1355], [], [], [], [], [], [], [], [], [], []]]
def g_m193 : MethodName × ByteArray × Nat × Option FieldType := (⟨"RideLawsModel", "readWord", "()Z"⟩, prog_14_method_30_code, 2, some .boolean)
def g_c194 : List (List (Option (Nat × Int × Nat × Nat))) := [[some (2, 2, 0, 0), some (13, 2, 12, 7), none, none, some (0, 3, 0, 1), some (15, 0, 0, 0), some (3, 0, 1, 0), some (2, 0, 1, 0), some (0, 6, 1, 2), none, some (10, 0, 1, 19), none, none, some (2, 2, 0, 0), some (0, 4, 0, 1), some (30, 22, 183, 2)], [none, none, some (40, 0, 0, 1), some (2, 2, 0, 0), some (30, 22, 176, 1), none, none, some (2, 2, 0, 0), some (0, 52, 1, 2), none, some (2, 0, 1, 0), some (5, 0, 0, 0), some (30, 22, 184, 2), none, none, some (9, 0, 1, 36)], [none, none, some (0, 0, 0, 1), some (40, 0, 0, 1), some (2, 2, 0, 0), some (13, 0, 12, 11), none, none, some (0, 1, 0, 1), some (10, 0, 1, 117), none, none, some (2, 2, 0, 0), some (0, 36, 1, 2), none, some (2, 2, 0, 0)], [some (13, 2, 12, 7), none, none, some (0, 1, 0, 1), some (15, 0, 0, 0), some (30, 22, 192, 3), none, none, some (9, 0, 1, 61), none, none, some (0, 0, 0, 1), some (40, 0, 0, 1), some (0, 0, 0, 1), some (3, 0, 2, 0), some (2, 0, 2, 0)], [some (2, 0, 1, 0), some (10, 0, 3, 98), none, none, some (2, 2, 0, 0), some (13, 2, 12, 7), none, none, some (0, 27, 1, 2), none, some (2, 0, 2, 0), some (5, 0, 0, 0), some (15, 0, 0, 0), some (2, 2, 0, 0), some (13, 0, 12, 18), none], [none, some (0, 1, 0, 1), some (5, 0, 0, 0), some (10, 0, 1, 92), none, none, some (2, 2, 0, 0), some (0, 3, 0, 1), some (30, 22, 183, 2), none, none, some (40, 0, 0, 1), some (4, 1, 2, 0), none, none, some (11, 0, 0, 63)], [none, none, some (2, 2, 0, 0), some (13, 2, 12, 7), none, none, some (0, 27, 1, 2), none, some (2, 0, 1, 0), some (5, 0, 0, 0), some (2, 2, 0, 0), some (13, 0, 12, 18), none, none, some (0, 1, 0, 1), some (5, 0, 0, 0)], [some (16, 0, 0, 4), some (2, 2, 0, 0), some (30, 22, 176, 1), none, none, some (2, 2, 0, 0), some (13, 2, 12, 7), none, none, some (0, 3, 0, 1), some (8, 0, 2, 0), some (15, 0, 0, 0), some (0, 1, 0, 1), some (5, 0, 0, 0), some (16, 0, 0, 4), some (0, 1, 0, 1)], [some (40, 0, 0, 1)]]
def g_k194 : List (List (List Nat)) := [[[], [37, 1355], [], [], [], [], [], [], [], [], [], [], [], [], [], [163, 1513, 1515, 46, 119]], [[], [], [], [], [166, 1487, 1489, 41, 119], [], [], [], [], [], [], [], [216, 1517, 1519, 47, 119], [], [], []], [[], [], [], [], [], [137, 1359], [], [], [], [], [], [], [], [], [], []], [[37, 1355], [], [], [], [], [188, 1548, 1550, 54, 119], [], [], [], [], [], [], [], [], [], []], [[], [], [], [], [], [37, 1355], [], [], [], [], [], [], [], [], [173, 1366], []], [[], [], [], [], [], [], [], [], [163, 1513, 1515, 46, 119], [], [], [], [], [], [], []], [[], [], [], [37, 1355], [], [], [], [], [], [], [], [173, 1366], [], [], [], []], [[], [], [166, 1487, 1489, 41, 119], [], [], [], [37, 1355], [], [], [], [], [], [], [], [], []], [[]]]
def g_m194 : MethodName × ByteArray × Nat × Option FieldType := (⟨"RideLawsModel", "readRider", "()Z"⟩, prog_14_method_31_code, 3, some .boolean)
def g_c195 : List (List (Option (Nat × Int × Nat × Nat))) := [[some (2, 2, 0, 0), some (30, 22, 176, 1), none, none, some (2, 2, 0, 0), some (0, 52, 1, 2), none, some (2, 2, 0, 0), some (13, 2, 12, 7), none, none, some (0, 3, 0, 1), some (15, 0, 0, 0), some (30, 22, 192, 3), none, none], [some (9, 0, 1, 21), none, none, some (0, 0, 0, 1), some (40, 0, 0, 1), some (2, 2, 0, 0), some (13, 0, 12, 18), none, none, some (3, 0, 1, 0), some (2, 2, 0, 0), some (13, 2, 12, 7), none, none, some (0, 33, 1, 2), none], [some (2, 0, 1, 0), some (5, 0, 0, 0), some (15, 0, 0, 0), some (3, 0, 2, 0), some (2, 0, 2, 0), some (0, 6, 1, 2), none, some (10, 0, 1, 48), none, none, some (2, 2, 0, 0), some (0, 4, 0, 1), some (30, 22, 183, 2), none, none, some (40, 0, 0, 1)], [some (2, 2, 0, 0), some (30, 22, 176, 1), none, none, some (2, 2, 0, 0), some (0, 44, 1, 2), none, some (2, 2, 0, 0), some (13, 2, 12, 7), none, none, some (0, 2, 0, 1), some (15, 0, 0, 0), some (30, 22, 191, 3), none, none], [some (9, 0, 1, 69), none, none, some (0, 0, 0, 1), some (40, 0, 0, 1), some (2, 2, 0, 0), some (13, 2, 12, 7), none, none, some (0, 39, 1, 2), none, some (0, 6, 1, 2), none, some (2, 0, 1, 0), some (5, 0, 2, 0), some (5, 0, 0, 0)], [some (2, 0, 2, 0), some (5, 0, 0, 0), some (2, 2, 0, 0), some (13, 0, 12, 18), none, none, some (16, 0, 0, 4), some (2, 2, 0, 0), some (13, 2, 12, 7), none, none, some (0, 33, 1, 2), none, some (2, 0, 1, 0), some (5, 0, 0, 0), some (8, 0, 2, 0)], [some (15, 0, 0, 0), some (0, 1, 0, 1), some (5, 0, 0, 0), some (16, 0, 0, 4), some (0, 1, 0, 1), some (40, 0, 0, 1)]]
def g_k195 : List (List (List Nat)) := [[[], [166, 1487, 1489, 41, 119], [], [], [], [], [], [], [37, 1355], [], [], [], [], [188, 1548, 1550, 54, 119], [], []], [[], [], [], [], [], [], [173, 1366], [], [], [], [], [37, 1355], [], [], [], []], [[], [], [], [], [], [], [], [], [], [], [], [], [163, 1513, 1515, 46, 119], [], [], []], [[], [166, 1487, 1489, 41, 119], [], [], [], [], [], [], [37, 1355], [], [], [], [], [222, 1544, 1546, 53, 119], [], []], [[], [], [], [], [], [], [37, 1355], [], [], [], [], [], [], [], [], []], [[], [], [], [173, 1366], [], [], [], [], [37, 1355], [], [], [], [], [], [], []], [[], [], [], [], [], []]]
def g_m195 : MethodName × ByteArray × Nat × Option FieldType := (⟨"RideLawsModel", "readSays", "()Z"⟩, prog_14_method_32_code, 3, some .boolean)
def g_c196 : List (List (Option (Nat × Int × Nat × Nat))) := [[some (2, 2, 0, 0), some (13, 2, 12, 7), none, none, some (0, 4, 0, 1), some (15, 0, 0, 0), some (3, 0, 1, 0), some (2, 0, 1, 0), some (0, 8, 1, 2), none, some (10, 0, 1, 19), none, none, some (2, 2, 0, 0), some (0, 4, 0, 1), some (30, 22, 183, 2)], [none, none, some (40, 0, 0, 1), some (2, 2, 0, 0), some (30, 22, 176, 1), none, none, some (2, 2, 0, 0), some (0, 58, 1, 2), none, some (2, 0, 1, 0), some (5, 0, 0, 0), some (30, 22, 184, 2), none, none, some (9, 0, 0, 49)], [none, none, some (2, 2, 0, 0), some (0, 44, 1, 2), none, some (2, 2, 0, 0), some (13, 2, 12, 7), none, none, some (0, 2, 0, 1), some (15, 0, 0, 0), some (30, 22, 191, 3), none, none, some (9, 0, 1, 51), none], [none, some (0, 0, 0, 1), some (40, 0, 0, 1), some (2, 2, 0, 0), some (13, 0, 12, 18), none, none, some (3, 0, 2, 0), some (2, 2, 0, 0), some (0, 44, 1, 2), none, some (2, 2, 0, 0), some (13, 2, 12, 7), none, none, some (0, 2, 0, 1)], [some (15, 0, 0, 0), some (30, 22, 192, 3), none, none, some (9, 0, 1, 73), none, none, some (0, 0, 0, 1), some (40, 0, 0, 1), some (0, 0, 0, 1), some (3, 0, 3, 0), some (2, 0, 3, 0), some (2, 0, 1, 0), some (10, 0, 3, 121), none, none], [some (2, 2, 0, 0), some (13, 2, 12, 7), none, none, some (0, 75, 1, 2), none, some (2, 0, 3, 0), some (5, 0, 0, 0), some (15, 0, 0, 0), some (2, 0, 2, 0), some (10, 0, 1, 115), none, none, some (2, 2, 0, 0), some (13, 2, 12, 7), none], [none, some (0, 83, 1, 2), none, some (2, 0, 3, 0), some (5, 0, 0, 0), some (15, 0, 0, 0), some (2, 2, 0, 0), some (13, 0, 12, 18), none, none, some (10, 0, 1, 115), none, none, some (2, 2, 0, 0), some (0, 3, 0, 1), some (30, 22, 183, 2)], [none, none, some (40, 0, 0, 1), some (4, 1, 3, 0), none, none, some (11, 0, 0, 75), none, none, some (2, 2, 0, 0), some (13, 2, 12, 7), none, none, some (0, 75, 1, 2), none, some (2, 0, 1, 0)], [some (5, 0, 0, 0), some (2, 0, 2, 0), some (16, 0, 0, 4), some (2, 2, 0, 0), some (13, 2, 12, 7), none, none, some (0, 83, 1, 2), none, some (2, 0, 1, 0), some (5, 0, 0, 0), some (2, 2, 0, 0), some (13, 0, 12, 18), none, none, some (16, 0, 0, 4)], [some (2, 2, 0, 0), some (30, 22, 176, 1), none, none, some (2, 2, 0, 0), some (13, 2, 12, 7), none, none, some (0, 4, 0, 1), some (8, 0, 2, 0), some (15, 0, 0, 0), some (0, 1, 0, 1), some (5, 0, 0, 0), some (16, 0, 0, 4), some (0, 1, 0, 1), some (40, 0, 0, 1)]]
def g_k196 : List (List (List Nat)) := [[[], [37, 1355], [], [], [], [], [], [], [], [], [], [], [], [], [], [163, 1513, 1515, 46, 119]], [[], [], [], [], [166, 1487, 1489, 41, 119], [], [], [], [], [], [], [], [216, 1517, 1519, 47, 119], [], [], []], [[], [], [], [], [], [], [37, 1355], [], [], [], [], [222, 1544, 1546, 53, 119], [], [], [], []], [[], [], [], [], [173, 1366], [], [], [], [], [], [], [], [37, 1355], [], [], []], [[], [188, 1548, 1550, 54, 119], [], [], [], [], [], [], [], [], [], [], [], [], [], []], [[], [37, 1355], [], [], [], [], [], [], [], [], [], [], [], [], [37, 1355], []], [[], [], [], [], [], [], [], [173, 1366], [], [], [], [], [], [], [], [163, 1513, 1515, 46, 119]], [[], [], [], [], [], [], [], [], [], [], [37, 1355], [], [], [], [], []], [[], [], [], [], [37, 1355], [], [], [], [], [], [], [], [173, 1366], [], [], []], [[], [166, 1487, 1489, 41, 119], [], [], [], [37, 1355], [], [], [], [], [], [], [], [], [], []]]
def g_m196 : MethodName × ByteArray × Nat × Option FieldType := (⟨"RideLawsModel", "readLaw", "()Z"⟩, prog_14_method_33_code, 4, some .boolean)
def g_c197 : List (List (Option (Nat × Int × Nat × Nat))) := [[some (2, 2, 0, 0), some (30, 22, 176, 1), none, none, some (2, 2, 0, 0), some (0, 58, 1, 2), none, some (2, 2, 0, 0), some (13, 2, 12, 7), none, none, some (0, 4, 0, 1), some (15, 0, 0, 0), some (30, 22, 191, 3), none, none], [some (9, 0, 1, 21), none, none, some (0, 0, 0, 1), some (40, 0, 0, 1), some (2, 2, 0, 0), some (13, 0, 12, 18), none, none, some (3, 0, 1, 0), some (2, 2, 0, 0), some (0, 58, 1, 2), none, some (2, 2, 0, 0), some (13, 2, 12, 7), none], [none, some (0, 4, 0, 1), some (15, 0, 0, 0), some (30, 22, 192, 3), none, none, some (9, 0, 1, 43), none, none, some (0, 0, 0, 1), some (40, 0, 0, 1), some (2, 2, 0, 0), some (13, 0, 12, 18), none, none, some (2, 0, 1, 0)], [some (10, 0, 0, 70), none, none, some (2, 2, 0, 0), some (13, 2, 12, 7), none, none, some (0, 91, 1, 2), none, some (2, 0, 1, 0), some (5, 0, 0, 0), some (15, 0, 0, 0), some (2, 2, 0, 0), some (13, 0, 12, 18), none, none], [some (30, (-1), 198, 2), none, none, some (9, 0, 0, 76), none, none, some (2, 2, 0, 0), some (0, 3, 0, 1), some (30, 22, 183, 2), none, none, some (40, 0, 0, 1), some (2, 2, 0, 0), some (13, 2, 12, 7), none, none], [some (0, 91, 1, 2), none, some (2, 0, 1, 0), some (5, 0, 0, 0), some (8, 0, 2, 0), some (15, 0, 0, 0), some (0, 1, 0, 1), some (2, 2, 0, 0), some (13, 0, 12, 18), none, none, some (5, 0, 6, 0), some (5, 0, 4, 0), some (16, 0, 0, 4), some (2, 2, 0, 0), some (13, 2, 12, 7)], [none, none, some (0, 91, 1, 2), none, some (2, 2, 0, 0), some (13, 0, 12, 18), none, none, some (5, 0, 0, 0), some (8, 0, 2, 0), some (15, 0, 0, 0), some (0, 1, 0, 1), some (2, 0, 1, 0), some (5, 0, 6, 0), some (5, 0, 4, 0), some (16, 0, 0, 4)], [some (2, 2, 0, 0), some (30, 22, 176, 1), none, none, some (0, 1, 0, 1), some (40, 0, 0, 1)]]
def g_k197 : List (List (List Nat)) := [[[], [166, 1487, 1489, 41, 119], [], [], [], [], [], [], [37, 1355], [], [], [], [], [222, 1544, 1546, 53, 119], [], []], [[], [], [], [], [], [], [173, 1366], [], [], [], [], [], [], [], [37, 1355], []], [[], [], [], [188, 1548, 1550, 54, 119], [], [], [], [], [], [], [], [], [173, 1366], [], [], []], [[], [], [], [], [37, 1355], [], [], [], [], [], [], [], [], [173, 1366], [], []], [[225, 1572, 1573, 119], [], [], [], [], [], [], [], [163, 1513, 1515, 46, 119], [], [], [], [], [37, 1355], [], []], [[], [], [], [], [], [], [], [], [173, 1366], [], [], [], [], [], [], [37, 1355]], [[], [], [], [], [], [173, 1366], [], [], [], [], [], [], [], [], [], []], [[], [166, 1487, 1489, 41, 119], [], [], [], []]]
def g_m197 : MethodName × ByteArray × Nat × Option FieldType := (⟨"RideLawsModel", "readClash", "()Z"⟩, prog_14_method_34_code, 2, some .boolean)
def g_c198 : List (List (Option (Nat × Int × Nat × Nat))) := [[some (2, 0, 0, 0), some (2, 0, 1, 0), some (5, 0, 7, 0), some (0, 1, 0, 1), some (5, 0, 3, 0), some (0, 1, 0, 1), some (10, 0, 1, 13), none, none, some (0, 1, 0, 1), some (11, 0, 0, 14), none, none, some (0, 0, 0, 1), some (40, 0, 0, 1)]]
def g_k198 : List (List (List Nat)) := [[[], [], [], [], [], [], [], [], [], [], [], [], [], [], []]]
def g_m198 : MethodName × ByteArray × Nat × Option FieldType := (⟨"RideLawsModel", "bitOf", "(II)Z"⟩, prog_14_method_8_code, 2, some .boolean)
def g_c199 : List (List (Option (Nat × Int × Nat × Nat))) := [[some (2, 2, 0, 0), some (2, 0, 1, 0), some (30, 22, 200, 2), none, none, some (9, 0, 1, 14), none, none, some (2, 2, 0, 0), some (0, 1, 0, 1), some (30, 22, 183, 2), none, none, some (40, 0, 0, 1), some (2, 2, 0, 0), some (30, 22, 176, 1)], [none, none, some (0, 1, 0, 1), some (40, 0, 0, 1)]]
def g_k199 : List (List (List Nat)) := [[[], [], [160, 1579, 1581, 61, 119], [], [], [], [], [], [], [], [163, 1513, 1515, 46, 119], [], [], [], [], [166, 1487, 1489, 41, 119]], [[], [], [], []]]
def g_m199 : MethodName × ByteArray × Nat × Option FieldType := (⟨"RideLawsModel", "sign", "(I)Z"⟩, prog_14_method_19_code, 2, some .boolean)
def g_c200 : List (List (Option (Nat × Int × Nat × Nat))) := [[some (2, 2, 0, 0), some (13, 0, 12, 11), none, none, some (0, 3, 0, 1), some (10, 0, 1, 20), none, none, some (2, 2, 0, 0), some (13, 0, 12, 14), none, none, some (2, 0, 1, 0), some (10, 0, 1, 20), none, none], [some (0, 1, 0, 1), some (11, 0, 0, 21), none, none, some (0, 0, 0, 1), some (40, 0, 0, 1)]]
def g_k200 : List (List (List Nat)) := [[[], [137, 1359], [], [], [], [], [], [], [], [147, 1362], [], [], [], [], [], []], [[], [], [], [], [], []]]
def g_m200 : MethodName × ByteArray × Nat × Option FieldType := (⟨"RideLawsModel", "isSign", "(I)Z"⟩, prog_14_method_18_code, 2, some .boolean)
def g_c201 : List (List (Option (Nat × Int × Nat × Nat))) := [[some (2, 2, 0, 0), some (0, 0, 0, 1), some (14, 0, 12, 0), none, none, some (2, 2, 0, 0), some (13, 0, 12, 15), none, none, some (40, 0, 0, 0)]]
def g_k201 : List (List (List Nat)) := [[[], [], [1, 1348], [], [], [], [154, 1363], [], [], []]]
def g_m201 : MethodName × ByteArray × Nat × Option FieldType := (⟨"RideLawsModel", "fault", "()I"⟩, prog_14_method_36_code, 1, some .int)
def g_c202 : List (List (Option (Nat × Int × Nat × Nat))) := [[some (2, 2, 0, 0), some (2, 2, 0, 0), some (2, 0, 1, 0), some (30, 22, 203, 2), none, none, some (9, 0, 0, 18), none, none, some (2, 0, 2, 0), some (0, 0, 0, 1), some (0, 4, 0, 1), some (30, (-1), 189, 3), none, none, some (9, 0, 1, 22)], [none, none, some (0, 1, 0, 1), some (11, 0, 0, 23), none, none, some (0, 0, 0, 1), some (30, 22, 204, 2), none, none, some (9, 0, 0, 31), none, none, some (0, 0, 0, 1), some (40, 0, 0, 0), some (2, 0, 2, 0)], [some (20, 0, 103, 9), none, none, none, none, none, none, none, none, none, none, none, none, none, none, none], [none, none, none, none, none, none, none, none, none, none, none, none, none, none, none, none], [some (2, 2, 0, 0), some (13, 2, 12, 6), none, none, some (0, 112, 1, 2), none, some (2, 0, 1, 0), some (5, 0, 0, 0), some (15, 0, 0, 0), some (0, 1, 0, 1), some (5, 0, 1, 0), some (40, 0, 0, 0), some (2, 2, 0, 0), some (13, 2, 12, 6), none, none], [some (0, 118, 1, 2), none, some (2, 0, 1, 0), some (5, 0, 0, 0), some (15, 0, 0, 0), some (40, 0, 0, 0), some (2, 2, 0, 0), some (2, 0, 1, 0), some (30, 22, 205, 2), none, none, some (40, 0, 0, 0), some (2, 2, 0, 0), some (13, 2, 12, 6), none, none], [some (0, 166, 2, 3), none, none, some (2, 0, 1, 0), some (5, 0, 0, 0), some (15, 0, 0, 0), some (40, 0, 0, 0), some (2, 2, 0, 0), some (2, 0, 1, 0), some (30, 22, 206, 2), none, none, some (40, 0, 0, 0)]]
def g_k202 : List (List (List Nat)) := [[[], [], [], [243, 1591, 1593, 62, 119], [], [], [], [], [], [], [], [], [169, 1537, 1538, 119], [], [], []], [[], [], [], [], [], [], [], [246, 1595, 1597, 63, 119], [], [], [], [], [], [], [], []], [[], [], [], [], [], [], [], [], [], [], [], [], [], [], [], []], [[], [], [], [], [], [], [], [], [], [], [], [], [], [], [], []], [[], [33, 1354], [], [], [], [], [], [], [], [], [], [], [], [33, 1354], [], []], [[], [], [], [], [], [], [], [], [250, 1599, 1601, 64, 119], [], [], [], [], [33, 1354], [], []], [[], [], [], [], [], [], [], [], [], [254, 1603, 1605, 65, 119], [], [], []]]
def g_m202 : MethodName × ByteArray × Nat × Option FieldType := (⟨"RideLawsModel", "rider", "(II)I"⟩, prog_14_method_44_code, 3, some .int)
def g_c203 : List (List (Option (Nat × Int × Nat × Nat))) := [[some (2, 0, 1, 0), some (0, 0, 0, 1), some (2, 2, 0, 0), some (13, 2, 12, 6), none, none, some (0, 3, 0, 1), some (15, 0, 0, 0), some (0, 1, 0, 1), some (5, 0, 1, 0), some (30, (-1), 189, 3), none, none, some (40, 0, 0, 1)]]
def g_k203 : List (List (List Nat)) := [[[], [], [], [33, 1354], [], [], [], [], [], [], [169, 1537, 1538, 119], [], [], []]]
def g_m203 : MethodName × ByteArray × Nat × Option FieldType := (⟨"RideLawsModel", "isRider", "(I)Z"⟩, prog_14_method_38_code, 2, some .boolean)
def g_c204 : List (List (Option (Nat × Int × Nat × Nat))) := [[some (2, 2, 0, 0), some (2, 0, 1, 0), some (9, 0, 0, 9), none, none, some (0, 1, 0, 1), some (11, 0, 0, 10), none, none, some (0, 0, 0, 1), some (14, 0, 12, 0), none, none, some (2, 0, 1, 0), some (40, 0, 0, 1)]]
def g_k204 : List (List (List Nat)) := [[[], [], [], [], [], [], [], [], [], [], [1, 1348], [], [], [], []]]
def g_m204 : MethodName × ByteArray × Nat × Option FieldType := (⟨"RideLawsModel", "throwsIf", "(Z)Z"⟩, prog_14_method_2_code, 2, some .boolean)
def g_c205 : List (List (Option (Nat × Int × Nat × Nat))) := [[some (2, 2, 0, 0), some (13, 2, 12, 6), none, none, some (0, 118, 1, 2), none, some (2, 0, 1, 0), some (5, 0, 0, 0), some (15, 0, 0, 0), some (9, 0, 1, 16), none, none, some (0, (-1), 0, 1), some (11, 0, 0, 39), none, none], [some (2, 2, 0, 0), some (13, 2, 12, 6), none, none, some (0, 124, 1, 2), none, some (0, 6, 1, 2), none, some (2, 0, 1, 0), some (5, 0, 2, 0), some (5, 0, 0, 0), some (2, 2, 0, 0), some (13, 2, 12, 6), none, none, some (0, 160, 2, 3)], [none, none, some (2, 0, 1, 0), some (5, 0, 0, 0), some (15, 0, 0, 0), some (5, 0, 0, 0), some (15, 0, 0, 0), some (40, 0, 0, 0)]]
def g_k205 : List (List (List Nat)) := [[[], [33, 1354], [], [], [], [], [], [], [], [], [], [], [], [], [], []], [[], [33, 1354], [], [], [], [], [], [], [], [], [], [], [33, 1354], [], [], []], [[], [], [], [], [], [], [], []]]
def g_m205 : MethodName × ByteArray × Nat × Option FieldType := (⟨"RideLawsModel", "nextWord", "(I)I"⟩, prog_14_method_42_code, 2, some .int)
def g_c206 : List (List (Option (Nat × Int × Nat × Nat))) := [[some (0, 0, 0, 1), some (3, 0, 2, 0), some (0, 0, 0, 1), some (3, 0, 3, 0), some (2, 0, 3, 0), some (2, 2, 0, 0), some (13, 2, 12, 6), none, none, some (0, 118, 1, 2), none, some (2, 0, 1, 0), some (5, 0, 0, 0), some (15, 0, 0, 0), some (10, 0, 3, 42), none], [none, some (2, 0, 2, 0), some (0, 1, 0, 1), some (2, 2, 0, 0), some (13, 2, 12, 6), none, none, some (0, 124, 1, 2), none, some (0, 6, 1, 2), none, some (2, 0, 1, 0), some (5, 0, 2, 0), some (5, 0, 0, 0), some (2, 0, 3, 0), some (5, 0, 0, 0)], [some (15, 0, 0, 0), some (5, 0, 6, 0), some (5, 0, 4, 0), some (3, 0, 2, 0), some (4, 1, 3, 0), none, none, some (11, 0, 0, 4), none, none, some (2, 0, 2, 0), some (40, 0, 0, 0)]]
def g_k206 : List (List (List Nat)) := [[[], [], [], [], [], [], [33, 1354], [], [], [], [], [], [], [], [], []], [[], [], [], [], [33, 1354], [], [], [], [], [], [], [], [], [], [], []], [[], [], [], [], [], [], [], [], [], [], [], []]]
def g_m206 : MethodName × ByteArray × Nat × Option FieldType := (⟨"RideLawsModel", "knownTo", "(I)I"⟩, prog_14_method_41_code, 4, some .int)
def g_c207 : List (List (Option (Nat × Int × Nat × Nat))) := [[some (2, 2, 0, 0), some (0, 0, 0, 1), some (14, 0, 12, 0), none, none, some (2, 2, 0, 0), some (2, 0, 1, 0), some (30, 22, 203, 2), none, none, some (9, 0, 0, 49), none, none, some (2, 0, 2, 0), some (0, 0, 0, 1), some (2, 2, 0, 0)], [some (13, 2, 12, 6), none, none, some (0, 118, 1, 2), none, some (2, 0, 1, 0), some (5, 0, 0, 0), some (15, 0, 0, 0), some (0, 1, 0, 1), some (5, 0, 1, 0), some (30, (-1), 189, 3), none, none, some (9, 0, 0, 49), none, none], [some (2, 2, 0, 0), some (13, 2, 12, 6), none, none, some (0, 124, 1, 2), none, some (0, 6, 1, 2), none, some (2, 0, 1, 0), some (5, 0, 2, 0), some (5, 0, 0, 0), some (2, 0, 2, 0), some (5, 0, 0, 0), some (15, 0, 0, 0), some (11, 0, 0, 50), none], [none, some (0, (-1), 0, 1), some (40, 0, 0, 0)]]
def g_k207 : List (List (List Nat)) := [[[], [], [1, 1348], [], [], [], [], [243, 1591, 1593, 62, 119], [], [], [], [], [], [], [], []], [[33, 1354], [], [], [], [], [], [], [], [], [], [169, 1537, 1538, 119], [], [], [], [], []], [[], [33, 1354], [], [], [], [], [], [], [], [], [], [], [], [], [], []], [[], [], []]]
def g_m207 : MethodName × ByteArray × Nat × Option FieldType := (⟨"RideLawsModel", "roll", "(II)I"⟩, prog_14_method_45_code, 3, some .int)
def g_c208 : List (List (Option (Nat × Int × Nat × Nat))) := [[some (2, 2, 0, 0), some (0, 0, 0, 1), some (14, 0, 12, 0), none, none, some (2, 2, 0, 0), some (2, 0, 1, 0), some (30, 22, 209, 2), none, none, some (9, 0, 1, 15), none, none, some (0, (-1), 0, 1), some (40, 0, 0, 0), some (2, 0, 2, 0)], [some (9, 0, 1, 31), none, none, some (2, 2, 0, 0), some (13, 2, 12, 6), none, none, some (0, 11, 1, 2), none, some (2, 0, 1, 0), some (5, 0, 0, 0), some (15, 0, 0, 0), some (11, 0, 0, 62), none, none, some (2, 0, 2, 0)], [some (0, 1, 0, 1), some (10, 0, 1, 48), none, none, some (2, 2, 0, 0), some (13, 2, 12, 6), none, none, some (0, 104, 1, 2), none, some (2, 0, 1, 0), some (5, 0, 0, 0), some (15, 0, 0, 0), some (11, 0, 0, 62), none, none], [some (2, 0, 2, 0), some (0, 2, 0, 1), some (10, 0, 1, 61), none, none, some (2, 2, 0, 0), some (2, 0, 1, 0), some (30, 22, 210, 2), none, none, some (11, 0, 0, 62), none, none, some (0, (-1), 0, 1), some (40, 0, 0, 0)]]
def g_k208 : List (List (List Nat)) := [[[], [], [1, 1348], [], [], [], [], [257, 1615, 1617, 66, 119], [], [], [], [], [], [], [], []], [[], [], [], [], [33, 1354], [], [], [], [], [], [], [], [], [], [], []], [[], [], [], [], [], [33, 1354], [], [], [], [], [], [], [], [], [], []], [[], [], [], [], [], [], [], [260, 1619, 1621, 67, 119], [], [], [], [], [], [], []]]
def g_m208 : MethodName × ByteArray × Nat × Option FieldType := (⟨"RideLawsModel", "seat", "(II)I"⟩, prog_14_method_46_code, 3, some .int)
def g_c209 : List (List (Option (Nat × Int × Nat × Nat))) := [[some (2, 0, 1, 0), some (0, 0, 0, 1), some (2, 2, 0, 0), some (13, 2, 12, 6), none, none, some (0, 1, 0, 1), some (15, 0, 0, 0), some (0, 1, 0, 1), some (5, 0, 1, 0), some (30, (-1), 189, 3), none, none, some (40, 0, 0, 1)]]
def g_k209 : List (List (List Nat)) := [[[], [], [], [33, 1354], [], [], [], [], [], [], [169, 1537, 1538, 119], [], [], []]]
def g_m209 : MethodName × ByteArray × Nat × Option FieldType := (⟨"RideLawsModel", "isSeat", "(I)Z"⟩, prog_14_method_37_code, 2, some .boolean)
def g_c210 : List (List (Option (Nat × Int × Nat × Nat))) := [[some (0, 0, 0, 1), some (3, 0, 2, 0), some (2, 0, 2, 0), some (2, 2, 0, 0), some (13, 2, 12, 6), none, none, some (0, 3, 0, 1), some (15, 0, 0, 0), some (10, 0, 3, 35), none, none, some (2, 2, 0, 0), some (13, 2, 12, 6), none, none], [some (0, 112, 1, 2), none, some (2, 0, 2, 0), some (5, 0, 0, 0), some (15, 0, 0, 0), some (2, 0, 1, 0), some (0, 1, 0, 1), some (5, 0, 0, 0), some (10, 0, 1, 29), none, none, some (2, 0, 2, 0), some (40, 0, 0, 0), some (4, 1, 2, 0), none, none], [some (11, 0, 0, 2), none, none, some (0, (-1), 0, 1), some (40, 0, 0, 0)]]
def g_k210 : List (List (List Nat)) := [[[], [], [], [], [33, 1354], [], [], [], [], [], [], [], [], [33, 1354], [], []], [[], [], [], [], [], [], [], [], [], [], [], [], [], [], [], []], [[], [], [], [], []]]
def g_m210 : MethodName × ByteArray × Nat × Option FieldType := (⟨"RideLawsModel", "riderOn", "(I)I"⟩, prog_14_method_40_code, 3, some .int)
def g_c211 : List (List (Option (Nat × Int × Nat × Nat))) := [[some (2, 2, 0, 0), some (0, 0, 0, 1), some (14, 0, 12, 0), none, none, some (2, 2, 0, 0), some (2, 0, 1, 0), some (30, 22, 212, 2), none, none, some (9, 0, 1, 15), none, none, some (0, (-1), 0, 1), some (40, 0, 0, 0), some (2, 0, 2, 0)], [some (20, 0, 105, 10), none, none, none, none, none, none, none, none, none, none, none, none, none, none, none], [none, none, none, none, none, none, none, none, none, none, none, none, none, none, none, none], [none, none, none, none, some (2, 2, 0, 0), some (13, 2, 12, 6), none, none, some (0, 75, 1, 2), none, some (2, 0, 1, 0), some (5, 0, 0, 0), some (15, 0, 0, 0), some (40, 0, 0, 0), some (2, 2, 0, 0), some (13, 2, 12, 6)], [none, none, some (0, 83, 1, 2), none, some (2, 0, 1, 0), some (5, 0, 0, 0), some (15, 0, 0, 0), some (40, 0, 0, 0), some (2, 2, 0, 0), some (13, 2, 12, 6), none, none, some (0, 102, 1, 2), none, some (15, 0, 0, 0), some (2, 0, 1, 0)], [some (5, 0, 7, 0), some (0, 1, 0, 1), some (5, 0, 3, 0), some (40, 0, 0, 0), some (2, 2, 0, 0), some (13, 2, 12, 6), none, none, some (0, 91, 1, 2), none, some (2, 0, 1, 0), some (5, 0, 0, 0), some (15, 0, 0, 0), some (40, 0, 0, 0), some (2, 2, 0, 0), some (13, 2, 12, 6)], [none, none, some (0, 172, 2, 3), none, none, some (2, 0, 1, 0), some (5, 0, 0, 0), some (15, 0, 0, 0), some (40, 0, 0, 0), some (0, (-1), 0, 1), some (40, 0, 0, 0)]]
def g_k211 : List (List (List Nat)) := [[[], [], [1, 1348], [], [], [], [], [263, 1627, 1629, 68, 119], [], [], [], [], [], [], [], []], [[], [], [], [], [], [], [], [], [], [], [], [], [], [], [], []], [[], [], [], [], [], [], [], [], [], [], [], [], [], [], [], []], [[], [], [], [], [], [33, 1354], [], [], [], [], [], [], [], [], [], [33, 1354]], [[], [], [], [], [], [], [], [], [], [33, 1354], [], [], [], [], [], []], [[], [], [], [], [], [33, 1354], [], [], [], [], [], [], [], [], [], [33, 1354]], [[], [], [], [], [], [], [], [], [], [], []]]
def g_m211 : MethodName × ByteArray × Nat × Option FieldType := (⟨"RideLawsModel", "law", "(II)I"⟩, prog_14_method_47_code, 3, some .int)
def g_c212 : List (List (Option (Nat × Int × Nat × Nat))) := [[some (2, 0, 1, 0), some (0, 0, 0, 1), some (2, 2, 0, 0), some (13, 2, 12, 6), none, none, some (0, 4, 0, 1), some (15, 0, 0, 0), some (0, 1, 0, 1), some (5, 0, 1, 0), some (30, (-1), 189, 3), none, none, some (40, 0, 0, 1)]]
def g_k212 : List (List (List Nat)) := [[[], [], [], [33, 1354], [], [], [], [], [], [], [169, 1537, 1538, 119], [], [], []]]
def g_m212 : MethodName × ByteArray × Nat × Option FieldType := (⟨"RideLawsModel", "isLaw", "(I)Z"⟩, prog_14_method_39_code, 2, some .boolean)
def g_c213 : List (List (Option (Nat × Int × Nat × Nat))) := [[some (2, 2, 0, 0), some (0, 0, 0, 1), some (14, 0, 12, 0), none, none, some (0, 0, 0, 1), some (3, 0, 2, 0), some (0, 0, 0, 1), some (3, 0, 3, 0), some (0, 0, 0, 1), some (3, 0, 4, 1), none, some (2, 0, 4, 1), none, some (2, 2, 0, 0), some (13, 2, 12, 6)], [none, none, some (0, 1, 0, 1), some (15, 0, 0, 0), some (10, 0, 3, 73), none, none, some (2, 0, 2, 0), some (2, 2, 0, 0), some (13, 2, 12, 6), none, none, some (0, 104, 1, 2), none, some (2, 0, 4, 1), none], [some (5, 0, 0, 0), some (15, 0, 0, 0), some (9, 0, 1, 44), none, none, some (0, 1, 0, 1), some (2, 0, 4, 1), none, some (5, 0, 6, 0), some (11, 0, 0, 45), none, none, some (0, 0, 0, 1), some (5, 0, 4, 0), some (3, 0, 2, 0), some (2, 0, 3, 0)], [some (2, 2, 0, 0), some (2, 0, 4, 1), none, some (30, 22, 210, 2), none, none, some (9, 0, 2, 64), none, none, some (0, 1, 0, 1), some (2, 0, 4, 1), none, some (5, 0, 6, 0), some (11, 0, 0, 65), none, none], [some (0, 0, 0, 1), some (5, 0, 4, 0), some (3, 0, 3, 0), some (4, 1, 4, 0), none, none, some (11, 0, 0, 12), none, none, some (2, 0, 1, 0), some (20, 0, 173, 11), none, none, none, none, none], [none, none, none, none, none, none, none, none, none, none, none, none, none, none, none, none], [none, none, none, none, none, none, none, none, none, none, none, none, none, none, none, none], [none, none, none, none, none, none, none, none, some (2, 2, 0, 0), some (13, 2, 12, 6), none, none, some (0, 99, 1, 2), none, some (15, 0, 0, 0), some (40, 0, 0, 0)], [some (2, 2, 0, 0), some (13, 2, 12, 6), none, none, some (0, 100, 1, 2), none, some (15, 0, 0, 0), some (0, 1, 0, 1), some (5, 0, 1, 0), some (40, 0, 0, 0), some (2, 2, 0, 0), some (13, 2, 12, 6), none, none, some (0, 101, 1, 2), none], [some (15, 0, 0, 0), some (0, 1, 0, 1), some (5, 0, 1, 0), some (40, 0, 0, 0), some (2, 2, 0, 0), some (13, 2, 12, 6), none, none, some (0, 102, 1, 2), none, some (15, 0, 0, 0), some (40, 0, 0, 0), some (2, 2, 0, 0), some (30, 22, 214, 1), none, none], [some (40, 0, 0, 0), some (2, 0, 2, 0), some (40, 0, 0, 0), some (2, 0, 3, 0), some (40, 0, 0, 0), some (2, 2, 0, 0), some (13, 2, 12, 6), none, none, some (0, 103, 1, 2), none, some (15, 0, 0, 0), some (40, 0, 0, 0), some (0, (-1), 0, 1), some (40, 0, 0, 0)]]
def g_k213 : List (List (List Nat)) := [[[], [], [1, 1348], [], [], [], [], [], [], [], [], [], [], [], [], [33, 1354]], [[], [], [], [], [], [], [], [], [], [33, 1354], [], [], [], [], [], []], [[], [], [], [], [], [], [], [], [], [], [], [], [], [], [], []], [[], [], [], [260, 1619, 1621, 67, 119], [], [], [], [], [], [], [], [], [], [], [], []], [[], [], [], [], [], [], [], [], [], [], [], [], [], [], [], []], [[], [], [], [], [], [], [], [], [], [], [], [], [], [], [], []], [[], [], [], [], [], [], [], [], [], [], [], [], [], [], [], []], [[], [], [], [], [], [], [], [], [], [33, 1354], [], [], [], [], [], []], [[], [33, 1354], [], [], [], [], [], [], [], [], [], [33, 1354], [], [], [], []], [[], [], [], [], [], [33, 1354], [], [], [], [], [], [], [], [266, 1635, 1637, 69, 119], [], []], [[], [], [], [], [], [], [33, 1354], [], [], [], [], [], [], [], []]]
def g_m213 : MethodName × ByteArray × Nat × Option FieldType := (⟨"RideLawsModel", "now", "(I)I"⟩, prog_14_method_48_code, 5, some .int)
def g_c214 : List (List (Option (Nat × Int × Nat × Nat))) := [[some (0, 0, 0, 1), some (3, 0, 1, 0), some (0, 0, 0, 1), some (3, 0, 2, 0), some (2, 0, 2, 0), some (2, 2, 0, 0), some (13, 2, 12, 6), none, none, some (0, 3, 0, 1), some (15, 0, 0, 0), some (10, 0, 3, 33), none, none, some (2, 0, 1, 0), some (2, 2, 0, 0)], [some (13, 2, 12, 6), none, none, some (0, 166, 2, 3), none, none, some (2, 0, 2, 0), some (5, 0, 0, 0), some (15, 0, 0, 0), some (5, 0, 0, 0), some (3, 0, 1, 0), some (4, 1, 2, 0), none, none, some (11, 0, 0, 4), none], [none, some (2, 0, 1, 0), some (40, 0, 0, 0)]]
def g_k214 : List (List (List Nat)) := [[[], [], [], [], [], [], [33, 1354], [], [], [], [], [], [], [], [], []], [[33, 1354], [], [], [], [], [], [], [], [], [], [], [], [], [], [], []], [[], [], []]]
def g_m214 : MethodName × ByteArray × Nat × Option FieldType := (⟨"RideLawsModel", "saidInAll", "()I"⟩, prog_14_method_43_code, 3, some .int)
def g_c215 : List (List (Option (Nat × Int × Nat × Nat))) := [[some (2, 2, 0, 0), some (0, 0, 0, 1), some (14, 0, 12, 0), none, none, some (2, 2, 0, 0), some (2, 0, 1, 0), some (30, 22, 203, 2), none, none, some (9, 0, 0, 21), none, none, some (2, 2, 0, 0), some (2, 0, 2, 0), some (30, 22, 209, 2)], [none, none, some (9, 0, 1, 23), none, none, some (0, (-1), 0, 1), some (40, 0, 0, 0), some (2, 2, 0, 0), some (2, 0, 1, 0), some (2, 0, 2, 0), some (30, 22, 216, 3), none, none, some (3, 0, 3, 0), some (2, 0, 3, 0), some (9, 0, 5, 36)], [none, none, some (2, 0, 3, 0), some (40, 0, 0, 0), some (2, 2, 0, 0), some (30, 22, 217, 1), none, none, some (2, 2, 0, 0), some (13, 2, 12, 6), none, none, some (0, 112, 1, 2), none, some (2, 0, 1, 0), some (5, 0, 0, 0)], [some (2, 0, 2, 0), some (0, 1, 0, 1), some (5, 0, 0, 0), some (16, 0, 0, 4), some (0, 0, 0, 1), some (40, 0, 0, 0)]]
def g_k215 : List (List (List Nat)) := [[[], [], [1, 1348], [], [], [], [], [243, 1591, 1593, 62, 119], [], [], [], [], [], [], [], [257, 1615, 1617, 66, 119]], [[], [], [], [], [], [], [], [], [], [], [275, 1643, 1645, 70, 119], [], [], [], [], []], [[], [], [], [], [], [278, 1647, 1649, 71, 119], [], [], [], [33, 1354], [], [], [], [], [], []], [[], [], [], [], [], []]]
def g_m215 : MethodName × ByteArray × Nat × Option FieldType := (⟨"RideLawsModel", "mount", "(II)I"⟩, prog_14_method_57_code, 4, some .int)
def g_c216 : List (List (Option (Nat × Int × Nat × Nat))) := [[some (2, 2, 0, 0), some (13, 2, 12, 6), none, none, some (0, 112, 1, 2), none, some (2, 0, 1, 0), some (5, 0, 0, 0), some (15, 0, 0, 0), some (9, 0, 5, 16), none, none, some (0, 1, 0, 1), some (11, 0, 0, 29), none, none], [some (2, 2, 0, 0), some (2, 0, 2, 0), some (30, 22, 210, 2), none, none, some (9, 0, 2, 28), none, none, some (0, 2, 0, 1), some (11, 0, 0, 29), none, none, some (0, 0, 0, 1), some (40, 0, 0, 0)]]
def g_k216 : List (List (List Nat)) := [[[], [33, 1354], [], [], [], [], [], [], [], [], [], [], [], [], [], []], [[], [], [260, 1619, 1621, 67, 119], [], [], [], [], [], [], [], [], [], [], []]]
def g_m216 : MethodName × ByteArray × Nat × Option FieldType := (⟨"RideLawsModel", "whyMount", "(II)I"⟩, prog_14_method_49_code, 3, some .int)
def g_c217 : List (List (Option (Nat × Int × Nat × Nat))) := [[some (2, 2, 0, 0), some (13, 0, 12, 22), none, none, some (0, 8, 1, 2), none, some (10, 0, 1, 45), none, none, some (0, 0, 0, 1), some (3, 0, 1, 0), some (2, 0, 1, 0), some (0, 567, 2, 3), none, none, some (10, 0, 3, 39)], [none, none, some (2, 2, 0, 0), some (13, 2, 12, 20), none, none, some (2, 0, 1, 0), some (2, 2, 0, 0), some (13, 2, 12, 20), none, none, some (2, 0, 1, 0), some (0, 81, 1, 2), none, some (5, 0, 0, 0), some (15, 0, 0, 0)], [some (16, 0, 0, 4), some (4, 1, 1, 0), none, none, some (11, 0, 0, 11), none, none, some (2, 2, 0, 0), some (0, 7, 1, 2), none, some (14, 0, 12, 22), none, none, some (0, 0, 0, 1), some (3, 0, 1, 0), some (2, 0, 1, 0)], [some (0, 81, 1, 2), none, some (10, 0, 3, 82), none, none, some (2, 2, 0, 0), some (13, 2, 12, 20), none, none, some (0, 81, 1, 2), none, some (2, 2, 0, 0), some (13, 0, 12, 22), none, none, some (5, 0, 2, 0)], [some (2, 0, 1, 0), some (5, 0, 0, 0), some (2, 2, 0, 0), some (13, 2, 12, 6), none, none, some (0, 99, 1, 2), none, some (2, 0, 1, 0), some (5, 0, 0, 0), some (15, 0, 0, 0), some (16, 0, 0, 4), some (4, 1, 1, 0), none, none, some (11, 0, 0, 47)], [none, none, some (2, 2, 0, 0), some (8, 0, 0, 0), some (13, 0, 12, 22), none, none, some (0, 1, 0, 1), some (5, 0, 0, 0), some (14, 0, 12, 22), none, none, some (40, 0, 2, 0)]]
def g_k217 : List (List (List Nat)) := [[[], [240, 1370], [], [], [], [], [], [], [], [], [], [], [], [], [], []], [[], [], [], [50, 1368], [], [], [], [], [50, 1368], [], [], [], [], [], [], []], [[], [], [], [], [], [], [], [], [], [], [240, 1370], [], [], [], [], []], [[], [], [], [], [], [], [50, 1368], [], [], [], [], [], [240, 1370], [], [], []], [[], [], [], [33, 1354], [], [], [], [], [], [], [], [], [], [], [], []], [[], [], [], [], [240, 1370], [], [], [], [], [240, 1370], [], [], []]]
def g_m217 : MethodName × ByteArray × Nat × Option FieldType := (⟨"RideLawsModel", "keep", "()V"⟩, prog_14_method_62_code, 2, none)
def g_c218 : List (List (Option (Nat × Int × Nat × Nat))) := [[some (2, 2, 0, 0), some (0, 0, 0, 1), some (14, 0, 12, 0), none, none, some (2, 2, 0, 0), some (2, 0, 1, 0), some (30, 22, 203, 2), none, none, some (9, 0, 1, 15), none, none, some (0, (-1), 0, 1), some (40, 0, 0, 0), some (2, 2, 0, 0)], [some (13, 2, 12, 6), none, none, some (0, 112, 1, 2), none, some (2, 0, 1, 0), some (5, 0, 0, 0), some (15, 0, 0, 0), some (9, 0, 1, 29), none, none, some (0, 1, 0, 1), some (40, 0, 0, 0), some (2, 2, 0, 0), some (30, 22, 217, 1), none], [none, some (2, 2, 0, 0), some (13, 2, 12, 6), none, none, some (0, 112, 1, 2), none, some (2, 0, 1, 0), some (5, 0, 0, 0), some (0, 0, 0, 1), some (16, 0, 0, 4), some (0, 0, 0, 1), some (40, 0, 0, 0)]]
def g_k218 : List (List (List Nat)) := [[[], [], [1, 1348], [], [], [], [], [243, 1591, 1593, 62, 119], [], [], [], [], [], [], [], []], [[33, 1354], [], [], [], [], [], [], [], [], [], [], [], [], [], [278, 1647, 1649, 71, 119], []], [[], [], [33, 1354], [], [], [], [], [], [], [], [], [], []]]
def g_m218 : MethodName × ByteArray × Nat × Option FieldType := (⟨"RideLawsModel", "alight", "(I)I"⟩, prog_14_method_58_code, 2, some .int)
def g_c219 : List (List (Option (Nat × Int × Nat × Nat))) := [[some (2, 2, 0, 0), some (0, 0, 0, 1), some (14, 0, 12, 0), none, none, some (2, 2, 0, 0), some (2, 0, 1, 0), some (30, 22, 203, 2), none, none, some (9, 0, 0, 29), none, none, some (2, 0, 2, 0), some (0, 0, 0, 1), some (2, 2, 0, 0)], [some (13, 2, 12, 6), none, none, some (0, 2, 0, 1), some (15, 0, 0, 0), some (0, 1, 0, 1), some (5, 0, 1, 0), some (30, (-1), 189, 3), none, none, some (9, 0, 1, 31), none, none, some (0, (-1), 0, 1), some (40, 0, 0, 0), some (2, 2, 0, 0)], [some (2, 0, 1, 0), some (30, 22, 220, 2), none, none, some (9, 0, 5, 41), none, none, some (0, 1, 0, 1), some (40, 0, 0, 0), some (2, 2, 0, 0), some (30, 22, 217, 1), none, none, some (2, 2, 0, 0), some (2, 0, 1, 0), some (2, 0, 2, 0)], [some (30, 22, 221, 3), none, none, some (0, 0, 0, 1), some (40, 0, 0, 0)]]
def g_k219 : List (List (List Nat)) := [[[], [], [1, 1348], [], [], [], [], [243, 1591, 1593, 62, 119], [], [], [], [], [], [], [], []], [[33, 1354], [], [], [], [], [], [], [169, 1537, 1538, 119], [], [], [], [], [], [], [], []], [[], [281, 1659, 1661, 72, 119], [], [], [], [], [], [], [], [], [278, 1647, 1649, 71, 119], [], [], [], [], []], [[284, 1663, 1665, 73, 119], [], [], [], []]]
def g_m219 : MethodName × ByteArray × Nat × Option FieldType := (⟨"RideLawsModel", "learn", "(II)I"⟩, prog_14_method_59_code, 3, some .int)
def g_c220 : List (List (Option (Nat × Int × Nat × Nat))) := [[some (2, 2, 0, 0), some (13, 2, 12, 6), none, none, some (0, 118, 1, 2), none, some (2, 0, 1, 0), some (5, 0, 0, 0), some (15, 0, 0, 0), some (0, 6, 1, 2), none, some (10, 0, 1, 18), none, none, some (0, 1, 0, 1), some (11, 0, 0, 19)], [none, none, some (0, 0, 0, 1), some (40, 0, 0, 0)]]
def g_k220 : List (List (List Nat)) := [[[], [33, 1354], [], [], [], [], [], [], [], [], [], [], [], [], [], []], [[], [], [], []]]
def g_m220 : MethodName × ByteArray × Nat × Option FieldType := (⟨"RideLawsModel", "whyLearn", "(I)I"⟩, prog_14_method_50_code, 2, some .int)
def g_c221 : List (List (Option (Nat × Int × Nat × Nat))) := [[some (2, 2, 0, 0), some (13, 2, 12, 6), none, none, some (0, 124, 1, 2), none, some (0, 6, 1, 2), none, some (2, 0, 1, 0), some (5, 0, 2, 0), some (5, 0, 0, 0), some (2, 2, 0, 0), some (13, 2, 12, 6), none, none, some (0, 118, 1, 2)], [none, some (2, 0, 1, 0), some (5, 0, 0, 0), some (15, 0, 0, 0), some (5, 0, 0, 0), some (2, 0, 2, 0), some (16, 0, 0, 4), some (2, 2, 0, 0), some (13, 2, 12, 6), none, none, some (0, 118, 1, 2), none, some (2, 0, 1, 0), some (5, 0, 0, 0), some (8, 0, 2, 0)], [some (15, 0, 0, 0), some (0, 1, 0, 1), some (5, 0, 0, 0), some (16, 0, 0, 4), some (40, 0, 2, 0)]]
def g_k221 : List (List (List Nat)) := [[[], [33, 1354], [], [], [], [], [], [], [], [], [], [], [33, 1354], [], [], []], [[], [], [], [], [], [], [], [], [33, 1354], [], [], [], [], [], [], []], [[], [], [], [], []]]
def g_m221 : MethodName × ByteArray × Nat × Option FieldType := (⟨"RideLawsModel", "learns", "(II)V"⟩, prog_14_method_51_code, 3, none)
def g_c222 : List (List (Option (Nat × Int × Nat × Nat))) := [[some (2, 2, 0, 0), some (0, 0, 0, 1), some (14, 0, 12, 0), none, none, some (2, 2, 0, 0), some (30, 22, 223, 1), none, none, some (9, 0, 5, 14), none, none, some (0, 1, 0, 1), some (40, 0, 0, 0), some (2, 2, 0, 0), some (30, 22, 217, 1)], [none, none, some (2, 2, 0, 0), some (30, 22, 224, 1), none, none, some (0, 0, 0, 1), some (40, 0, 0, 0)]]
def g_k222 : List (List (List Nat)) := [[[], [], [1, 1348], [], [], [], [288, 1671, 1673, 74, 119], [], [], [], [], [], [], [], [], [278, 1647, 1649, 71, 119]], [[], [], [], [291, 1675, 1677, 75, 119], [], [], [], []]]
def g_m222 : MethodName × ByteArray × Nat × Option FieldType := (⟨"RideLawsModel", "whistle", "()I"⟩, prog_14_method_60_code, 1, some .int)
def g_c223 : List (List (Option (Nat × Int × Nat × Nat))) := [[some (2, 2, 0, 0), some (13, 2, 12, 6), none, none, some (0, 102, 1, 2), none, some (15, 0, 0, 0), some (9, 0, 1, 24), none, none, some (2, 2, 0, 0), some (13, 2, 12, 6), none, none, some (0, 100, 1, 2), none], [some (15, 0, 0, 0), some (9, 0, 1, 24), none, none, some (0, 1, 0, 1), some (11, 0, 0, 25), none, none, some (0, 0, 0, 1), some (40, 0, 0, 0)]]
def g_k223 : List (List (List Nat)) := [[[], [33, 1354], [], [], [], [], [], [], [], [], [], [33, 1354], [], [], [], []], [[], [], [], [], [], [], [], [], [], []]]
def g_m223 : MethodName × ByteArray × Nat × Option FieldType := (⟨"RideLawsModel", "whyWhistle", "()I"⟩, prog_14_method_52_code, 1, some .int)
def g_c224 : List (List (Option (Nat × Int × Nat × Nat))) := [[some (2, 2, 0, 0), some (13, 2, 12, 6), none, none, some (0, 102, 1, 2), none, some (0, 0, 0, 1), some (16, 0, 0, 4), some (2, 2, 0, 0), some (13, 2, 12, 6), none, none, some (0, 100, 1, 2), none, some (0, 0, 0, 1), some (16, 0, 0, 4)], [some (2, 2, 0, 0), some (13, 2, 12, 6), none, none, some (0, 101, 1, 2), none, some (0, 0, 0, 1), some (16, 0, 0, 4), some (2, 2, 0, 0), some (13, 2, 12, 6), none, none, some (0, 103, 1, 2), none, some (8, 0, 2, 0), some (15, 0, 0, 0)], [some (0, 1, 0, 1), some (5, 0, 0, 0), some (16, 0, 0, 4), some (0, 0, 0, 1), some (3, 0, 1, 0), some (2, 0, 1, 0), some (0, 6, 1, 2), none, some (10, 0, 3, 60), none, none, some (2, 2, 0, 0), some (13, 2, 12, 6), none, none, some (0, 160, 2, 3)], [none, none, some (2, 0, 1, 0), some (5, 0, 0, 0), some (0, 0, 0, 1), some (16, 0, 0, 4), some (4, 1, 1, 0), none, none, some (11, 0, 0, 37), none, none, some (40, 0, 2, 0)]]
def g_k224 : List (List (List Nat)) := [[[], [33, 1354], [], [], [], [], [], [], [], [33, 1354], [], [], [], [], [], []], [[], [33, 1354], [], [], [], [], [], [], [], [33, 1354], [], [], [], [], [], []], [[], [], [], [], [], [], [], [], [], [], [], [], [33, 1354], [], [], []], [[], [], [], [], [], [], [], [], [], [], [], [], []]]
def g_m224 : MethodName × ByteArray × Nat × Option FieldType := (⟨"RideLawsModel", "blows", "()V"⟩, prog_14_method_53_code, 2, none)
def g_c225 : List (List (Option (Nat × Int × Nat × Nat))) := [[some (2, 2, 0, 0), some (0, 0, 0, 1), some (14, 0, 12, 0), none, none, some (2, 0, 1, 0), some (0, 1, 0, 1), some (0, 60, 1, 2), none, some (30, (-1), 189, 3), none, none, some (9, 0, 1, 17), none, none, some (0, (-1), 0, 1)], [some (40, 0, 0, 0), some (2, 2, 0, 0), some (13, 2, 12, 6), none, none, some (0, 99, 1, 2), none, some (15, 0, 0, 0), some (0, 1000, 2, 3), none, none, some (10, 0, 1, 32), none, none, some (0, 0, 0, 1), some (40, 0, 0, 0)], [some (2, 2, 0, 0), some (30, 22, 217, 1), none, none, some (2, 2, 0, 0), some (2, 0, 1, 0), some (30, 22, 226, 2), none, none, some (40, 0, 0, 0)]]
def g_k225 : List (List (List Nat)) := [[[], [], [1, 1348], [], [], [], [], [], [], [169, 1537, 1538, 119], [], [], [], [], [], []], [[], [], [33, 1354], [], [], [], [], [], [], [], [], [], [], [], [], []], [[], [278, 1647, 1649, 71, 119], [], [], [], [], [294, 1683, 1685, 76, 119], [], [], []]]
def g_m225 : MethodName × ByteArray × Nat × Option FieldType := (⟨"RideLawsModel", "ticks", "(I)I"⟩, prog_14_method_61_code, 2, some .int)
def g_c226 : List (List (Option (Nat × Int × Nat × Nat))) := [[some (0, 0, 0, 1), some (3, 0, 2, 0), some (2, 0, 2, 0), some (2, 0, 1, 0), some (10, 0, 3, 30), none, none, some (2, 2, 0, 0), some (13, 2, 12, 6), none, none, some (0, 99, 1, 2), none, some (15, 0, 0, 0), some (0, 1000, 2, 3), none], [none, some (10, 0, 3, 30), none, none, some (2, 2, 0, 0), some (30, 22, 227, 1), none, none, some (4, 1, 2, 0), none, none, some (11, 0, 0, 2), none, none, some (2, 0, 2, 0), some (40, 0, 0, 0)]]
def g_k226 : List (List (List Nat)) := [[[], [], [], [], [], [], [], [], [33, 1354], [], [], [], [], [], [], []], [[], [], [], [], [], [272, 1687, 1689, 77, 119], [], [], [], [], [], [], [], [], [], []]]
def g_m226 : MethodName × ByteArray × Nat × Option FieldType := (⟨"RideLawsModel", "goesOn", "(I)I"⟩, prog_14_method_56_code, 3, some .int)
def g_c227 : List (List (Option (Nat × Int × Nat × Nat))) := [[some (0, 0, 0, 1), some (3, 0, 1, 0), some (2, 0, 1, 0), some (2, 2, 0, 0), some (13, 2, 12, 6), none, none, some (0, 1, 0, 1), some (15, 0, 0, 0), some (10, 0, 3, 71), none, none, some (2, 2, 0, 0), some (13, 2, 12, 6), none, none], [some (0, 104, 1, 2), none, some (2, 0, 1, 0), some (5, 0, 0, 0), some (2, 2, 0, 0), some (13, 2, 12, 6), none, none, some (0, 104, 1, 2), none, some (2, 0, 1, 0), some (5, 0, 0, 0), some (15, 0, 0, 0), some (2, 2, 0, 0), some (13, 2, 12, 6), none], [none, some (0, 8, 1, 2), none, some (2, 2, 0, 0), some (13, 2, 12, 6), none, none, some (0, 11, 1, 2), none, some (2, 0, 1, 0), some (5, 0, 0, 0), some (15, 0, 0, 0), some (5, 0, 0, 0), some (15, 0, 0, 0), some (5, 0, 0, 0), some (2, 2, 0, 0)], [some (13, 2, 12, 6), none, none, some (0, 5, 0, 1), some (2, 2, 0, 0), some (13, 2, 12, 6), none, none, some (0, 11, 1, 2), none, some (2, 0, 1, 0), some (5, 0, 0, 0), some (15, 0, 0, 0), some (5, 0, 0, 0), some (15, 0, 0, 0), some (5, 0, 10, 0)], [some (16, 0, 0, 4), some (4, 1, 1, 0), none, none, some (11, 0, 0, 2), none, none, some (0, 0, 0, 1), some (3, 0, 1, 0), some (2, 0, 1, 0), some (2, 2, 0, 0), some (13, 2, 12, 6), none, none, some (0, 1, 0, 1), some (15, 0, 0, 0)], [some (10, 0, 3, 132), none, none, some (2, 2, 0, 0), some (13, 2, 12, 6), none, none, some (0, 104, 1, 2), none, some (2, 0, 1, 0), some (5, 0, 0, 0), some (15, 0, 0, 0), some (9, 0, 1, 103), none, none, some (2, 2, 0, 0)], [some (2, 0, 1, 0), some (30, 22, 210, 2), none, none, some (11, 0, 0, 104), none, none, some (0, (-1), 0, 1), some (3, 0, 2, 0), some (2, 0, 2, 0), some (9, 0, 2, 126), none, none, some (2, 2, 0, 0), some (13, 2, 12, 6), none], [none, some (0, 118, 1, 2), none, some (2, 0, 2, 0), some (5, 0, 0, 0), some (15, 0, 0, 0), some (9, 0, 5, 126), none, none, some (2, 2, 0, 0), some (2, 0, 2, 0), some (30, 22, 228, 2), none, none, some (4, 1, 1, 0), none], [none, some (11, 0, 0, 73), none, none, some (2, 2, 0, 0), some (13, 2, 12, 6), none, none, some (0, 99, 1, 2), none, some (8, 0, 2, 0), some (15, 0, 0, 0), some (0, 1, 0, 1), some (5, 0, 0, 0), some (16, 0, 0, 4), some (40, 0, 2, 0)]]
def g_k227 : List (List (List Nat)) := [[[], [], [], [], [33, 1354], [], [], [], [], [], [], [], [], [33, 1354], [], []], [[], [], [], [], [], [33, 1354], [], [], [], [], [], [], [], [], [33, 1354], []], [[], [], [], [], [33, 1354], [], [], [], [], [], [], [], [], [], [], []], [[33, 1354], [], [], [], [], [33, 1354], [], [], [], [], [], [], [], [], [], []], [[], [], [], [], [], [], [], [], [], [], [], [33, 1354], [], [], [], []], [[], [], [], [], [33, 1354], [], [], [], [], [], [], [], [], [], [], []], [[], [260, 1619, 1621, 67, 119], [], [], [], [], [], [], [], [], [], [], [], [], [33, 1354], []], [[], [], [], [], [], [], [], [], [], [], [], [269, 1691, 1693, 78, 119], [], [], [], []], [[], [], [], [], [], [33, 1354], [], [], [], [], [], [], [], [], [], []]]
def g_m227 : MethodName × ByteArray × Nat × Option FieldType := (⟨"RideLawsModel", "tick", "()V"⟩, prog_14_method_55_code, 3, none)
def g_c228 : List (List (Option (Nat × Int × Nat × Nat))) := [[some (2, 2, 0, 0), some (2, 0, 1, 0), some (30, 22, 205, 2), none, none, some (3, 0, 2, 0), some (0, 0, 0, 1), some (3, 0, 3, 0), some (2, 0, 3, 0), some (2, 2, 0, 0), some (13, 2, 12, 6), none, none, some (0, 4, 0, 1), some (15, 0, 0, 0), some (10, 0, 3, 105)], [none, none, some (2, 2, 0, 0), some (13, 2, 12, 6), none, none, some (0, 100, 1, 2), none, some (15, 0, 0, 0), some (2, 2, 0, 0), some (13, 2, 12, 6), none, none, some (0, 75, 1, 2), none, some (2, 0, 3, 0)], [some (5, 0, 0, 0), some (15, 0, 0, 0), some (0, 1, 0, 1), some (5, 0, 0, 0), some (10, 0, 1, 99), none, none, some (2, 2, 0, 0), some (13, 2, 12, 6), none, none, some (0, 83, 1, 2), none, some (2, 0, 3, 0), some (5, 0, 0, 0), some (15, 0, 0, 0)], [some (2, 0, 2, 0), some (10, 0, 0, 55), none, none, some (11, 0, 0, 99), none, none, some (2, 2, 0, 0), some (13, 2, 12, 6), none, none, some (0, 102, 1, 2), none, some (2, 2, 0, 0), some (13, 2, 12, 6), none], [none, some (0, 102, 1, 2), none, some (15, 0, 0, 0), some (0, 1, 0, 1), some (2, 0, 3, 0), some (5, 0, 6, 0), some (5, 0, 4, 0), some (2, 2, 0, 0), some (13, 2, 12, 6), none, none, some (0, 91, 1, 2), none, some (2, 0, 3, 0), some (5, 0, 0, 0)], [some (15, 0, 0, 0), some (0, (-1), 0, 1), some (5, 0, 5, 0), some (5, 0, 3, 0), some (16, 0, 0, 4), some (2, 2, 0, 0), some (13, 2, 12, 6), none, none, some (0, 172, 2, 3), none, none, some (2, 0, 3, 0), some (5, 0, 0, 0), some (8, 0, 2, 0), some (15, 0, 0, 0)], [some (0, 1, 0, 1), some (5, 0, 0, 0), some (16, 0, 0, 4), some (4, 1, 3, 0), none, none, some (11, 0, 0, 8), none, none, some (2, 2, 0, 0), some (13, 2, 12, 6), none, none, some (0, 100, 1, 2), none, some (2, 0, 2, 0)], [some (0, 1, 0, 1), some (5, 0, 0, 0), some (16, 0, 0, 4), some (2, 2, 0, 0), some (13, 2, 12, 6), none, none, some (0, 101, 1, 2), none, some (2, 0, 1, 0), some (0, 1, 0, 1), some (5, 0, 0, 0), some (16, 0, 0, 4), some (2, 2, 0, 0), some (13, 2, 12, 6), none], [none, some (0, 166, 2, 3), none, none, some (2, 0, 1, 0), some (5, 0, 0, 0), some (8, 0, 2, 0), some (15, 0, 0, 0), some (0, 1, 0, 1), some (5, 0, 0, 0), some (16, 0, 0, 4), some (2, 2, 0, 0), some (13, 2, 12, 6), none, none, some (0, 160, 2, 3)], [none, none, some (2, 0, 1, 0), some (5, 0, 0, 0), some (2, 2, 0, 0), some (13, 2, 12, 6), none, none, some (0, 160, 2, 3), none, none, some (2, 0, 1, 0), some (5, 0, 0, 0), some (15, 0, 0, 0), some (0, 1, 0, 1), some (5, 0, 0, 0)], [some (2, 2, 0, 0), some (13, 2, 12, 6), none, none, some (0, 118, 1, 2), none, some (2, 0, 1, 0), some (5, 0, 0, 0), some (15, 0, 0, 0), some (5, 0, 10, 0), some (16, 0, 0, 4), some (40, 0, 2, 0)]]
def g_k228 : List (List (List Nat)) := [[[], [], [250, 1599, 1601, 64, 119], [], [], [], [], [], [], [], [33, 1354], [], [], [], [], []], [[], [], [], [33, 1354], [], [], [], [], [], [], [33, 1354], [], [], [], [], []], [[], [], [], [], [], [], [], [], [33, 1354], [], [], [], [], [], [], []], [[], [], [], [], [], [], [], [], [33, 1354], [], [], [], [], [], [33, 1354], []], [[], [], [], [], [], [], [], [], [], [33, 1354], [], [], [], [], [], []], [[], [], [], [], [], [], [33, 1354], [], [], [], [], [], [], [], [], []], [[], [], [], [], [], [], [], [], [], [], [33, 1354], [], [], [], [], []], [[], [], [], [], [33, 1354], [], [], [], [], [], [], [], [], [], [33, 1354], []], [[], [], [], [], [], [], [], [], [], [], [], [], [33, 1354], [], [], []], [[], [], [], [], [], [33, 1354], [], [], [], [], [], [], [], [], [], []], [[], [33, 1354], [], [], [], [], [], [], [], [], [], []]]
def g_m228 : MethodName × ByteArray × Nat × Option FieldType := (⟨"RideLawsModel", "saysOne", "(I)V"⟩, prog_14_method_54_code, 4, none)
def g_c229 : List (List (Option (Nat × Int × Nat × Nat))) := [[some (2, 2, 0, 0), some (0, 0, 0, 1), some (14, 0, 12, 0), none, none, some (2, 2, 0, 0), some (13, 0, 12, 22), none, none, some (9, 0, 1, 14), none, none, some (0, (-1), 0, 1), some (40, 0, 0, 0), some (2, 2, 0, 0), some (8, 0, 0, 0)], [some (13, 0, 12, 22), none, none, some (0, 1, 0, 1), some (5, 0, 1, 0), some (14, 0, 12, 22), none, none, some (0, 0, 0, 1), some (3, 0, 1, 0), some (2, 0, 1, 0), some (0, 81, 1, 2), none, some (10, 0, 3, 61), none, none], [some (2, 2, 0, 0), some (13, 2, 12, 6), none, none, some (0, 99, 1, 2), none, some (2, 0, 1, 0), some (5, 0, 0, 0), some (2, 2, 0, 0), some (13, 2, 12, 20), none, none, some (0, 81, 1, 2), none, some (2, 2, 0, 0), some (13, 0, 12, 22)], [none, none, some (5, 0, 2, 0), some (2, 0, 1, 0), some (5, 0, 0, 0), some (15, 0, 0, 0), some (16, 0, 0, 4), some (4, 1, 1, 0), none, none, some (11, 0, 0, 26), none, none, some (2, 2, 0, 0), some (13, 0, 12, 22), none], [none, some (40, 0, 0, 0)]]
def g_k229 : List (List (List Nat)) := [[[], [], [1, 1348], [], [], [], [240, 1370], [], [], [], [], [], [], [], [], []], [[240, 1370], [], [], [], [], [240, 1370], [], [], [], [], [], [], [], [], [], []], [[], [33, 1354], [], [], [], [], [], [], [], [50, 1368], [], [], [], [], [], [240, 1370]], [[], [], [], [], [], [], [], [], [], [], [], [], [], [], [240, 1370], []], [[], []]]
def g_m229 : MethodName × ByteArray × Nat × Option FieldType := (⟨"RideLawsModel", "undo", "()I"⟩, prog_14_method_63_code, 2, some .int)
def g_c230 : List (List (Option (Nat × Int × Nat × Nat))) := [[some (2, 2, 0, 0), some (0, 0, 0, 1), some (14, 0, 12, 0), none, none, some (2, 2, 0, 0), some (2, 0, 1, 0), some (30, 22, 209, 2), none, none, some (9, 0, 1, 15), none, none, some (0, (-1), 0, 1), some (40, 0, 0, 0), some (0, 0, 0, 1)], [some (3, 0, 2, 0), some (2, 0, 2, 0), some (0, 30, 1, 2), none, some (10, 0, 3, 40), none, none, some (2, 2, 0, 0), some (2, 0, 1, 0), some (2, 0, 2, 0), some (30, 22, 231, 3), none, none, some (9, 0, 1, 34), none, none], [some (2, 0, 2, 0), some (40, 0, 0, 0), some (4, 1, 2, 0), none, none, some (11, 0, 0, 17), none, none, some (0, (-1), 0, 1), some (40, 0, 0, 0)]]
def g_k230 : List (List (List Nat)) := [[[], [], [1, 1348], [], [], [], [], [257, 1615, 1617, 66, 119], [], [], [], [], [], [], [], []], [[], [], [], [], [], [], [], [], [], [], [297, 1703, 1705, 79, 119], [], [], [], [], []], [[], [], [], [], [], [], [], [], [], []]]
def g_m230 : MethodName × ByteArray × Nat × Option FieldType := (⟨"RideLawsModel", "comes", "(I)I"⟩, prog_14_method_67_code, 3, some .int)
def g_c231 : List (List (Option (Nat × Int × Nat × Nat))) := [[some (2, 2, 0, 0), some (13, 2, 12, 6), none, none, some (0, 104, 1, 2), none, some (2, 0, 1, 0), some (5, 0, 0, 0), some (15, 0, 0, 0), some (2, 0, 2, 0), some (2, 2, 0, 0), some (13, 2, 12, 6), none, none, some (0, 8, 1, 2), none], [some (2, 2, 0, 0), some (13, 2, 12, 6), none, none, some (0, 11, 1, 2), none, some (2, 0, 1, 0), some (5, 0, 0, 0), some (15, 0, 0, 0), some (5, 0, 0, 0), some (15, 0, 0, 0), some (5, 0, 2, 0), some (5, 0, 0, 0), some (2, 2, 0, 0), some (13, 2, 12, 6), none], [none, some (0, 5, 0, 1), some (2, 2, 0, 0), some (13, 2, 12, 6), none, none, some (0, 11, 1, 2), none, some (2, 0, 1, 0), some (5, 0, 0, 0), some (15, 0, 0, 0), some (5, 0, 0, 0), some (15, 0, 0, 0), some (5, 0, 10, 0), some (40, 0, 0, 0)]]
def g_k231 : List (List (List Nat)) := [[[], [33, 1354], [], [], [], [], [], [], [], [], [], [33, 1354], [], [], [], []], [[], [33, 1354], [], [], [], [], [], [], [], [], [], [], [], [], [33, 1354], []], [[], [], [], [33, 1354], [], [], [], [], [], [], [], [], [], [], []]]
def g_m231 : MethodName × ByteArray × Nat × Option FieldType := (⟨"RideLawsModel", "stepIn", "(II)I"⟩, prog_14_method_66_code, 3, some .int)
def g_c232 : List (List (Option (Nat × Int × Nat × Nat))) := [[some (2, 2, 0, 0), some (0, 0, 0, 1), some (14, 0, 12, 0), none, none, some (2, 2, 0, 0), some (2, 0, 1, 0), some (30, 22, 209, 2), none, none, some (9, 0, 0, 26), none, none, some (2, 2, 0, 0), some (2, 0, 2, 0), some (30, 22, 209, 2)], [none, none, some (9, 0, 0, 26), none, none, some (2, 0, 1, 0), some (2, 0, 2, 0), some (10, 0, 1, 28), none, none, some (0, (-1), 0, 1), some (40, 0, 0, 0), some (0, 0, 0, 1), some (3, 0, 3, 0), some (2, 0, 3, 0), some (0, 900, 2, 3)], [none, none, some (10, 0, 3, 63), none, none, some (2, 2, 0, 0), some (2, 0, 1, 0), some (2, 0, 3, 0), some (30, 22, 231, 3), none, none, some (9, 0, 1, 57), none, none, some (2, 2, 0, 0), some (2, 0, 2, 0)], [some (2, 0, 3, 0), some (30, 22, 231, 3), none, none, some (9, 0, 1, 57), none, none, some (2, 0, 3, 0), some (40, 0, 0, 0), some (4, 1, 3, 0), none, none, some (11, 0, 0, 30), none, none, some (0, (-1), 0, 1)], [some (40, 0, 0, 0)]]
def g_k232 : List (List (List Nat)) := [[[], [], [1, 1348], [], [], [], [], [257, 1615, 1617, 66, 119], [], [], [], [], [], [], [], [257, 1615, 1617, 66, 119]], [[], [], [], [], [], [], [], [], [], [], [], [], [], [], [], []], [[], [], [], [], [], [], [], [], [297, 1703, 1705, 79, 119], [], [], [], [], [], [], []], [[], [297, 1703, 1705, 79, 119], [], [], [], [], [], [], [], [], [], [], [], [], [], []], [[]]]
def g_m232 : MethodName × ByteArray × Nat × Option FieldType := (⟨"RideLawsModel", "both", "(II)I"⟩, prog_14_method_68_code, 4, some .int)
def g_c233 : List (List (Option (Nat × Int × Nat × Nat))) := [[some (2, 2, 0, 0), some (0, 0, 0, 1), some (14, 0, 12, 0), none, none, some (2, 2, 0, 0), some (2, 0, 1, 0), some (30, 22, 212, 2), none, none, some (9, 0, 1, 15), none, none, some (0, (-1), 0, 1), some (40, 0, 0, 0), some (2, 2, 0, 0)], [some (30, 22, 234, 1), none, none, some (2, 2, 0, 0), some (2, 0, 1, 0), some (0, 0, 0, 1), some (0, 300, 2, 3), none, none, some (30, 22, 235, 4), none, none, some (40, 0, 0, 0)]]
def g_k233 : List (List (List Nat)) := [[[], [], [1, 1348], [], [], [], [], [263, 1627, 1629, 68, 119], [], [], [], [], [], [], [], []], [[303, 1715, 1717, 80, 119], [], [], [], [], [], [], [], [], [306, 1719, 1721, 81, 119], [], [], []]]
def g_m233 : MethodName × ByteArray × Nat × Option FieldType := (⟨"RideLawsModel", "holds", "(I)I"⟩, prog_14_method_70_code, 2, some .int)
def g_c234 : List (List (Option (Nat × Int × Nat × Nat))) := [[some (0, 0, 0, 1), some (3, 0, 1, 0), some (2, 0, 1, 0), some (0, 81, 1, 2), none, some (10, 0, 3, 29), none, none, some (2, 2, 0, 0), some (13, 2, 12, 21), none, none, some (2, 0, 1, 0), some (2, 2, 0, 0), some (13, 2, 12, 6), none], [none, some (0, 99, 1, 2), none, some (2, 0, 1, 0), some (5, 0, 0, 0), some (15, 0, 0, 0), some (16, 0, 0, 4), some (4, 1, 1, 0), none, none, some (11, 0, 0, 2), none, none, some (40, 0, 2, 0)]]
def g_k234 : List (List (List Nat)) := [[[], [], [], [], [], [], [], [], [], [53, 1369], [], [], [], [], [33, 1354], []], [[], [], [], [], [], [], [], [], [], [], [], [], [], []]]
def g_m234 : MethodName × ByteArray × Nat × Option FieldType := (⟨"RideLawsModel", "tries", "()V"⟩, prog_14_method_64_code, 2, none)
def g_c235 : List (List (Option (Nat × Int × Nat × Nat))) := [[some (2, 0, 2, 0), some (9, 0, 1, 22), none, none, some (2, 2, 0, 0), some (13, 2, 12, 6), none, none, some (0, 102, 1, 2), none, some (15, 0, 0, 0), some (2, 0, 1, 0), some (30, (-1), 198, 2), none, none, some (9, 0, 0, 22)], [none, none, some (0, 0, 0, 1), some (11, 0, 0, 23), none, none, some (0, (-1), 0, 1), some (3, 0, 4, 1), none, some (0, 1, 0, 1), some (3, 0, 5, 1), none, some (2, 0, 5, 1), none, some (2, 0, 3, 0), some (10, 0, 4, 67)], [none, none, some (2, 0, 4, 1), none, some (9, 0, 3, 67), none, none, some (2, 2, 0, 0), some (30, 22, 227, 1), none, none, some (2, 2, 0, 0), some (13, 2, 12, 6), none, none, some (0, 102, 1, 2)], [none, some (15, 0, 0, 0), some (2, 0, 1, 0), some (30, (-1), 198, 2), none, none, some (9, 0, 0, 61), none, none, some (2, 0, 5, 1), none, some (3, 0, 4, 1), none, some (4, 1, 5, 0), none, none], [some (11, 0, 0, 28), none, none, some (2, 2, 0, 0), some (30, 22, 236, 1), none, none, some (2, 0, 4, 1), none, some (40, 0, 0, 0)]]
def g_k235 : List (List (List Nat)) := [[[], [], [], [], [], [33, 1354], [], [], [], [], [], [], [225, 1572, 1573, 119], [], [], []], [[], [], [], [], [], [], [], [], [], [], [], [], [], [], [], []], [[], [], [], [], [], [], [], [], [272, 1687, 1689, 77, 119], [], [], [], [33, 1354], [], [], []], [[], [], [], [225, 1572, 1573, 119], [], [], [], [], [], [], [], [], [], [], [], []], [[], [], [], [], [300, 1723, 1725, 82, 119], [], [], [], [], []]]
def g_m235 : MethodName × ByteArray × Nat × Option FieldType := (⟨"RideLawsModel", "holdsIn", "(III)I"⟩, prog_14_method_69_code, 6, some .int)
def g_c236 : List (List (Option (Nat × Int × Nat × Nat))) := [[some (0, 0, 0, 1), some (3, 0, 1, 0), some (2, 0, 1, 0), some (0, 81, 1, 2), none, some (10, 0, 3, 29), none, none, some (2, 2, 0, 0), some (13, 2, 12, 6), none, none, some (0, 99, 1, 2), none, some (2, 0, 1, 0), some (5, 0, 0, 0)], [some (2, 2, 0, 0), some (13, 2, 12, 21), none, none, some (2, 0, 1, 0), some (15, 0, 0, 0), some (16, 0, 0, 4), some (4, 1, 1, 0), none, none, some (11, 0, 0, 2), none, none, some (40, 0, 2, 0)]]
def g_k236 : List (List (List Nat)) := [[[], [], [], [], [], [], [], [], [], [33, 1354], [], [], [], [], [], []], [[], [53, 1369], [], [], [], [], [], [], [], [], [], [], [], []]]
def g_m236 : MethodName × ByteArray × Nat × Option FieldType := (⟨"RideLawsModel", "back", "()V"⟩, prog_14_method_65_code, 2, none)
def g_c237 : List (List (Option (Nat × Int × Nat × Nat))) := [[some (2, 2, 0, 0), some (0, 0, 0, 1), some (14, 0, 12, 0), none, none, some (2, 2, 0, 0), some (2, 0, 1, 0), some (30, 22, 212, 2), none, none, some (9, 0, 0, 23), none, none, some (2, 0, 2, 0), some (0, 1, 0, 1), some (0, 99, 1, 2)], [none, some (30, (-1), 189, 3), none, none, some (9, 0, 1, 25), none, none, some (0, (-1), 0, 1), some (40, 0, 0, 0), some (2, 2, 0, 0), some (30, 22, 234, 1), none, none, some (0, 0, 0, 1), some (3, 0, 3, 0), some (2, 0, 3, 0)], [some (2, 2, 0, 0), some (13, 2, 12, 6), none, none, some (0, 3, 0, 1), some (15, 0, 0, 0), some (10, 0, 3, 119), none, none, some (0, 0, 0, 1), some (3, 0, 4, 1), none, some (2, 0, 4, 1), none, some (2, 2, 0, 0), some (13, 2, 12, 6)], [none, none, some (0, 1, 0, 1), some (15, 0, 0, 0), some (10, 0, 3, 113), none, none, some (2, 2, 0, 0), some (2, 0, 3, 0), some (2, 0, 4, 1), none, some (30, 22, 216, 3), none, none, some (9, 0, 5, 68), none], [none, some (11, 0, 0, 107), none, none, some (2, 2, 0, 0), some (13, 2, 12, 6), none, none, some (0, 112, 1, 2), none, some (2, 0, 3, 0), some (5, 0, 0, 0), some (2, 0, 4, 1), none, some (0, 1, 0, 1), some (5, 0, 0, 0)], [some (16, 0, 0, 4), some (2, 2, 0, 0), some (2, 0, 1, 0), some (0, 1, 0, 1), some (2, 0, 2, 0), some (30, 22, 235, 4), none, none, some (9, 0, 3, 94), none, none, some (11, 0, 0, 107), none, none, some (2, 2, 0, 0), some (0, 1, 0, 1)], [some (14, 3, 12, 24), none, none, some (2, 2, 0, 0), some (2, 0, 4, 1), none, some (14, 0, 12, 23), none, none, some (2, 0, 3, 0), some (40, 0, 0, 0), some (4, 1, 4, 0), none, none, some (11, 0, 0, 44), none], [none, some (4, 1, 3, 0), none, none, some (11, 0, 0, 31), none, none, some (0, (-1), 0, 1), some (40, 0, 0, 0)]]
def g_k237 : List (List (List Nat)) := [[[], [], [1, 1348], [], [], [], [], [263, 1627, 1629, 68, 119], [], [], [], [], [], [], [], []], [[], [169, 1537, 1538, 119], [], [], [], [], [], [], [], [], [303, 1715, 1717, 80, 119], [], [], [], [], []], [[], [33, 1354], [], [], [], [], [], [], [], [], [], [], [], [], [], [33, 1354]], [[], [], [], [], [], [], [], [], [], [], [], [275, 1643, 1645, 70, 119], [], [], [], []], [[], [], [], [], [], [33, 1354], [], [], [], [], [], [], [], [], [], []], [[], [], [], [], [], [306, 1719, 1721, 81, 119], [], [], [], [], [], [], [], [], [], []], [[310, 1372], [], [], [], [], [], [314, 1371], [], [], [], [], [], [], [], [], []], [[], [], [], [], [], [], [], [], []]]
def g_m237 : MethodName × ByteArray × Nat × Option FieldType := (⟨"RideLawsModel", "aim", "(II)I"⟩, prog_14_method_71_code, 5, some .int)
def g_c238 : List (List (Option (Nat × Int × Nat × Nat))) := [[some (2, 2, 0, 0), some (0, 0, 0, 1), some (14, 0, 12, 0), none, none, some (2, 2, 0, 0), some (13, 3, 12, 24), none, none, some (9, 0, 0, 19), none, none, some (2, 2, 0, 0), some (13, 0, 12, 23), none, none], [some (11, 0, 0, 20), none, none, some (0, (-1), 0, 1), some (40, 0, 0, 0)]]
def g_k238 : List (List (List Nat)) := [[[], [], [1, 1348], [], [], [], [310, 1372], [], [], [], [], [], [], [314, 1371], [], []], [[], [], [], [], []]]
def g_m238 : MethodName × ByteArray × Nat × Option FieldType := (⟨"RideLawsModel", "aimSeat", "()I"⟩, prog_14_method_72_code, 1, some .int)
def g_c239 : List (List (Option (Nat × Int × Nat × Nat))) := [[some (2, 2, 0, 0), some (0, 0, 0, 1), some (14, 0, 12, 0), none, none, some (0, 0, 0, 1), some (3, 0, 1, 0), some (0, 0, 0, 1), some (3, 0, 2, 0), some (2, 0, 2, 0), some (2, 2, 0, 0), some (13, 2, 12, 6), none, none, some (0, 3, 0, 1), some (15, 0, 0, 0)], [some (10, 0, 3, 59), none, none, some (2, 0, 1, 0), some (2, 2, 0, 0), some (13, 2, 12, 6), none, none, some (0, 112, 1, 2), none, some (2, 0, 2, 0), some (5, 0, 0, 0), some (15, 0, 0, 0), some (9, 0, 5, 50), none, none], [some (2, 2, 0, 0), some (13, 2, 12, 6), none, none, some (0, 118, 1, 2), none, some (2, 0, 2, 0), some (5, 0, 0, 0), some (15, 0, 0, 0), some (9, 0, 5, 50), none, none, some (0, 1, 0, 1), some (2, 0, 2, 0), some (5, 0, 6, 0), some (11, 0, 0, 51)], [none, none, some (0, 0, 0, 1), some (5, 0, 4, 0), some (3, 0, 1, 0), some (4, 1, 2, 0), none, none, some (11, 0, 0, 9), none, none, some (2, 2, 0, 0), some (30, 22, 234, 1), none, none, some (2, 0, 1, 0)], [some (9, 0, 1, 71), none, none, some (0, 0, 0, 1), some (11, 0, 0, 72), none, none, some (0, (-1), 0, 1), some (3, 0, 2, 0), some (0, 1, 0, 1), some (3, 0, 3, 0), some (2, 0, 3, 0), some (0, 300, 2, 3), none, none, some (10, 0, 4, 155)], [none, none, some (2, 0, 2, 0), some (9, 0, 3, 155), none, none, some (2, 2, 0, 0), some (30, 22, 227, 1), none, none, some (0, 0, 0, 1), some (3, 0, 4, 1), none, some (2, 0, 4, 1), none, some (2, 2, 0, 0)], [some (13, 2, 12, 6), none, none, some (0, 3, 0, 1), some (15, 0, 0, 0), some (10, 0, 3, 143), none, none, some (2, 2, 0, 0), some (13, 2, 12, 6), none, none, some (0, 166, 2, 3), none, none, some (2, 0, 4, 1)], [none, some (5, 0, 0, 0), some (15, 0, 0, 0), some (2, 2, 0, 0), some (13, 2, 12, 21), none, none, some (0, 67, 1, 2), none, some (2, 0, 4, 1), none, some (5, 0, 0, 0), some (15, 0, 0, 0), some (10, 0, 5, 137), none, none], [some (2, 0, 1, 0), some (0, 1, 0, 1), some (2, 0, 4, 1), none, some (5, 0, 6, 0), some (0, (-1), 0, 1), some (5, 0, 5, 0), some (5, 0, 3, 0), some (3, 0, 1, 0), some (4, 1, 4, 0), none, none, some (11, 0, 0, 93), none, none, some (2, 0, 1, 0)], [some (9, 0, 1, 149), none, none, some (2, 0, 3, 0), some (3, 0, 2, 0), some (4, 1, 3, 0), none, none, some (11, 0, 0, 75), none, none, some (2, 2, 0, 0), some (30, 22, 236, 1), none, none, some (2, 0, 2, 0)], [some (40, 0, 0, 0)]]
def g_k239 : List (List (List Nat)) := [[[], [], [1, 1348], [], [], [], [], [], [], [], [], [33, 1354], [], [], [], []], [[], [], [], [], [], [33, 1354], [], [], [], [], [], [], [], [], [], []], [[], [33, 1354], [], [], [], [], [], [], [], [], [], [], [], [], [], []], [[], [], [], [], [], [], [], [], [], [], [], [], [303, 1715, 1717, 80, 119], [], [], []], [[], [], [], [], [], [], [], [], [], [], [], [], [], [], [], []], [[], [], [], [], [], [], [], [272, 1687, 1689, 77, 119], [], [], [], [], [], [], [], []], [[33, 1354], [], [], [], [], [], [], [], [], [33, 1354], [], [], [], [], [], []], [[], [], [], [], [53, 1369], [], [], [], [], [], [], [], [], [], [], []], [[], [], [], [], [], [], [], [], [], [], [], [], [], [], [], []], [[], [], [], [], [], [], [], [], [], [], [], [], [300, 1723, 1725, 82, 119], [], [], []], [[]]]
def g_m239 : MethodName × ByteArray × Nat × Option FieldType := (⟨"RideLawsModel", "all", "()I"⟩, prog_14_method_73_code, 5, some .int)
def g_c240 : List (List (Option (Nat × Int × Nat × Nat))) := [[some (2, 2, 0, 0), some (0, 0, 0, 1), some (14, 0, 12, 0), none, none, some (2, 2, 0, 0), some (2, 0, 1, 0), some (30, 22, 212, 2), none, none, some (9, 0, 1, 15), none, none, some (0, (-1), 0, 1), some (40, 0, 0, 0), some (0, 0, 0, 1)], [some (3, 0, 2, 0), some (0, 0, 0, 1), some (3, 0, 3, 0), some (2, 0, 3, 0), some (2, 2, 0, 0), some (13, 2, 12, 6), none, none, some (0, 3, 0, 1), some (15, 0, 0, 0), some (10, 0, 3, 59), none, none, some (2, 0, 2, 0), some (2, 2, 0, 0), some (2, 0, 3, 0)], [some (30, 22, 206, 2), none, none, some (2, 2, 0, 0), some (2, 0, 1, 0), some (30, 22, 241, 2), none, none, some (5, 0, 3, 0), some (9, 0, 0, 50), none, none, some (0, 1, 0, 1), some (2, 0, 3, 0), some (5, 0, 6, 0), some (11, 0, 0, 51)], [none, none, some (0, 0, 0, 1), some (5, 0, 4, 0), some (3, 0, 2, 0), some (4, 1, 3, 0), none, none, some (11, 0, 0, 19), none, none, some (2, 0, 2, 0), some (40, 0, 0, 0)]]
def g_k240 : List (List (List Nat)) := [[[], [], [1, 1348], [], [], [], [], [263, 1627, 1629, 68, 119], [], [], [], [], [], [], [], []], [[], [], [], [], [], [33, 1354], [], [], [], [], [], [], [], [], [], []], [[254, 1603, 1605, 65, 119], [], [], [], [], [317, 1743, 1745, 83, 119], [], [], [], [], [], [], [], [], [], []], [[], [], [], [], [], [], [], [], [], [], [], [], []]]
def g_m240 : MethodName × ByteArray × Nat × Option FieldType := (⟨"RideLawsModel", "able", "(I)I"⟩, prog_14_method_75_code, 4, some .int)
def g_c241 : List (List (Option (Nat × Int × Nat × Nat))) := [[some (0, 1, 0, 1), some (2, 2, 0, 0), some (13, 2, 12, 6), none, none, some (0, 75, 1, 2), none, some (2, 0, 1, 0), some (5, 0, 0, 0), some (15, 0, 0, 0), some (5, 0, 6, 0), some (0, 1, 0, 1), some (2, 2, 0, 0), some (13, 2, 12, 6), none, none], [some (0, 83, 1, 2), none, some (2, 0, 1, 0), some (5, 0, 0, 0), some (15, 0, 0, 0), some (5, 0, 6, 0), some (5, 0, 4, 0), some (40, 0, 0, 0)]]
def g_k241 : List (List (List Nat)) := [[[], [], [33, 1354], [], [], [], [], [], [], [], [], [], [], [33, 1354], [], []], [[], [], [], [], [], [], [], []]]
def g_m241 : MethodName × ByteArray × Nat × Option FieldType := (⟨"RideLawsModel", "needOf", "(I)I"⟩, prog_14_method_74_code, 2, some .int)
def g_c242 : List (List (Option (Nat × Int × Nat × Nat))) := [[some (2, 2, 0, 0), some (2, 2, 0, 0), some (2, 0, 1, 0), some (30, 22, 203, 2), none, none, some (9, 0, 0, 26), none, none, some (2, 2, 0, 0), some (2, 0, 2, 0), some (30, 22, 212, 2), none, none, some (9, 0, 0, 26), none], [none, some (2, 0, 3, 0), some (0, 0, 0, 1), some (0, 1, 0, 1), some (30, (-1), 189, 3), none, none, some (9, 0, 1, 30), none, none, some (0, 1, 0, 1), some (11, 0, 0, 31), none, none, some (0, 0, 0, 1), some (30, 22, 204, 2)], [none, none, some (9, 0, 0, 39), none, none, some (0, 0, 0, 1), some (40, 0, 0, 0), some (0, 0, 0, 1), some (3, 0, 4, 1), none, some (0, 0, 0, 1), some (3, 0, 5, 1), none, some (0, 0, 0, 1), some (3, 0, 6, 1), none], [some (2, 0, 6, 1), none, some (0, 1, 0, 1), some (2, 2, 0, 0), some (13, 2, 12, 6), none, none, some (0, 3, 0, 1), some (15, 0, 0, 0), some (5, 0, 6, 0), some (10, 0, 3, 123), none, none, some (2, 0, 6, 1), none, some (2, 0, 1, 0)], [some (30, (-1), 198, 2), none, none, some (9, 0, 0, 73), none, none, some (11, 0, 0, 117), none, none, some (4, 1, 4, 0), none, none, some (2, 2, 0, 0), some (2, 0, 2, 0), some (30, 22, 241, 2), none], [none, some (2, 2, 0, 0), some (2, 0, 6, 1), none, some (30, 22, 243, 2), none, none, some (0, (-1), 0, 1), some (5, 0, 5, 0), some (5, 0, 3, 0), some (9, 0, 0, 117), none, none, some (2, 2, 0, 0), some (2, 0, 2, 0), some (30, 22, 241, 2)], [none, none, some (2, 2, 0, 0), some (2, 0, 6, 1), none, some (0, 1, 0, 1), some (2, 0, 1, 0), some (5, 0, 6, 0), some (5, 0, 4, 0), some (30, 22, 243, 2), none, none, some (0, (-1), 0, 1), some (5, 0, 5, 0), some (5, 0, 3, 0), some (9, 0, 1, 117)], [none, none, some (4, 1, 5, 0), none, none, some (4, 1, 6, 0), none, none, some (11, 0, 0, 48), none, none, some (2, 0, 3, 0), some (9, 0, 1, 132), none, none, some (2, 0, 5, 1)], [none, some (11, 0, 0, 134), none, none, some (2, 0, 4, 1), none, some (2, 0, 4, 1), none, some (2, 0, 5, 1), none, some (30, (-1), 244, 2), none, none, some (5, 0, 9, 0), some (40, 0, 0, 0)]]
def g_k242 : List (List (List Nat)) := [[[], [], [], [243, 1591, 1593, 62, 119], [], [], [], [], [], [], [], [263, 1627, 1629, 68, 119], [], [], [], []], [[], [], [], [], [169, 1537, 1538, 119], [], [], [], [], [], [], [], [], [], [], [246, 1595, 1597, 63, 119]], [[], [], [], [], [], [], [], [], [], [], [], [], [], [], [], []], [[], [], [], [], [33, 1354], [], [], [], [], [], [], [], [], [], [], []], [[225, 1572, 1573, 119], [], [], [], [], [], [], [], [], [], [], [], [], [], [317, 1743, 1745, 83, 119], []], [[], [], [], [], [320, 1751, 1753, 84, 119], [], [], [], [], [], [], [], [], [], [], [317, 1743, 1745, 83, 119]], [[], [], [], [], [], [], [], [], [], [320, 1751, 1753, 84, 119], [], [], [], [], [], []], [[], [], [], [], [], [], [], [], [], [], [], [], [], [], [], []], [[], [], [], [], [], [], [], [], [], [], [323, 1755, 1756, 119], [], [], [], []]]
def g_m242 : MethodName × ByteArray × Nat × Option FieldType := (⟨"RideLawsModel", "power", "(III)I"⟩, prog_14_method_78_code, 7, some .int)
def g_c243 : List (List (Option (Nat × Int × Nat × Nat))) := [[some (0, 0, 0, 1), some (3, 0, 2, 0), some (0, 0, 0, 1), some (3, 0, 3, 0), some (2, 0, 3, 0), some (2, 2, 0, 0), some (13, 2, 12, 6), none, none, some (0, 3, 0, 1), some (15, 0, 0, 0), some (10, 0, 3, 40), none, none, some (2, 0, 2, 0), some (2, 0, 1, 0)], [some (2, 0, 3, 0), some (30, (-1), 198, 2), none, none, some (9, 0, 0, 31), none, none, some (2, 2, 0, 0), some (2, 0, 3, 0), some (30, 22, 206, 2), none, none, some (11, 0, 0, 32), none, none, some (0, 0, 0, 1)], [some (5, 0, 4, 0), some (3, 0, 2, 0), some (4, 1, 3, 0), none, none, some (11, 0, 0, 4), none, none, some (2, 0, 2, 0), some (40, 0, 0, 0)]]
def g_k243 : List (List (List Nat)) := [[[], [], [], [], [], [], [33, 1354], [], [], [], [], [], [], [], [], []], [[], [225, 1572, 1573, 119], [], [], [], [], [], [], [], [254, 1603, 1605, 65, 119], [], [], [], [], [], []], [[], [], [], [], [], [], [], [], [], []]]
def g_m243 : MethodName × ByteArray × Nat × Option FieldType := (⟨"RideLawsModel", "knownToAll", "(I)I"⟩, prog_14_method_76_code, 4, some .int)
def g_c244 : List (List (Option (Nat × Int × Nat × Nat))) := [[some (2, 0, 0, 0), some (3, 0, 2, 0), some (2, 0, 1, 0), some (3, 0, 3, 0), some (2, 0, 3, 0), some (9, 0, 0, 21), none, none, some (2, 0, 2, 0), some (2, 0, 3, 0), some (5, 0, 10, 0), some (3, 0, 4, 1), none, some (2, 0, 3, 0), some (3, 0, 2, 0), some (2, 0, 4, 1)], [none, some (3, 0, 3, 0), some (11, 0, 0, 4), none, none, some (2, 0, 2, 0), some (40, 0, 0, 0)]]
def g_k244 : List (List (List Nat)) := [[[], [], [], [], [], [], [], [], [], [], [], [], [], [], [], []], [[], [], [], [], [], [], []]]
def g_m244 : MethodName × ByteArray × Nat × Option FieldType := (⟨"RideLawsModel", "common", "(II)I"⟩, prog_14_method_77_code, 5, some .int)
def g_c245 : List (List (Option (Nat × Int × Nat × Nat))) := [[some (2, 2, 0, 0), some (0, 0, 0, 1), some (14, 0, 12, 0), none, none, some (0, 0, 0, 1), some (3, 0, 1, 0), some (0, 1, 0, 1), some (3, 0, 2, 0), some (2, 0, 2, 0), some (0, 1, 0, 1), some (2, 2, 0, 0), some (13, 2, 12, 6), none, none, some (0, 4, 0, 1)], [some (15, 0, 0, 0), some (5, 0, 6, 0), some (10, 0, 3, 104), none, none, some (2, 0, 2, 0), some (30, (-1), 246, 1), none, none, some (2, 0, 1, 0), some (30, (-1), 246, 1), none, none, some (10, 0, 5, 36), none, none], [some (0, 1, 0, 1), some (11, 0, 0, 37), none, none, some (0, 0, 0, 1), some (3, 0, 3, 0), some (0, 0, 0, 1), some (3, 0, 4, 1), none, some (2, 0, 4, 1), none, some (2, 2, 0, 0), some (13, 2, 12, 6), none, none, some (0, 4, 0, 1)], [some (15, 0, 0, 0), some (10, 0, 3, 92), none, none, some (2, 0, 3, 0), some (9, 0, 0, 92), none, none, some (2, 0, 2, 0), some (2, 0, 4, 1), none, some (30, (-1), 198, 2), none, none, some (9, 0, 0, 80), none], [none, some (2, 2, 0, 0), some (13, 2, 12, 6), none, none, some (0, 91, 1, 2), none, some (2, 0, 4, 1), none, some (5, 0, 0, 0), some (15, 0, 0, 0), some (2, 0, 2, 0), some (5, 0, 3, 0), some (9, 0, 1, 84), none, none], [some (0, 1, 0, 1), some (11, 0, 0, 85), none, none, some (0, 0, 0, 1), some (3, 0, 3, 0), some (4, 1, 4, 0), none, none, some (11, 0, 0, 41), none, none, some (2, 0, 3, 0), some (9, 0, 0, 98), none, none], [some (2, 0, 2, 0), some (3, 0, 1, 0), some (4, 1, 2, 0), none, none, some (11, 0, 0, 9), none, none, some (2, 2, 0, 0), some (0, 1, 0, 1), some (14, 3, 12, 26), none, none, some (2, 2, 0, 0), some (2, 0, 1, 0), some (14, 0, 12, 25)], [none, none, some (2, 0, 1, 0), some (30, (-1), 246, 1), none, none, some (40, 0, 0, 0)]]
def g_k245 : List (List (List Nat)) := [[[], [], [1, 1348], [], [], [], [], [], [], [], [], [], [33, 1354], [], [], []], [[], [], [], [], [], [], [326, 1762, 1763, 119], [], [], [], [326, 1762, 1763, 119], [], [], [], [], []], [[], [], [], [], [], [], [], [], [], [], [], [], [33, 1354], [], [], []], [[], [], [], [], [], [], [], [], [], [], [], [225, 1572, 1573, 119], [], [], [], []], [[], [], [33, 1354], [], [], [], [], [], [], [], [], [], [], [], [], []], [[], [], [], [], [], [], [], [], [], [], [], [], [], [], [], []], [[], [], [], [], [], [], [], [], [], [], [329, 1374], [], [], [], [], [332, 1373]], [[], [], [], [326, 1762, 1763, 119], [], [], []]]
def g_m245 : MethodName × ByteArray × Nat × Option FieldType := (⟨"RideLawsModel", "stand", "()I"⟩, prog_14_method_79_code, 5, some .int)
def g_c246 : List (List (Option (Nat × Int × Nat × Nat))) := [[some (0, 0, 0, 1), some (3, 0, 1, 0), some (2, 0, 0, 0), some (3, 0, 2, 0), some (2, 0, 2, 0), some (9, 0, 0, 20), none, none, some (4, 1, 1, 0), none, none, some (2, 0, 2, 0), some (2, 0, 2, 0), some (0, 1, 0, 1), some (5, 0, 1, 0), some (5, 0, 3, 0)], [some (3, 0, 2, 0), some (11, 0, 0, 4), none, none, some (2, 0, 1, 0), some (40, 0, 0, 0)]]
def g_k246 : List (List (List Nat)) := [[[], [], [], [], [], [], [], [], [], [], [], [], [], [], [], []], [[], [], [], [], [], []]]
def g_m246 : MethodName × ByteArray × Nat × Option FieldType := (⟨"RideLawsModel", "bits", "(I)I"⟩, prog_14_method_9_code, 3, some .int)
def g_c247 : List (List (Option (Nat × Int × Nat × Nat))) := [[some (2, 2, 0, 0), some (0, 0, 0, 1), some (14, 0, 12, 0), none, none, some (2, 2, 0, 0), some (13, 3, 12, 26), none, none, some (9, 0, 0, 19), none, none, some (2, 2, 0, 0), some (13, 0, 12, 25), none, none], [some (11, 0, 0, 20), none, none, some (0, (-1), 0, 1), some (40, 0, 0, 0)]]
def g_k247 : List (List (List Nat)) := [[[], [], [1, 1348], [], [], [], [329, 1374], [], [], [], [], [], [], [332, 1373], [], []], [[], [], [], [], []]]
def g_m247 : MethodName × ByteArray × Nat × Option FieldType := (⟨"RideLawsModel", "standing", "()I"⟩, prog_14_method_80_code, 1, some .int)
def g_c248 : List (List (Option (Nat × Int × Nat × Nat))) := [[some (2, 2, 0, 0), some (2, 2, 0, 0), some (2, 0, 1, 0), some (30, 22, 203, 2), none, none, some (9, 0, 0, 25), none, none, some (2, 0, 2, 0), some (0, 0, 0, 1), some (0, 1, 0, 1), some (30, (-1), 189, 3), none, none, some (9, 0, 0, 25)], [none, none, some (2, 2, 0, 0), some (30, 22, 214, 1), none, none, some (9, 0, 1, 29), none, none, some (0, 1, 0, 1), some (11, 0, 0, 30), none, none, some (0, 0, 0, 1), some (30, 22, 204, 2), none], [none, some (9, 0, 0, 38), none, none, some (0, 0, 0, 1), some (40, 0, 0, 0), some (2, 0, 2, 0), some (9, 0, 1, 55), none, none, some (2, 2, 0, 0), some (13, 2, 12, 6), none, none, some (0, 166, 2, 3), none], [none, some (2, 0, 1, 0), some (5, 0, 0, 0), some (15, 0, 0, 0), some (11, 0, 0, 59), none, none, some (2, 2, 0, 0), some (30, 22, 214, 1), none, none, some (2, 2, 0, 0), some (30, 22, 214, 1), none, none, some (2, 2, 0, 0)], [some (13, 2, 12, 6), none, none, some (0, 166, 2, 3), none, none, some (2, 0, 1, 0), some (5, 0, 0, 0), some (15, 0, 0, 0), some (30, (-1), 244, 2), none, none, some (5, 0, 9, 0), some (40, 0, 0, 0)]]
def g_k248 : List (List (List Nat)) := [[[], [], [], [243, 1591, 1593, 62, 119], [], [], [], [], [], [], [], [], [169, 1537, 1538, 119], [], [], []], [[], [], [], [266, 1635, 1637, 69, 119], [], [], [], [], [], [], [], [], [], [], [246, 1595, 1597, 63, 119], []], [[], [], [], [], [], [], [], [], [], [], [], [33, 1354], [], [], [], []], [[], [], [], [], [], [], [], [], [266, 1635, 1637, 69, 119], [], [], [], [266, 1635, 1637, 69, 119], [], [], []], [[33, 1354], [], [], [], [], [], [], [], [], [323, 1755, 1756, 119], [], [], [], []]]
def g_m248 : MethodName × ByteArray × Nat × Option FieldType := (⟨"RideLawsModel", "part", "(II)I"⟩, prog_14_method_81_code, 3, some .int)
def g_c249 : List (List (Option (Nat × Int × Nat × Nat))) := [[some (2, 2, 0, 0), some (0, 0, 0, 1), some (14, 0, 12, 0), none, none, some (0, (-1), 0, 1), some (3, 0, 1, 0), some (0, 0, 0, 1), some (3, 0, 2, 0), some (2, 0, 2, 0), some (2, 2, 0, 0), some (13, 2, 12, 6), none, none, some (0, 3, 0, 1), some (15, 0, 0, 0)], [some (10, 0, 3, 67), none, none, some (2, 2, 0, 0), some (13, 2, 12, 6), none, none, some (0, 166, 2, 3), none, none, some (2, 0, 2, 0), some (5, 0, 0, 0), some (15, 0, 0, 0), some (9, 0, 5, 61), none, none], [some (2, 0, 1, 0), some (9, 0, 2, 59), none, none, some (2, 2, 0, 0), some (13, 2, 12, 6), none, none, some (0, 166, 2, 3), none, none, some (2, 0, 2, 0), some (5, 0, 0, 0), some (15, 0, 0, 0), some (2, 2, 0, 0), some (13, 2, 12, 6)], [none, none, some (0, 166, 2, 3), none, none, some (2, 0, 1, 0), some (5, 0, 0, 0), some (15, 0, 0, 0), some (10, 0, 5, 61), none, none, some (2, 0, 2, 0), some (3, 0, 1, 0), some (4, 1, 2, 0), none, none], [some (11, 0, 0, 9), none, none, some (2, 0, 1, 0), some (40, 0, 0, 0)]]
def g_k249 : List (List (List Nat)) := [[[], [], [1, 1348], [], [], [], [], [], [], [], [], [33, 1354], [], [], [], []], [[], [], [], [], [33, 1354], [], [], [], [], [], [], [], [], [], [], []], [[], [], [], [], [], [33, 1354], [], [], [], [], [], [], [], [], [], [33, 1354]], [[], [], [], [], [], [], [], [], [], [], [], [], [], [], [], []], [[], [], [], [], []]]
def g_m249 : MethodName × ByteArray × Nat × Option FieldType := (⟨"RideLawsModel", "most", "()I"⟩, prog_14_method_82_code, 3, some .int)
def g_c250 : List (List (Option (Nat × Int × Nat × Nat))) := [[some (2, 2, 0, 0), some (0, 0, 0, 1), some (14, 0, 12, 0), none, none, some (2, 2, 0, 0), some (2, 0, 1, 0), some (30, 22, 203, 2), none, none, some (9, 0, 1, 15), none, none, some (0, (-1), 0, 1), some (40, 0, 0, 0), some (2, 2, 0, 0)], [some (0, 0, 0, 1), some (14, 0, 12, 28), none, none, some (2, 2, 0, 0), some (2, 2, 0, 0), some (13, 2, 12, 9), none, none, some (0, 19, 1, 2), none, some (2, 0, 1, 0), some (5, 0, 0, 0), some (15, 0, 2, 0), some (30, 22, 251, 2), none], [none, some (2, 2, 0, 0), some (13, 2, 12, 6), none, none, some (0, 112, 1, 2), none, some (2, 0, 1, 0), some (5, 0, 0, 0), some (15, 0, 0, 0), some (9, 0, 5, 77), none, none, some (2, 2, 0, 0), some (1, 28526, 1, 3), none], [none, some (30, 22, 253, 2), none, none, some (2, 2, 0, 0), some (2, 2, 0, 0), some (13, 2, 12, 9), none, none, some (0, 3, 0, 1), some (2, 2, 0, 0), some (13, 2, 12, 6), none, none, some (0, 112, 1, 2), none], [some (2, 0, 1, 0), some (5, 0, 0, 0), some (15, 0, 0, 0), some (5, 0, 0, 0), some (0, 1, 0, 1), some (5, 0, 1, 0), some (15, 0, 2, 0), some (30, 22, 253, 2), none, none, some (11, 0, 0, 84), none, none, some (2, 2, 0, 0), some (1, 7300710, 1, 3), none], [none, some (30, 22, 253, 2), none, none, some (2, 2, 0, 0), some (13, 2, 12, 6), none, none, some (0, 118, 1, 2), none, some (2, 0, 1, 0), some (5, 0, 0, 0), some (15, 0, 0, 0), some (9, 0, 1, 106), none, none], [some (2, 2, 0, 0), some (1, 1836414053, 1, 3), none, none, some (30, 22, 253, 2), none, none, some (11, 0, 0, 130), none, none, some (2, 2, 0, 0), some (1, 1852143732, 1, 3), none, none, some (30, 22, 253, 2), none], [none, some (2, 2, 0, 0), some (2, 2, 0, 0), some (13, 2, 12, 9), none, none, some (0, 11, 1, 2), none, some (2, 2, 0, 0), some (2, 0, 1, 0), some (30, 22, 205, 2), none, none, some (5, 0, 0, 0), some (15, 0, 2, 0), some (30, 22, 253, 2)], [none, none, some (2, 2, 0, 0), some (13, 0, 12, 28), none, none, some (40, 0, 0, 0)]]
def g_k250 : List (List (List Nat)) := [[[], [], [1, 1348], [], [], [], [], [243, 1591, 1593, 62, 119], [], [], [], [], [], [], [], []], [[], [335, 1376], [], [], [], [], [43, 1357], [], [], [], [], [], [], [], [343, 1781, 1783, 85, 119], []], [[], [], [33, 1354], [], [], [], [], [], [], [], [], [], [], [], [114, 1339], []], [[], [347, 1790, 1792, 87, 119], [], [], [], [], [43, 1357], [], [], [], [], [33, 1354], [], [], [], []], [[], [], [], [], [], [], [], [347, 1790, 1792, 87, 119], [], [], [], [], [], [], [350, 1794], []], [[], [347, 1790, 1792, 87, 119], [], [], [], [33, 1354], [], [], [], [], [], [], [], [], [], []], [[], [110, 1337], [], [], [347, 1790, 1792, 87, 119], [], [], [], [], [], [], [352, 1795], [], [], [347, 1790, 1792, 87, 119], []], [[], [], [], [43, 1357], [], [], [], [], [], [], [250, 1599, 1601, 64, 119], [], [], [], [], [347, 1790, 1792, 87, 119]], [[], [], [], [335, 1376], [], [], []]]
def g_m250 : MethodName × ByteArray × Nat × Option FieldType := (⟨"RideLawsModel", "line", "(I)I"⟩, prog_14_method_86_code, 2, some .int)
def g_c251 : List (List (Option (Nat × Int × Nat × Nat))) := [[some (0, 56, 1, 2), none, some (3, 0, 3, 0), some (2, 0, 3, 0), some (9, 0, 2, 37), none, none, some (2, 1, 1, 0), some (2, 0, 3, 0), some (6, 0, 5, 0), some (1, 255, 1, 3), none, none, some (6, 0, 2, 0), some (1, 0, 0, 1), some (12, 0, 0, 0)], [some (9, 0, 0, 31), none, none, some (2, 2, 0, 0), some (2, 1, 1, 0), some (2, 0, 3, 0), some (6, 0, 5, 0), some (1, 255, 1, 3), none, none, some (6, 0, 2, 0), some (7, 0, 1, 0), some (30, 22, 252, 2), none, none, some (4, (-8), 3, 0)], [none, none, some (11, 0, 0, 3), none, none, some (40, 0, 2, 0)]]
def g_k251 : List (List (List Nat)) := [[[], [], [], [], [], [], [], [], [], [], [338, 1785], [], [], [], [], []], [[], [], [], [], [], [], [], [338, 1785], [], [], [], [], [340, 1786, 1788, 86, 119], [], [], []], [[], [], [], [], [], []]]
def g_m251 : MethodName × ByteArray × Nat × Option FieldType := (⟨"RideLawsModel", "spells", "(J)V"⟩, prog_14_method_84_code, 4, none)
def g_c252 : List (List (Option (Nat × Int × Nat × Nat))) := [[some (2, 2, 0, 0), some (13, 2, 12, 27), none, none, some (2, 2, 0, 0), some (13, 0, 12, 28), none, none, some (2, 0, 1, 0), some (7, 0, 2, 0), some (16, 0, 1, 4), some (2, 2, 0, 0), some (8, 0, 0, 0), some (13, 0, 12, 28), none, none], [some (0, 1, 0, 1), some (5, 0, 0, 0), some (14, 0, 12, 28), none, none, some (40, 0, 2, 0)]]
def g_k252 : List (List (List Nat)) := [[[], [56, 1375], [], [], [], [335, 1376], [], [], [], [], [], [], [], [335, 1376], [], []], [[], [], [335, 1376], [], [], []]]
def g_m252 : MethodName × ByteArray × Nat × Option FieldType := (⟨"RideLawsModel", "lays", "(I)V"⟩, prog_14_method_83_code, 2, none)
def g_c253 : List (List (Option (Nat × Int × Nat × Nat))) := [[some (2, 2, 0, 0), some (0, 32, 1, 2), none, some (30, 22, 252, 2), none, none, some (2, 2, 0, 0), some (2, 1, 1, 0), some (30, 22, 251, 2), none, none, some (40, 0, 2, 0)]]
def g_k253 : List (List (List Nat)) := [[[], [], [], [340, 1786, 1788, 86, 119], [], [], [], [], [343, 1781, 1783, 85, 119], [], [], []]]
def g_m253 : MethodName × ByteArray × Nat × Option FieldType := (⟨"RideLawsModel", "says", "(J)V"⟩, prog_14_method_85_code, 3, none)
def g_c254 : List (List (Option (Nat × Int × Nat × Nat))) := [[some (2, 2, 0, 0), some (0, 0, 0, 1), some (14, 0, 12, 0), none, none, some (2, 0, 1, 0), some (0, 0, 0, 1), some (2, 2, 0, 0), some (13, 0, 12, 28), none, none, some (0, 1, 0, 1), some (5, 0, 1, 0), some (30, (-1), 189, 3), none, none], [some (9, 0, 0, 28), none, none, some (2, 2, 0, 0), some (13, 2, 12, 27), none, none, some (2, 0, 1, 0), some (15, 0, 1, 0), some (11, 0, 0, 29), none, none, some (0, (-1), 0, 1), some (40, 0, 0, 0)]]
def g_k254 : List (List (List Nat)) := [[[], [], [1, 1348], [], [], [], [], [], [335, 1376], [], [], [], [], [169, 1537, 1538, 119], [], []], [[], [], [], [], [56, 1375], [], [], [], [], [], [], [], [], []]]
def g_m254 : MethodName × ByteArray × Nat × Option FieldType := (⟨"RideLawsModel", "byteAt", "(I)I"⟩, prog_14_method_87_code, 2, some .int)
def g_c255 : List (List (Option (Nat × Int × Nat × Nat))) := [[some (2, 2, 0, 0), some (0, 0, 0, 1), some (14, 0, 12, 0), none, none, some (2, 0, 1, 0), some (0, 1, 0, 1), some (0, 60, 1, 2), none, some (30, (-1), 189, 3), none, none, some (9, 0, 1, 17), none, none, some (0, (-1), 0, 1)], [some (40, 0, 0, 0), some (2, 2, 0, 0), some (13, 2, 12, 6), none, none, some (0, 99, 1, 2), none, some (15, 0, 0, 0), some (0, 1000, 2, 3), none, none, some (10, 0, 3, 34), none, none, some (2, 2, 0, 0), some (30, 22, 217, 1)], [none, none, some (2, 2, 0, 0), some (2, 0, 1, 0), some (2, 0, 2, 0), some (30, 22, 256, 3), none, none, some (40, 0, 0, 0)]]
def g_k255 : List (List (List Nat)) := [[[], [], [1, 1348], [], [], [], [], [], [], [169, 1537, 1538, 119], [], [], [], [], [], []], [[], [], [33, 1354], [], [], [], [], [], [], [], [], [], [], [], [], [278, 1647, 1649, 71, 119]], [[], [], [], [], [], [364, 1804, 1806, 88, 119], [], [], []]]
def g_m255 : MethodName × ByteArray × Nat × Option FieldType := (⟨"RideLawsModel", "drawn", "(II)I"⟩, prog_14_method_91_code, 3, some .int)
def g_c256 : List (List (Option (Nat × Int × Nat × Nat))) := [[some (2, 2, 0, 0), some (2, 0, 2, 0), some (14, 0, 12, 29), none, none, some (0, 0, 0, 1), some (3, 0, 3, 0), some (2, 0, 3, 0), some (2, 0, 1, 0), some (10, 0, 3, 39), none, none, some (2, 2, 0, 0), some (13, 2, 12, 6), none, none], [some (0, 99, 1, 2), none, some (15, 0, 0, 0), some (0, 1000, 2, 3), none, none, some (10, 0, 3, 39), none, none, some (2, 2, 0, 0), some (30, 22, 257, 1), none, none, some (2, 2, 0, 0), some (30, 22, 227, 1), none], [none, some (4, 1, 3, 0), none, none, some (11, 0, 0, 7), none, none, some (2, 0, 3, 0), some (40, 0, 0, 0)]]
def g_k256 : List (List (List Nat)) := [[[], [], [354, 1377], [], [], [], [], [], [], [], [], [], [], [33, 1354], [], []], [[], [], [], [], [], [], [], [], [], [], [361, 1808, 1810, 89, 119], [], [], [], [272, 1687, 1689, 77, 119], []], [[], [], [], [], [], [], [], [], []]]
def g_m256 : MethodName × ByteArray × Nat × Option FieldType := (⟨"RideLawsModel", "draws", "(II)I"⟩, prog_14_method_90_code, 4, some .int)
def g_c257 : List (List (Option (Nat × Int × Nat × Nat))) := [[some (2, 2, 0, 0), some (0, 12, 1, 2), none, some (30, 22, 258, 2), none, none, some (3, 0, 1, 0), some (2, 0, 1, 0), some (9, 0, 1, 97), none, none, some (2, 2, 0, 0), some (13, 2, 12, 6), none, none, some (0, 3, 0, 1)], [some (15, 0, 0, 0), some (9, 0, 5, 97), none, none, some (2, 2, 0, 0), some (13, 2, 12, 6), none, none, some (0, 1, 0, 1), some (15, 0, 0, 0), some (9, 0, 5, 97), none, none, some (2, 2, 0, 0), some (2, 2, 0, 0), some (13, 2, 12, 6)], [none, none, some (0, 3, 0, 1), some (15, 0, 0, 0), some (30, 22, 258, 2), none, none, some (3, 0, 2, 0), some (2, 2, 0, 0), some (2, 2, 0, 0), some (13, 2, 12, 6), none, none, some (0, 1, 0, 1), some (15, 0, 0, 0), some (30, 22, 258, 2)], [none, none, some (3, 0, 3, 0), some (2, 2, 0, 0), some (13, 2, 12, 6), none, none, some (0, 112, 1, 2), none, some (2, 0, 2, 0), some (5, 0, 0, 0), some (15, 0, 0, 0), some (9, 0, 5, 76), none, none, some (2, 2, 0, 0)], [some (13, 2, 12, 6), none, none, some (0, 112, 1, 2), none, some (2, 0, 2, 0), some (5, 0, 0, 0), some (0, 0, 0, 1), some (16, 0, 0, 4), some (11, 0, 0, 97), none, none, some (2, 2, 0, 0), some (2, 0, 2, 0), some (2, 0, 3, 0), some (30, 22, 216, 3)], [none, none, some (9, 0, 1, 97), none, none, some (2, 2, 0, 0), some (13, 2, 12, 6), none, none, some (0, 112, 1, 2), none, some (2, 0, 2, 0), some (5, 0, 0, 0), some (2, 0, 3, 0), some (0, 1, 0, 1), some (5, 0, 0, 0)], [some (16, 0, 0, 4), some (2, 0, 1, 0), some (0, 1, 0, 1), some (10, 0, 1, 156), none, none, some (2, 2, 0, 0), some (13, 2, 12, 6), none, none, some (0, 3, 0, 1), some (15, 0, 0, 0), some (9, 0, 5, 156), none, none, some (2, 2, 0, 0)], [some (13, 2, 12, 6), none, none, some (0, 2, 0, 1), some (15, 0, 0, 0), some (9, 0, 5, 156), none, none, some (2, 2, 0, 0), some (2, 2, 0, 0), some (13, 2, 12, 6), none, none, some (0, 3, 0, 1), some (15, 0, 0, 0), some (30, 22, 258, 2)], [none, none, some (3, 0, 2, 0), some (2, 2, 0, 0), some (2, 2, 0, 0), some (13, 2, 12, 6), none, none, some (0, 2, 0, 1), some (15, 0, 0, 0), some (30, 22, 258, 2), none, none, some (3, 0, 3, 0), some (2, 2, 0, 0), some (2, 0, 2, 0)], [some (30, 22, 220, 2), none, none, some (9, 0, 1, 156), none, none, some (2, 2, 0, 0), some (2, 0, 2, 0), some (2, 0, 3, 0), some (30, 22, 221, 3), none, none, some (2, 0, 1, 0), some (0, 2, 0, 1), some (10, 0, 1, 172), none], [none, some (2, 2, 0, 0), some (30, 22, 223, 1), none, none, some (9, 0, 1, 172), none, none, some (2, 2, 0, 0), some (30, 22, 224, 1), none, none, some (40, 0, 2, 0)]]
def g_k257 : List (List (List Nat)) := [[[], [], [], [358, 1812, 1814, 90, 119], [], [], [], [], [], [], [], [], [33, 1354], [], [], []], [[], [], [], [], [], [33, 1354], [], [], [], [], [], [], [], [], [], [33, 1354]], [[], [], [], [], [358, 1812, 1814, 90, 119], [], [], [], [], [], [33, 1354], [], [], [], [], [358, 1812, 1814, 90, 119]], [[], [], [], [], [33, 1354], [], [], [], [], [], [], [], [], [], [], []], [[33, 1354], [], [], [], [], [], [], [], [], [], [], [], [], [], [], [275, 1643, 1645, 70, 119]], [[], [], [], [], [], [], [33, 1354], [], [], [], [], [], [], [], [], []], [[], [], [], [], [], [], [], [33, 1354], [], [], [], [], [], [], [], []], [[33, 1354], [], [], [], [], [], [], [], [], [], [33, 1354], [], [], [], [], [358, 1812, 1814, 90, 119]], [[], [], [], [], [], [33, 1354], [], [], [], [], [358, 1812, 1814, 90, 119], [], [], [], [], []], [[281, 1659, 1661, 72, 119], [], [], [], [], [], [], [], [], [284, 1663, 1665, 73, 119], [], [], [], [], [], []], [[], [], [288, 1671, 1673, 74, 119], [], [], [], [], [], [], [291, 1675, 1677, 75, 119], [], [], []]]
def g_m257 : MethodName × ByteArray × Nat × Option FieldType := (⟨"RideLawsModel", "drawTick", "()V"⟩, prog_14_method_89_code, 4, none)
def g_c258 : List (List (Option (Nat × Int × Nat × Nat))) := [[some (2, 2, 0, 0), some (2, 2, 0, 0), some (13, 0, 12, 29), none, none, some (0, 1103515245, 4, 3), none, none, some (5, 0, 2, 0), some (0, 12345, 2, 3), none, none, some (5, 0, 0, 0), some (14, 0, 12, 29), none, none], [some (2, 2, 0, 0), some (13, 0, 12, 29), none, none, some (0, 8, 1, 2), none, some (5, 0, 8, 0), some (2, 0, 1, 0), some (5, 0, 10, 0), some (40, 0, 0, 0)]]
def g_k258 : List (List (List Nat)) := [[[], [], [354, 1377], [], [], [357, 1816], [], [], [], [], [], [], [], [354, 1377], [], []], [[], [354, 1377], [], [], [], [], [], [], [], []]]
def g_m258 : MethodName × ByteArray × Nat × Option FieldType := (⟨"RideLawsModel", "draw", "(I)I"⟩, prog_14_method_88_code, 2, some .int)
def g_c259 : List (List (Option (Nat × Int × Nat × Nat))) := [[some (2, 2, 0, 0), some (0, 0, 0, 1), some (14, 0, 12, 0), none, none, some (2, 2, 0, 0), some (2, 0, 1, 0), some (30, 22, 212, 2), none, none, some (9, 0, 0, 23), none, none, some (2, 0, 2, 0), some (0, 1, 0, 1), some (0, 30, 1, 2)], [none, some (30, (-1), 189, 3), none, none, some (9, 0, 1, 25), none, none, some (0, (-1), 0, 1), some (40, 0, 0, 0), some (2, 2, 0, 0), some (30, 22, 234, 1), none, none, some (0, 0, 0, 1), some (3, 0, 4, 1), none], [some (0, 0, 0, 1), some (3, 0, 5, 1), none, some (2, 0, 5, 1), none, some (2, 0, 2, 0), some (10, 0, 3, 78), none, none, some (2, 2, 0, 0), some (0, 30, 1, 2), none, some (2, 0, 3, 0), some (2, 0, 5, 1), none, some (5, 0, 0, 0)], [some (30, 22, 256, 3), none, none, some (8, 0, 1, 0), some (2, 0, 4, 1), none, some (2, 2, 0, 0), some (13, 2, 12, 6), none, none, some (0, 102, 1, 2), none, some (15, 0, 0, 0), some (2, 0, 1, 0), some (5, 0, 7, 0), some (0, 1, 0, 1)], [some (5, 0, 3, 0), some (5, 0, 0, 0), some (3, 0, 4, 1), none, some (2, 2, 0, 0), some (30, 22, 236, 1), none, none, some (4, 1, 5, 0), none, none, some (11, 0, 0, 35), none, none, some (2, 0, 4, 1), none], [some (40, 0, 0, 0)]]
def g_k259 : List (List (List Nat)) := [[[], [], [1, 1348], [], [], [], [], [263, 1627, 1629, 68, 119], [], [], [], [], [], [], [], []], [[], [169, 1537, 1538, 119], [], [], [], [], [], [], [], [], [303, 1715, 1717, 80, 119], [], [], [], [], []], [[], [], [], [], [], [], [], [], [], [], [], [], [], [], [], []], [[364, 1804, 1806, 88, 119], [], [], [], [], [], [], [33, 1354], [], [], [], [], [], [], [], []], [[], [], [], [], [], [300, 1723, 1725, 82, 119], [], [], [], [], [], [], [], [], [], []], [[]]]
def g_m259 : MethodName × ByteArray × Nat × Option FieldType := (⟨"RideLawsModel", "odds", "(III)I"⟩, prog_14_method_92_code, 6, some .int)
def g_c260 : List (List (Option (Nat × Int × Nat × Nat))) := [[some (2, 2, 0, 0), some (0, 0, 0, 1), some (14, 0, 12, 0), none, none, some (2, 0, 1, 0), some (0, 0, 0, 1), some (0, 1, 0, 1), some (30, (-1), 189, 3), none, none, some (9, 0, 1, 18), none, none, some (0, (-1000), 2, 3), none], [none, some (40, 0, 0, 0), some (2, 2, 0, 0), some (0, 400, 2, 3), none, none, some (30, 22, 175, 2), none, none, some (2, 2, 0, 0), some (0, 0, 0, 1), some (14, 0, 12, 15), none, none, some (2, 2, 0, 0), some (0, 0, 0, 1)], [some (14, 0, 12, 30), none, none, some (2, 2, 0, 0), some (30, 22, 176, 1), none, none, some (2, 2, 0, 0), some (13, 0, 12, 11), none, none, some (9, 0, 0, 83), none, none, some (2, 2, 0, 0), some (30, 22, 261, 1)], [none, none, some (9, 0, 0, 62), none, none, some (2, 2, 0, 0), some (0, 59, 1, 2), none, some (30, 22, 199, 2), none, none, some (9, 0, 1, 70), none, none, some (0, (-2), 1, 2), none], [some (2, 2, 0, 0), some (13, 0, 12, 16), none, none, some (5, 0, 1, 0), some (40, 0, 0, 0), some (2, 2, 0, 0), some (8, 0, 0, 0), some (13, 0, 12, 30), none, none, some (0, 1, 0, 1), some (5, 0, 0, 0), some (14, 0, 12, 30), none, none], [some (11, 0, 0, 39), none, none, some (2, 2, 0, 0), some (30, 22, 234, 1), none, none, some (0, 0, 0, 1), some (3, 0, 2, 0), some (2, 0, 2, 0), some (0, 4, 0, 1), some (10, 0, 3, 107), none, none, some (2, 2, 0, 0), some (13, 2, 12, 31)], [none, none, some (2, 0, 2, 0), some (0, 0, 0, 1), some (16, 0, 0, 4), some (4, 1, 2, 0), none, none, some (11, 0, 0, 89), none, none, some (0, (-1), 0, 1), some (3, 0, 2, 0), some (0, 0, 0, 1), some (3, 0, 3, 0), some (2, 0, 3, 0)], [some (2, 2, 0, 0), some (13, 0, 12, 30), none, none, some (10, 0, 3, 191), none, none, some (2, 0, 2, 0), some (9, 0, 3, 191), none, none, some (2, 2, 0, 0), some (13, 2, 12, 31), none, none, some (0, 0, 0, 1)], [some (2, 2, 0, 0), some (2, 2, 0, 0), some (13, 2, 12, 8), none, none, some (0, 3, 0, 1), some (2, 0, 3, 0), some (5, 0, 2, 0), some (15, 0, 0, 0), some (2, 2, 0, 0), some (13, 2, 12, 8), none, none, some (0, 3, 0, 1), some (2, 0, 3, 0), some (5, 0, 2, 0)], [some (0, 1, 0, 1), some (5, 0, 0, 0), some (15, 0, 0, 0), some (2, 2, 0, 0), some (13, 2, 12, 8), none, none, some (0, 3, 0, 1), some (2, 0, 3, 0), some (5, 0, 2, 0), some (0, 2, 0, 1), some (5, 0, 0, 0), some (15, 0, 0, 0), some (30, 22, 262, 4), none, none], [some (16, 0, 0, 4), some (2, 2, 0, 0), some (13, 2, 12, 31), none, none, some (0, 0, 0, 1), some (15, 0, 0, 0), some (9, 0, 5, 175), none, none, some (2, 0, 3, 0), some (3, 0, 2, 0), some (11, 0, 0, 185), none, none, some (2, 2, 0, 0)], [some (13, 2, 12, 31), none, none, some (0, 1, 0, 1), some (8, 0, 2, 0), some (15, 0, 0, 0), some (0, 1, 0, 1), some (5, 0, 0, 0), some (16, 0, 0, 4), some (4, 1, 3, 0), none, none, some (11, 0, 0, 111), none, none, some (2, 2, 0, 0)], [some (13, 2, 12, 31), none, none, some (0, 2, 0, 1), some (2, 2, 0, 0), some (13, 2, 12, 6), none, none, some (0, 99, 1, 2), none, some (15, 0, 0, 0), some (16, 0, 0, 4), some (2, 2, 0, 0), some (13, 2, 12, 31), none, none], [some (0, 3, 0, 1), some (2, 2, 0, 0), some (13, 2, 12, 6), none, none, some (0, 102, 1, 2), none, some (15, 0, 0, 0), some (16, 0, 0, 4), some (2, 2, 0, 0), some (0, 1, 0, 1), some (14, 3, 12, 32), none, none, some (2, 0, 1, 0), some (0, 1, 0, 1)], [some (10, 0, 1, 276), none, none, some (2, 2, 0, 0), some (13, 2, 12, 31), none, none, some (0, 1, 0, 1), some (15, 0, 0, 0), some (9, 0, 5, 276), none, none, some (2, 2, 0, 0), some (30, 22, 217, 1), none, none], [some (0, 0, 0, 1), some (3, 0, 3, 0), some (2, 0, 3, 0), some (0, 81, 1, 2), none, some (10, 0, 3, 276), none, none, some (2, 2, 0, 0), some (13, 2, 12, 20), none, none, some (0, 81, 1, 2), none, some (2, 2, 0, 0), some (13, 0, 12, 22)], [none, none, some (0, 1, 0, 1), some (5, 0, 1, 0), some (5, 0, 2, 0), some (2, 0, 3, 0), some (5, 0, 0, 0), some (2, 2, 0, 0), some (13, 2, 12, 21), none, none, some (2, 0, 3, 0), some (15, 0, 0, 0), some (16, 0, 0, 4), some (4, 1, 3, 0), none], [none, some (11, 0, 0, 242), none, none, some (2, 0, 1, 0), some (9, 0, 1, 284), none, none, some (2, 2, 0, 0), some (30, 22, 236, 1), none, none, some (2, 0, 2, 0), some (40, 0, 0, 0)]]
def g_k260 : List (List (List Nat)) := [[[], [], [1, 1348], [], [], [], [], [], [169, 1537, 1538, 119], [], [], [], [], [], [], []], [[], [], [], [], [], [], [228, 1483, 1485, 40, 119], [], [], [], [], [154, 1363], [], [], [], []], [[367, 1378], [], [], [], [166, 1487, 1489, 41, 119], [], [], [], [137, 1359], [], [], [], [], [], [], [370, 1825, 1827, 91, 119]], [[], [], [], [], [], [], [], [], [237, 1575, 1577, 60, 119], [], [], [], [], [], [], []], [[], [157, 1364], [], [], [], [], [], [], [367, 1378], [], [], [], [], [367, 1378], [], []], [[], [], [], [], [303, 1715, 1717, 80, 119], [], [], [], [], [], [], [], [], [], [], [59, 1379]], [[], [], [], [], [], [], [], [], [], [], [], [], [], [], [], []], [[], [367, 1378], [], [], [], [], [], [], [], [], [], [], [59, 1379], [], [], []], [[], [], [40, 1356], [], [], [], [], [], [], [], [40, 1356], [], [], [], [], []], [[], [], [], [], [40, 1356], [], [], [], [], [], [], [], [], [373, 1829, 1831, 92, 119], [], []], [[], [], [59, 1379], [], [], [], [], [], [], [], [], [], [], [], [], []], [[59, 1379], [], [], [], [], [], [], [], [], [], [], [], [], [], [], []], [[59, 1379], [], [], [], [], [33, 1354], [], [], [], [], [], [], [], [59, 1379], [], []], [[], [], [33, 1354], [], [], [], [], [], [], [], [], [376, 1380], [], [], [], []], [[], [], [], [], [59, 1379], [], [], [], [], [], [], [], [], [278, 1647, 1649, 71, 119], [], []], [[], [], [], [], [], [], [], [], [], [50, 1368], [], [], [], [], [], [240, 1370]], [[], [], [], [], [], [], [], [], [53, 1369], [], [], [], [], [], [], []], [[], [], [], [], [], [], [], [], [], [300, 1723, 1725, 82, 119], [], [], [], []]]
def g_m260 : MethodName × ByteArray × Nat × Option FieldType := (⟨"RideLawsModel", "book", "(I)I"⟩, prog_14_method_95_code, 4, some .int)
def g_c261 : List (List (Option (Nat × Int × Nat × Nat))) := [[some (0, 3, 0, 1), some (2, 2, 0, 0), some (13, 0, 12, 30), none, none, some (5, 0, 2, 0), some (3, 0, 1, 0), some (2, 2, 0, 0), some (1, 1953063787, 1, 3), none, none, some (30, 22, 181, 2), none, none, some (3, 0, 2, 0), some (2, 2, 0, 0)], [some (1, 33610324346432613, 1, 3), none, none, some (30, 22, 181, 2), none, none, some (3, 0, 3, 0), some (2, 0, 2, 0), some (9, 0, 1, 48), none, none, some (2, 0, 3, 0), some (9, 0, 1, 48), none, none, some (2, 2, 0, 0)], [some (0, 19, 1, 2), none, some (2, 2, 0, 0), some (13, 2, 12, 6), none, none, some (0, 3, 0, 1), some (15, 0, 0, 0), some (30, 22, 192, 3), none, none, some (9, 0, 1, 48), none, none, some (0, 0, 0, 1), some (40, 0, 0, 1)], [some (2, 2, 0, 0), some (13, 0, 12, 30), none, none, some (0, 40, 1, 2), none, some (10, 0, 1, 63), none, none, some (2, 2, 0, 0), some (0, 4, 0, 1), some (30, 22, 183, 2), none, none, some (40, 0, 0, 1), some (2, 2, 0, 0)], [some (13, 0, 12, 18), none, none, some (3, 0, 4, 1), none, some (2, 2, 0, 0), some (30, 22, 176, 1), none, none, some (2, 2, 0, 0), some (13, 2, 12, 8), none, none, some (2, 0, 1, 0), some (2, 0, 2, 0), some (9, 0, 0, 86)], [none, none, some (0, 4, 0, 1), some (11, 0, 0, 87), none, none, some (0, 3, 0, 1), some (16, 0, 0, 4), some (2, 0, 3, 0), some (9, 0, 0, 94), none, none, some (0, 1, 0, 1), some (40, 0, 0, 1), some (2, 0, 2, 0), some (9, 0, 0, 124)], [none, none, some (2, 2, 0, 0), some (0, 1, 0, 1), some (0, 60, 1, 2), none, some (30, 22, 188, 3), none, none, some (9, 0, 1, 110), none, none, some (0, 0, 0, 1), some (40, 0, 0, 1), some (2, 2, 0, 0), some (13, 2, 12, 8)], [none, none, some (2, 0, 1, 0), some (0, 1, 0, 1), some (5, 0, 0, 0), some (2, 2, 0, 0), some (13, 0, 12, 18), none, none, some (16, 0, 0, 4), some (0, 1, 0, 1), some (40, 0, 0, 1), some (2, 2, 0, 0), some (1, 120325478970483, 1, 3), none, none], [some (30, 22, 181, 2), none, none, some (9, 0, 0, 138), none, none, some (0, 0, 0, 1), some (11, 0, 0, 167), none, none, some (2, 2, 0, 0), some (1, 27422272703198323, 1, 3), none, none, some (30, 22, 181, 2), none], [none, some (9, 0, 0, 152), none, none, some (0, 1, 0, 1), some (11, 0, 0, 167), none, none, some (2, 2, 0, 0), some (1, 119182682386035, 1, 3), none, none, some (30, 22, 181, 2), none, none, some (9, 0, 0, 166)], [none, none, some (0, 2, 0, 1), some (11, 0, 0, 167), none, none, some (0, (-1), 0, 1), some (3, 0, 5, 1), none, some (2, 0, 5, 1), none, some (9, 0, 3, 180), none, none, some (2, 2, 0, 0), some (0, 1, 0, 1)], [some (30, 22, 183, 2), none, none, some (40, 0, 0, 1), some (2, 2, 0, 0), some (30, 22, 176, 1), none, none, some (2, 2, 0, 0), some (13, 2, 12, 8), none, none, some (2, 0, 1, 0), some (2, 0, 5, 1), none, some (16, 0, 0, 4)], [some (2, 2, 0, 0), some (13, 2, 12, 8), none, none, some (2, 0, 1, 0), some (0, 1, 0, 1), some (5, 0, 0, 0), some (2, 0, 4, 1), none, some (16, 0, 0, 4), some (2, 0, 5, 1), none, some (0, 1, 0, 1), some (10, 0, 1, 210), none, none], [some (0, 1, 0, 1), some (40, 0, 0, 1), some (2, 0, 5, 1), none, some (9, 0, 1, 229), none, none, some (2, 2, 0, 0), some (0, 3, 0, 1), some (2, 2, 0, 0), some (13, 2, 12, 6), none, none, some (0, 1, 0, 1), some (15, 0, 0, 0), some (30, 22, 191, 3)], [none, none, some (11, 0, 0, 241), none, none, some (2, 2, 0, 0), some (0, 11, 1, 2), none, some (2, 2, 0, 0), some (13, 2, 12, 6), none, none, some (0, 2, 0, 1), some (15, 0, 0, 0), some (30, 22, 191, 3), none], [none, some (3, 0, 6, 1), none, some (2, 2, 0, 0), some (13, 2, 12, 8), none, none, some (2, 0, 1, 0), some (0, 2, 0, 1), some (5, 0, 0, 0), some (2, 2, 0, 0), some (13, 0, 12, 18), none, none, some (16, 0, 0, 4), some (2, 0, 6, 1)], [none, some (40, 0, 0, 1)]]
def g_k261 : List (List (List Nat)) := [[[], [], [367, 1378], [], [], [], [], [], [100, 1332], [], [], [191, 1505, 1507, 44, 119], [], [], [], []], [[98, 1331], [], [], [191, 1505, 1507, 44, 119], [], [], [], [], [], [], [], [], [], [], [], []], [[], [], [], [33, 1354], [], [], [], [], [188, 1548, 1550, 54, 119], [], [], [], [], [], [], []], [[], [367, 1378], [], [], [], [], [], [], [], [], [], [163, 1513, 1515, 46, 119], [], [], [], []], [[173, 1366], [], [], [], [], [], [166, 1487, 1489, 41, 119], [], [], [], [40, 1356], [], [], [], [], []], [[], [], [], [], [], [], [], [], [], [], [], [], [], [], [], []], [[], [], [], [], [], [], [176, 1533, 1535, 51, 119], [], [], [], [], [], [], [], [], [40, 1356]], [[], [], [], [], [], [], [173, 1366], [], [], [], [], [], [], [92, 1328], [], []], [[191, 1505, 1507, 44, 119], [], [], [], [], [], [], [], [], [], [], [94, 1329], [], [], [191, 1505, 1507, 44, 119], []], [[], [], [], [], [], [], [], [], [], [96, 1330], [], [], [191, 1505, 1507, 44, 119], [], [], []], [[], [], [], [], [], [], [], [], [], [], [], [], [], [], [], []], [[163, 1513, 1515, 46, 119], [], [], [], [], [166, 1487, 1489, 41, 119], [], [], [], [40, 1356], [], [], [], [], [], []], [[], [40, 1356], [], [], [], [], [], [], [], [], [], [], [], [], [], []], [[], [], [], [], [], [], [], [], [], [], [33, 1354], [], [], [], [], [222, 1544, 1546, 53, 119]], [[], [], [], [], [], [], [], [], [], [33, 1354], [], [], [], [], [222, 1544, 1546, 53, 119], []], [[], [], [], [], [40, 1356], [], [], [], [], [], [], [173, 1366], [], [], [], []], [[], []]]
def g_m261 : MethodName × ByteArray × Nat × Option FieldType := (⟨"RideLawsModel", "bookLine", "()Z"⟩, prog_14_method_93_code, 7, some .boolean)
def g_c262 : List (List (Option (Nat × Int × Nat × Nat))) := [[some (0, 0, 0, 1), some (3, 0, 4, 1), none, some (2, 0, 1, 0), some (20, 0, 135, 12), none, none, none, none, none, none, none, none, none, none, none], [none, none, none, none, none, none, none, none, none, none, none, none, none, none, none, none], [none, none, none, none, some (2, 2, 0, 0), some (2, 0, 2, 0), some (2, 0, 3, 0), some (30, 22, 216, 3), none, none, some (3, 0, 4, 1), none, some (2, 0, 4, 1), none, some (9, 0, 1, 168), none], [none, some (2, 2, 0, 0), some (13, 2, 12, 6), none, none, some (0, 112, 1, 2), none, some (2, 0, 2, 0), some (5, 0, 0, 0), some (2, 0, 3, 0), some (0, 1, 0, 1), some (5, 0, 0, 0), some (16, 0, 0, 4), some (11, 0, 0, 168), none, none], [some (2, 2, 0, 0), some (13, 2, 12, 6), none, none, some (0, 112, 1, 2), none, some (2, 0, 2, 0), some (5, 0, 0, 0), some (15, 0, 0, 0), some (9, 0, 1, 80), none, none, some (0, 1, 0, 1), some (11, 0, 0, 81), none, none], [some (0, 0, 0, 1), some (3, 0, 4, 1), none, some (2, 2, 0, 0), some (13, 2, 12, 6), none, none, some (0, 112, 1, 2), none, some (2, 0, 2, 0), some (5, 0, 0, 0), some (0, 0, 0, 1), some (16, 0, 0, 4), some (11, 0, 0, 168), none, none], [some (2, 2, 0, 0), some (2, 0, 2, 0), some (30, 22, 220, 2), none, none, some (3, 0, 4, 1), none, some (2, 0, 4, 1), none, some (9, 0, 1, 168), none, none, some (2, 2, 0, 0), some (2, 0, 2, 0), some (2, 0, 3, 0), some (30, 22, 221, 3)], [none, none, some (11, 0, 0, 168), none, none, some (2, 2, 0, 0), some (30, 22, 223, 1), none, none, some (3, 0, 4, 1), none, some (2, 0, 4, 1), none, some (9, 0, 1, 168), none, none], [some (2, 2, 0, 0), some (30, 22, 224, 1), none, none, some (11, 0, 0, 168), none, none, some (2, 2, 0, 0), some (13, 2, 12, 6), none, none, some (0, 99, 1, 2), none, some (15, 0, 0, 0), some (2, 0, 2, 0), some (5, 0, 0, 0)], [some (0, 1000, 2, 3), none, none, some (10, 0, 5, 154), none, none, some (0, 1, 0, 1), some (11, 0, 0, 155), none, none, some (0, 0, 0, 1), some (3, 0, 4, 1), none, some (2, 0, 4, 1), none, some (9, 0, 1, 168)], [none, none, some (2, 2, 0, 0), some (2, 0, 2, 0), some (30, 22, 226, 2), none, none, some (8, 0, 1, 0), some (2, 0, 4, 1), none, some (9, 0, 5, 183), none, none, some (0, 10, 1, 2), none, some (2, 0, 1, 0)], [some (5, 0, 2, 0), some (2, 0, 4, 1), none, some (5, 0, 0, 0), some (11, 0, 0, 184), none, none, some (0, 0, 0, 1), some (40, 0, 0, 0)]]
def g_k262 : List (List (List Nat)) := [[[], [], [], [], [], [], [], [], [], [], [], [], [], [], [], []], [[], [], [], [], [], [], [], [], [], [], [], [], [], [], [], []], [[], [], [], [], [], [], [], [275, 1643, 1645, 70, 119], [], [], [], [], [], [], [], []], [[], [], [33, 1354], [], [], [], [], [], [], [], [], [], [], [], [], []], [[], [33, 1354], [], [], [], [], [], [], [], [], [], [], [], [], [], []], [[], [], [], [], [33, 1354], [], [], [], [], [], [], [], [], [], [], []], [[], [], [281, 1659, 1661, 72, 119], [], [], [], [], [], [], [], [], [], [], [], [], [284, 1663, 1665, 73, 119]], [[], [], [], [], [], [], [288, 1671, 1673, 74, 119], [], [], [], [], [], [], [], [], []], [[], [291, 1675, 1677, 75, 119], [], [], [], [], [], [], [33, 1354], [], [], [], [], [], [], []], [[], [], [], [], [], [], [], [], [], [], [], [], [], [], [], []], [[], [], [], [], [294, 1683, 1685, 76, 119], [], [], [], [], [], [], [], [], [], [], []], [[], [], [], [], [], [], [], [], []]]
def g_m262 : MethodName × ByteArray × Nat × Option FieldType := (⟨"RideLawsModel", "does", "(III)I"⟩, prog_14_method_94_code, 5, some .int)
def g_c263 : List (List (Option (Nat × Int × Nat × Nat))) := [[some (2, 2, 0, 0), some (0, 0, 0, 1), some (14, 0, 12, 0), none, none, some (2, 2, 0, 0), some (13, 3, 12, 32), none, none, some (9, 0, 0, 30), none, none, some (2, 0, 1, 0), some (0, 0, 0, 1), some (0, 3, 0, 1), some (30, (-1), 189, 3)], [none, none, some (9, 0, 0, 30), none, none, some (2, 2, 0, 0), some (13, 2, 12, 31), none, none, some (2, 0, 1, 0), some (15, 0, 0, 0), some (11, 0, 0, 31), none, none, some (0, (-1), 0, 1), some (40, 0, 0, 0)]]
def g_k263 : List (List (List Nat)) := [[[], [], [1, 1348], [], [], [], [376, 1380], [], [], [], [], [], [], [], [], [169, 1537, 1538, 119]], [[], [], [], [], [], [], [59, 1379], [], [], [], [], [], [], [], [], []]]
def g_m263 : MethodName × ByteArray × Nat × Option FieldType := (⟨"RideLawsModel", "told", "(I)I"⟩, prog_14_method_96_code, 2, some .int)
def g_c264 : List (List (Option (Nat × Int × Nat × Nat))) := [[some (2, 2, 0, 0), some (0, 0, 0, 1), some (14, 0, 12, 0), none, none, some (2, 2, 0, 0), some (0, 200, 2, 3), none, none, some (30, 22, 175, 2), none, none, some (2, 2, 0, 0), some (0, 0, 0, 1), some (14, 0, 12, 15), none], [none, some (2, 2, 0, 0), some (0, 0, 0, 1), some (14, 0, 12, 34), none, none, some (2, 2, 0, 0), some (0, 0, 0, 1), some (14, 0, 12, 35), none, none, some (2, 2, 0, 0), some (0, 0, 0, 1), some (14, 0, 12, 36), none, none], [some (2, 2, 0, 0), some (0, 1, 0, 1), some (14, 0, 12, 37), none, none, some (2, 2, 0, 0), some (0, 0, 0, 1), some (14, 3, 12, 38), none, none, some (2, 2, 0, 0), some (30, 22, 176, 1), none, none, some (0, 1, 0, 1), some (3, 0, 1, 0)], [some (2, 0, 1, 0), some (9, 0, 0, 132), none, none, some (2, 2, 0, 0), some (13, 3, 12, 38), none, none, some (9, 0, 0, 101), none, none, some (2, 2, 0, 0), some (13, 0, 12, 11), none, none, some (9, 0, 1, 101)], [none, none, some (2, 2, 0, 0), some (30, 22, 265, 1), none, none, some (2, 2, 0, 0), some (0, 22, 1, 2), none, some (30, 22, 267, 2), none, none, some (2, 2, 0, 0), some (13, 0, 12, 36), none, none], [some (9, 0, 5, 96), none, none, some (2, 2, 0, 0), some (0, 1, 0, 1), some (30, 22, 183, 2), none, none, some (8, 0, 1, 0), some (0, (-1), 0, 1), some (2, 2, 0, 0), some (13, 0, 12, 16), none, none, some (5, 0, 1, 0), some (40, 0, 0, 0)], [some (0, 0, 0, 1), some (3, 0, 1, 0), some (11, 0, 0, 48), none, none, some (2, 2, 0, 0), some (13, 3, 12, 38), none, none, some (9, 0, 0, 118), none, none, some (2, 2, 0, 0), some (30, 22, 268, 1), none, none], [some (9, 0, 1, 48), none, none, some (11, 0, 0, 125), none, none, some (2, 2, 0, 0), some (30, 22, 269, 1), none, none, some (9, 0, 1, 48), none, none, some (0, (-1), 0, 1), some (2, 2, 0, 0), some (13, 0, 12, 16)], [none, none, some (5, 0, 1, 0), some (40, 0, 0, 0), some (2, 2, 0, 0), some (13, 2, 12, 6), none, none, some (0, 180, 2, 3), none, none, some (2, 2, 0, 0), some (13, 0, 12, 34), none, none, some (16, 0, 0, 4)], [some (0, 0, 0, 1), some (3, 0, 2, 0), some (2, 0, 2, 0), some (0, 3, 0, 1), some (2, 2, 0, 0), some (13, 0, 12, 34), none, none, some (5, 0, 2, 0), some (10, 0, 3, 178), none, none, some (2, 2, 0, 0), some (13, 2, 12, 6), none, none], [some (0, 181, 2, 3), none, none, some (2, 0, 2, 0), some (5, 0, 0, 0), some (2, 2, 0, 0), some (13, 2, 12, 8), none, none, some (2, 0, 2, 0), some (15, 0, 0, 0), some (16, 0, 0, 4), some (4, 1, 2, 0), none, none, some (11, 0, 0, 146)], [none, none, some (2, 2, 0, 0), some (13, 0, 12, 35), none, none, some (40, 0, 0, 0)]]
def g_k264 : List (List (List Nat)) := [[[], [], [1, 1348], [], [], [], [], [], [], [228, 1483, 1485, 40, 119], [], [], [], [], [154, 1363], []], [[], [], [], [379, 1382], [], [], [], [], [395, 1383], [], [], [], [], [382, 1384], [], []], [[], [], [389, 1385], [], [], [], [], [398, 1386], [], [], [], [166, 1487, 1489, 41, 119], [], [], [], []], [[], [], [], [], [], [398, 1386], [], [], [], [], [], [], [137, 1359], [], [], []], [[], [], [], [401, 1841, 1843, 93, 119], [], [], [], [], [], [404, 1849, 1851, 95, 119], [], [], [], [382, 1384], [], []], [[], [], [], [], [], [163, 1513, 1515, 46, 119], [], [], [], [], [], [157, 1364], [], [], [], []], [[], [], [], [], [], [], [398, 1386], [], [], [], [], [], [], [407, 1853, 1855, 96, 119], [], []], [[], [], [], [], [], [], [], [410, 1857, 1859, 97, 119], [], [], [], [], [], [], [], [157, 1364]], [[], [], [], [], [], [33, 1354], [], [], [], [], [], [], [379, 1382], [], [], []], [[], [], [], [], [], [379, 1382], [], [], [], [], [], [], [], [33, 1354], [], []], [[], [], [], [], [], [], [40, 1356], [], [], [], [], [], [], [], [], []], [[], [], [], [395, 1383], [], [], []]]
def g_m264 : MethodName × ByteArray × Nat × Option FieldType := (⟨"RideLawsModel", "sentence", "()I"⟩, prog_14_method_103_code, 3, some .int)
def g_c265 : List (List (Option (Nat × Int × Nat × Nat))) := [[some (2, 2, 0, 0), some (13, 0, 12, 36), none, none, some (9, 0, 5, 54), none, none, some (2, 2, 0, 0), some (13, 2, 12, 33), none, none, some (2, 2, 0, 0), some (13, 0, 12, 36), none, none, some (0, 1, 0, 1)], [some (5, 0, 1, 0), some (15, 0, 0, 0), some (0, 20, 1, 2), none, some (10, 0, 1, 54), none, none, some (2, 2, 0, 0), some (8, 0, 0, 0), some (13, 0, 12, 36), none, none, some (0, 1, 0, 1), some (5, 0, 1, 0), some (14, 0, 12, 36), none], [none, some (2, 2, 0, 0), some (8, 0, 0, 0), some (13, 0, 12, 37), none, none, some (0, 1, 0, 1), some (5, 0, 1, 0), some (14, 0, 12, 37), none, none, some (2, 2, 0, 0), some (0, 20, 1, 2), none, some (0, 0, 0, 1), some (0, 0, 0, 1)], [some (30, 22, 266, 4), none, none, some (11, 0, 0, 0), none, none, some (40, 0, 2, 0)]]
def g_k265 : List (List (List Nat)) := [[[], [382, 1384], [], [], [], [], [], [], [62, 1381], [], [], [], [382, 1384], [], [], []], [[], [], [], [], [], [], [], [], [], [382, 1384], [], [], [], [], [382, 1384], []], [[], [], [], [389, 1385], [], [], [], [], [389, 1385], [], [], [], [], [], [], []], [[385, 1845, 1847, 94, 119], [], [], [], [], [], []]]
def g_m265 : MethodName × ByteArray × Nat × Option FieldType := (⟨"RideLawsModel", "nots", "()V"⟩, prog_14_method_99_code, 1, none)
def g_c266 : List (List (Option (Nat × Int × Nat × Nat))) := [[some (2, 2, 0, 0), some (13, 2, 12, 8), none, none, some (0, 3, 0, 1), some (2, 2, 0, 0), some (13, 0, 12, 34), none, none, some (5, 0, 2, 0), some (2, 0, 1, 0), some (16, 0, 0, 4), some (2, 2, 0, 0), some (13, 2, 12, 8), none, none], [some (0, 3, 0, 1), some (2, 2, 0, 0), some (13, 0, 12, 34), none, none, some (5, 0, 2, 0), some (0, 1, 0, 1), some (5, 0, 0, 0), some (2, 0, 2, 0), some (16, 0, 0, 4), some (2, 2, 0, 0), some (13, 2, 12, 8), none, none, some (0, 3, 0, 1), some (2, 2, 0, 0)], [some (13, 0, 12, 34), none, none, some (5, 0, 2, 0), some (0, 2, 0, 1), some (5, 0, 0, 0), some (2, 0, 3, 0), some (16, 0, 0, 4), some (2, 2, 0, 0), some (8, 0, 0, 0), some (13, 0, 12, 34), none, none, some (0, 1, 0, 1), some (5, 0, 0, 0), some (14, 0, 12, 34)], [none, none, some (40, 0, 2, 0)]]
def g_k266 : List (List (List Nat)) := [[[], [40, 1356], [], [], [], [], [379, 1382], [], [], [], [], [], [], [40, 1356], [], []], [[], [], [379, 1382], [], [], [], [], [], [], [], [], [40, 1356], [], [], [], []], [[379, 1382], [], [], [], [], [], [], [], [], [], [379, 1382], [], [], [], [], [379, 1382]], [[], [], []]]
def g_m266 : MethodName × ByteArray × Nat × Option FieldType := (⟨"RideLawsModel", "code", "(III)V"⟩, prog_14_method_97_code, 4, none)
def g_c267 : List (List (Option (Nat × Int × Nat × Nat))) := [[some (2, 2, 0, 0), some (13, 0, 12, 36), none, none, some (9, 0, 5, 73), none, none, some (2, 2, 0, 0), some (13, 2, 12, 33), none, none, some (2, 2, 0, 0), some (13, 0, 12, 36), none, none, some (0, 1, 0, 1)], [some (5, 0, 1, 0), some (15, 0, 0, 0), some (0, 21, 1, 2), none, some (10, 0, 0, 45), none, none, some (2, 2, 0, 0), some (13, 2, 12, 33), none, none, some (2, 2, 0, 0), some (13, 0, 12, 36), none, none, some (0, 1, 0, 1)], [some (5, 0, 1, 0), some (15, 0, 0, 0), some (0, 22, 1, 2), none, some (10, 0, 1, 73), none, none, some (2, 0, 1, 0), some (0, 22, 1, 2), none, some (10, 0, 1, 73), none, none, some (2, 2, 0, 0), some (8, 0, 0, 0), some (13, 0, 12, 36)], [none, none, some (0, 1, 0, 1), some (5, 0, 1, 0), some (14, 0, 12, 36), none, none, some (2, 2, 0, 0), some (2, 2, 0, 0), some (13, 2, 12, 33), none, none, some (2, 2, 0, 0), some (13, 0, 12, 36), none, none], [some (15, 0, 0, 0), some (0, 0, 0, 1), some (0, 0, 0, 1), some (30, 22, 266, 4), none, none, some (11, 0, 0, 0), none, none, some (40, 0, 2, 0)]]
def g_k267 : List (List (List Nat)) := [[[], [382, 1384], [], [], [], [], [], [], [62, 1381], [], [], [], [382, 1384], [], [], []], [[], [], [], [], [], [], [], [], [62, 1381], [], [], [], [382, 1384], [], [], []], [[], [], [], [], [], [], [], [], [], [], [], [], [], [], [], [382, 1384]], [[], [], [], [], [382, 1384], [], [], [], [], [62, 1381], [], [], [], [382, 1384], [], []], [[], [], [], [385, 1845, 1847, 94, 119], [], [], [], [], [], []]]
def g_m267 : MethodName × ByteArray × Nat × Option FieldType := (⟨"RideLawsModel", "joins", "(I)V"⟩, prog_14_method_98_code, 2, none)
def g_c268 : List (List (Option (Nat × Int × Nat × Nat))) := [[some (2, 2, 0, 0), some (30, 22, 265, 1), none, none, some (2, 2, 0, 0), some (1, 6385252, 1, 3), none, none, some (30, 22, 181, 2), none, none, some (9, 0, 1, 24), none, none, some (2, 2, 0, 0), some (1, 28530, 1, 3)], [none, none, some (30, 22, 181, 2), none, none, some (9, 0, 0, 92), none, none, some (2, 2, 0, 0), some (2, 2, 0, 0), some (1, 6385252, 1, 3), none, none, some (30, 22, 181, 2), none, none], [some (9, 0, 0, 40), none, none, some (0, 21, 1, 2), none, some (11, 0, 0, 42), none, none, some (0, 22, 1, 2), none, some (30, 22, 267, 2), none, none, some (2, 2, 0, 0), some (13, 2, 12, 33), none], [none, some (2, 2, 0, 0), some (13, 0, 12, 36), none, none, some (2, 2, 0, 0), some (1, 6385252, 1, 3), none, none, some (30, 22, 181, 2), none, none, some (9, 0, 0, 68), none, none, some (0, 21, 1, 2)], [none, some (11, 0, 0, 70), none, none, some (0, 22, 1, 2), none, some (16, 0, 0, 4), some (2, 2, 0, 0), some (8, 0, 0, 0), some (13, 0, 12, 36), none, none, some (0, 1, 0, 1), some (5, 0, 0, 0), some (14, 0, 12, 36), none], [none, some (2, 2, 0, 0), some (0, 0, 0, 1), some (14, 3, 12, 38), none, none, some (2, 2, 0, 0), some (30, 22, 176, 1), none, none, some (0, 1, 0, 1), some (40, 0, 0, 1), some (2, 2, 0, 0), some (0, 22, 1, 2), none, some (30, 22, 267, 2)], [none, none, some (2, 2, 0, 0), some (0, 41, 1, 2), none, some (30, 22, 200, 2), none, none, some (9, 0, 0, 114), none, none, some (2, 2, 0, 0), some (13, 0, 12, 36), none, none, some (9, 0, 1, 120)], [none, none, some (2, 2, 0, 0), some (0, 1, 0, 1), some (30, 22, 183, 2), none, none, some (40, 0, 0, 1), some (2, 2, 0, 0), some (8, 0, 0, 0), some (13, 0, 12, 36), none, none, some (0, 1, 0, 1), some (5, 0, 1, 0), some (14, 0, 12, 36)], [none, none, some (2, 2, 0, 0), some (8, 0, 0, 0), some (13, 0, 12, 37), none, none, some (0, 1, 0, 1), some (5, 0, 1, 0), some (14, 0, 12, 37), none, none, some (2, 2, 0, 0), some (30, 22, 176, 1), none, none], [some (0, 1, 0, 1), some (40, 0, 0, 1)]]
def g_k268 : List (List (List Nat)) := [[[], [401, 1841, 1843, 93, 119], [], [], [], [104, 1334], [], [], [191, 1505, 1507, 44, 119], [], [], [], [], [], [], [102, 1333]], [[], [], [191, 1505, 1507, 44, 119], [], [], [], [], [], [], [], [104, 1334], [], [], [191, 1505, 1507, 44, 119], [], []], [[], [], [], [], [], [], [], [], [], [], [404, 1849, 1851, 95, 119], [], [], [], [62, 1381], []], [[], [], [382, 1384], [], [], [], [104, 1334], [], [], [191, 1505, 1507, 44, 119], [], [], [], [], [], []], [[], [], [], [], [], [], [], [], [], [382, 1384], [], [], [], [], [382, 1384], []], [[], [], [], [398, 1386], [], [], [], [166, 1487, 1489, 41, 119], [], [], [], [], [], [], [], [404, 1849, 1851, 95, 119]], [[], [], [], [], [], [160, 1579, 1581, 61, 119], [], [], [], [], [], [], [382, 1384], [], [], []], [[], [], [], [], [163, 1513, 1515, 46, 119], [], [], [], [], [], [382, 1384], [], [], [], [], [382, 1384]], [[], [], [], [], [389, 1385], [], [], [], [], [389, 1385], [], [], [], [166, 1487, 1489, 41, 119], [], []], [[], []]]
def g_m268 : MethodName × ByteArray × Nat × Option FieldType := (⟨"RideLawsModel", "behind", "()Z"⟩, prog_14_method_102_code, 1, some .boolean)
def g_c269 : List (List (Option (Nat × Int × Nat × Nat))) := [[some (2, 2, 0, 0), some (1, 7237492, 1, 3), none, none, some (30, 22, 181, 2), none, none, some (3, 0, 1, 0), some (2, 2, 0, 0), some (0, 40, 1, 2), none, some (30, 22, 200, 2), none, none, some (3, 0, 2, 0), some (2, 2, 0, 0)], [some (30, 22, 270, 1), none, none, some (3, 0, 3, 0), some (2, 0, 1, 0), some (9, 0, 1, 38), none, none, some (2, 0, 2, 0), some (9, 0, 1, 38), none, none, some (2, 0, 3, 0), some (9, 0, 3, 38), none, none], [some (2, 2, 0, 0), some (0, 1, 0, 1), some (30, 22, 183, 2), none, none, some (40, 0, 0, 1), some (2, 2, 0, 0), some (13, 0, 12, 35), none, none, some (0, 20, 1, 2), none, some (10, 0, 0, 56), none, none, some (2, 2, 0, 0)], [some (13, 0, 12, 37), none, none, some (0, 8, 1, 2), none, some (10, 0, 5, 62), none, none, some (2, 2, 0, 0), some (0, 4, 0, 1), some (30, 22, 183, 2), none, none, some (40, 0, 0, 1), some (2, 2, 0, 0), some (8, 0, 0, 0)], [some (13, 0, 12, 35), none, none, some (0, 1, 0, 1), some (5, 0, 0, 0), some (14, 0, 12, 35), none, none, some (2, 2, 0, 0), some (30, 22, 176, 1), none, none, some (2, 0, 1, 0), some (9, 0, 1, 84), none, none], [some (2, 0, 2, 0), some (9, 0, 0, 126), none, none, some (2, 2, 0, 0), some (13, 2, 12, 33), none, none, some (2, 2, 0, 0), some (13, 0, 12, 36), none, none, some (2, 0, 1, 0), some (9, 0, 0, 101), none, none], [some (0, 20, 1, 2), none, some (11, 0, 0, 103), none, none, some (0, 23, 1, 2), none, some (16, 0, 0, 4), some (2, 2, 0, 0), some (8, 0, 0, 0), some (13, 0, 12, 36), none, none, some (0, 1, 0, 1), some (5, 0, 0, 0), some (14, 0, 12, 36)], [none, none, some (2, 2, 0, 0), some (8, 0, 0, 0), some (13, 0, 12, 37), none, none, some (0, 1, 0, 1), some (5, 0, 0, 0), some (14, 0, 12, 37), none, none, some (0, 1, 0, 1), some (40, 0, 0, 1), some (2, 2, 0, 0), some (0, 1, 0, 1)], [some (14, 3, 12, 38), none, none, some (2, 0, 3, 0), some (0, 3, 0, 1), some (10, 0, 3, 145), none, none, some (2, 2, 0, 0), some (2, 0, 3, 0), some (0, 0, 0, 1), some (0, 0, 0, 1), some (30, 22, 266, 4), none, none, some (0, 1, 0, 1)], [some (40, 0, 0, 1), some (2, 0, 3, 0), some (0, 5, 0, 1), some (10, 0, 3, 206), none, none, some (2, 0, 3, 0), some (0, 3, 0, 1), some (10, 0, 1, 169), none, none, some (2, 2, 0, 0), some (0, 3, 0, 1), some (2, 2, 0, 0), some (13, 2, 12, 6), none], [none, some (0, 1, 0, 1), some (15, 0, 0, 0), some (30, 22, 192, 3), none, none, some (11, 0, 0, 181), none, none, some (2, 2, 0, 0), some (0, 11, 1, 2), none, some (2, 2, 0, 0), some (13, 2, 12, 6), none, none], [some (0, 2, 0, 1), some (15, 0, 0, 0), some (30, 22, 192, 3), none, none, some (3, 0, 4, 1), none, some (2, 0, 4, 1), none, some (9, 0, 1, 190), none, none, some (0, 0, 0, 1), some (40, 0, 0, 1), some (2, 2, 0, 0), some (2, 0, 3, 0)], [some (0, 0, 0, 1), some (2, 2, 0, 0), some (13, 0, 12, 18), none, none, some (30, 22, 266, 4), none, none, some (2, 2, 0, 0), some (30, 22, 176, 1), none, none, some (0, 1, 0, 1), some (40, 0, 0, 1), some (2, 2, 0, 0), some (13, 0, 12, 11)], [none, none, some (0, 3, 0, 1), some (10, 0, 1, 232), none, none, some (2, 2, 0, 0), some (13, 0, 12, 14), none, none, some (0, 60, 1, 2), none, some (10, 0, 2, 232), none, none, some (2, 2, 0, 0)], [some (13, 0, 12, 14), none, none, some (0, 62, 1, 2), none, some (10, 0, 5, 238), none, none, some (2, 2, 0, 0), some (0, 1, 0, 1), some (30, 22, 183, 2), none, none, some (40, 0, 0, 1), some (2, 2, 0, 0), some (13, 0, 12, 14)], [none, none, some (3, 0, 4, 1), none, some (2, 2, 0, 0), some (30, 22, 176, 1), none, none, some (2, 2, 0, 0), some (13, 0, 12, 11), none, none, some (0, 2, 0, 1), some (10, 0, 0, 262), none, none], [some (2, 2, 0, 0), some (0, 1, 0, 1), some (30, 22, 183, 2), none, none, some (40, 0, 0, 1), some (2, 2, 0, 0), some (2, 0, 3, 0), some (2, 0, 4, 1), none, some (2, 2, 0, 0), some (13, 0, 12, 14), none, none, some (30, 22, 266, 4), none], [none, some (2, 2, 0, 0), some (30, 22, 176, 1), none, none, some (0, 1, 0, 1), some (40, 0, 0, 1)]]
def g_k269 : List (List (List Nat)) := [[[], [106, 1335], [], [], [191, 1505, 1507, 44, 119], [], [], [], [], [], [], [160, 1579, 1581, 61, 119], [], [], [], []], [[392, 1861, 1863, 98, 119], [], [], [], [], [], [], [], [], [], [], [], [], [], [], []], [[], [], [163, 1513, 1515, 46, 119], [], [], [], [], [395, 1383], [], [], [], [], [], [], [], []], [[389, 1385], [], [], [], [], [], [], [], [], [], [163, 1513, 1515, 46, 119], [], [], [], [], []], [[395, 1383], [], [], [], [], [395, 1383], [], [], [], [166, 1487, 1489, 41, 119], [], [], [], [], [], []], [[], [], [], [], [], [62, 1381], [], [], [], [382, 1384], [], [], [], [], [], []], [[], [], [], [], [], [], [], [], [], [], [382, 1384], [], [], [], [], [382, 1384]], [[], [], [], [], [389, 1385], [], [], [], [], [389, 1385], [], [], [], [], [], []], [[398, 1386], [], [], [], [], [], [], [], [], [], [], [], [385, 1845, 1847, 94, 119], [], [], []], [[], [], [], [], [], [], [], [], [], [], [], [], [], [], [33, 1354], []], [[], [], [], [188, 1548, 1550, 54, 119], [], [], [], [], [], [], [], [], [], [33, 1354], [], []], [[], [], [188, 1548, 1550, 54, 119], [], [], [], [], [], [], [], [], [], [], [], [], []], [[], [], [173, 1366], [], [], [385, 1845, 1847, 94, 119], [], [], [], [166, 1487, 1489, 41, 119], [], [], [], [], [], [137, 1359]], [[], [], [], [], [], [], [], [147, 1362], [], [], [], [], [], [], [], []], [[147, 1362], [], [], [], [], [], [], [], [], [], [163, 1513, 1515, 46, 119], [], [], [], [], [147, 1362]], [[], [], [], [], [], [166, 1487, 1489, 41, 119], [], [], [], [137, 1359], [], [], [], [], [], []], [[], [], [163, 1513, 1515, 46, 119], [], [], [], [], [], [], [], [], [147, 1362], [], [], [385, 1845, 1847, 94, 119], []], [[], [], [166, 1487, 1489, 41, 119], [], [], [], []]]
def g_m269 : MethodName × ByteArray × Nat × Option FieldType := (⟨"RideLawsModel", "operand", "()Z"⟩, prog_14_method_101_code, 5, some .boolean)
def g_c270 : List (List (Option (Nat × Int × Nat × Nat))) := [[some (2, 2, 0, 0), some (1, 30064, 1, 3), none, none, some (30, 22, 181, 2), none, none, some (9, 0, 0, 14), none, none, some (0, 0, 0, 1), some (11, 0, 0, 115), none, none, some (2, 2, 0, 0), some (1, 1836414053, 1, 3)], [none, none, some (30, 22, 181, 2), none, none, some (9, 0, 0, 28), none, none, some (0, 1, 0, 1), some (11, 0, 0, 115), none, none, some (2, 2, 0, 0), some (1, 119165820433268, 1, 3), none, none], [some (30, 22, 181, 2), none, none, some (9, 0, 0, 42), none, none, some (0, 2, 0, 1), some (11, 0, 0, 115), none, none, some (2, 2, 0, 0), some (1, 28526, 1, 3), none, none, some (30, 22, 181, 2), none], [none, some (9, 0, 0, 56), none, none, some (0, 3, 0, 1), some (11, 0, 0, 115), none, none, some (2, 2, 0, 0), some (1, 461414299507, 1, 3), none, none, some (30, 22, 181, 2), none, none, some (9, 0, 0, 70)], [none, none, some (0, 4, 0, 1), some (11, 0, 0, 115), none, none, some (2, 2, 0, 0), some (1, 1935763812, 1, 3), none, none, some (30, 22, 181, 2), none, none, some (9, 0, 0, 84), none, none], [some (0, 5, 0, 1), some (11, 0, 0, 115), none, none, some (2, 2, 0, 0), some (1, 1919904876, 1, 3), none, none, some (30, 22, 181, 2), none, none, some (9, 0, 0, 99), none, none, some (0, 6, 1, 2), none], [some (11, 0, 0, 115), none, none, some (2, 2, 0, 0), some (1, 121450625394034, 1, 3), none, none, some (30, 22, 181, 2), none, none, some (9, 0, 0, 114), none, none, some (0, 7, 1, 2), none, some (11, 0, 0, 115)], [none, none, some (0, (-1), 0, 1), some (40, 0, 0, 0)]]
def g_k270 : List (List (List Nat)) := [[[], [108, 1336], [], [], [191, 1505, 1507, 44, 119], [], [], [], [], [], [], [], [], [], [], [110, 1337]], [[], [], [191, 1505, 1507, 44, 119], [], [], [], [], [], [], [], [], [], [], [112, 1338], [], []], [[191, 1505, 1507, 44, 119], [], [], [], [], [], [], [], [], [], [], [114, 1339], [], [], [191, 1505, 1507, 44, 119], []], [[], [], [], [], [], [], [], [], [], [116, 1340], [], [], [191, 1505, 1507, 44, 119], [], [], []], [[], [], [], [], [], [], [], [118, 1341], [], [], [191, 1505, 1507, 44, 119], [], [], [], [], []], [[], [], [], [], [], [120, 1342], [], [], [191, 1505, 1507, 44, 119], [], [], [], [], [], [], []], [[], [], [], [], [122, 1343], [], [], [191, 1505, 1507, 44, 119], [], [], [], [], [], [], [], []], [[], [], [], []]]
def g_m270 : MethodName × ByteArray × Nat × Option FieldType := (⟨"RideLawsModel", "leafOf", "()I"⟩, prog_14_method_100_code, 1, some .int)
def g_c271 : List (List (Option (Nat × Int × Nat × Nat))) := [[some (2, 2, 0, 0), some (0, 0, 0, 1), some (14, 0, 12, 0), none, none, some (2, 2, 0, 0), some (13, 2, 12, 6), none, none, some (0, 180, 2, 3), none, none, some (15, 0, 0, 0), some (9, 0, 0, 21), none, none], [some (2, 0, 1, 0), some (0, (-1), 0, 1), some (10, 0, 3, 23), none, none, some (0, (-1), 0, 1), some (40, 0, 0, 0), some (0, 0, 0, 1), some (3, 0, 2, 0), some (0, 0, 0, 1), some (3, 0, 3, 0), some (2, 0, 3, 0), some (2, 2, 0, 0), some (13, 2, 12, 6), none, none], [some (0, 3, 0, 1), some (15, 0, 0, 0), some (10, 0, 3, 64), none, none, some (2, 2, 0, 0), some (2, 0, 3, 0), some (30, 22, 272, 2), none, none, some (9, 0, 1, 48), none, none, some (11, 0, 0, 58), none, none], [some (2, 0, 2, 0), some (2, 0, 1, 0), some (10, 0, 1, 55), none, none, some (2, 0, 3, 0), some (40, 0, 0, 0), some (4, 1, 2, 0), none, none, some (4, 1, 3, 0), none, none, some (11, 0, 0, 27), none, none], [some (2, 0, 1, 0), some (0, (-1), 0, 1), some (10, 0, 1, 73), none, none, some (2, 0, 2, 0), some (11, 0, 0, 74), none, none, some (0, (-1), 0, 1), some (40, 0, 0, 0)]]
def g_k271 : List (List (List Nat)) := [[[], [], [1, 1348], [], [], [], [33, 1354], [], [], [], [], [], [], [], [], []], [[], [], [], [], [], [], [], [], [], [], [], [], [], [33, 1354], [], []], [[], [], [], [], [], [], [], [417, 1869, 1871, 99, 119], [], [], [], [], [], [], [], []], [[], [], [], [], [], [], [], [], [], [], [], [], [], [], [], []], [[], [], [], [], [], [], [], [], [], [], []]]
def g_m271 : MethodName × ByteArray × Nat × Option FieldType := (⟨"RideLawsModel", "said", "(I)I"⟩, prog_14_method_106_code, 4, some .int)
def g_c272 : List (List (Option (Nat × Int × Nat × Nat))) := [[some (0, 0, 0, 1), some (3, 0, 2, 0), some (0, 0, 0, 1), some (3, 0, 3, 0), some (2, 0, 3, 0), some (2, 2, 0, 0), some (13, 2, 12, 6), none, none, some (0, 180, 2, 3), none, none, some (15, 0, 0, 0), some (10, 0, 3, 212), none, none], [some (0, 181, 2, 3), none, none, some (0, 3, 0, 1), some (2, 0, 3, 0), some (5, 0, 2, 0), some (5, 0, 0, 0), some (3, 0, 4, 1), none, some (2, 2, 0, 0), some (13, 2, 12, 6), none, none, some (2, 0, 4, 1), none, some (15, 0, 0, 0)], [some (0, 20, 1, 2), none, some (10, 0, 1, 64), none, none, some (2, 2, 0, 0), some (13, 2, 12, 39), none, none, some (2, 0, 2, 0), some (0, 1, 0, 1), some (5, 0, 1, 0), some (2, 2, 0, 0), some (13, 2, 12, 39), none, none], [some (2, 0, 2, 0), some (0, 1, 0, 1), some (5, 0, 1, 0), some (15, 0, 1, 0), some (9, 0, 1, 59), none, none, some (0, 1, 0, 1), some (11, 0, 0, 60), none, none, some (0, 0, 0, 1), some (16, 0, 1, 4), some (11, 0, 0, 206), none, none], [some (2, 2, 0, 0), some (13, 2, 12, 6), none, none, some (2, 0, 4, 1), none, some (15, 0, 0, 0), some (0, 21, 1, 2), none, some (10, 0, 0, 88), none, none, some (2, 2, 0, 0), some (13, 2, 12, 6), none, none], [some (2, 0, 4, 1), none, some (15, 0, 0, 0), some (0, 22, 1, 2), none, some (10, 0, 1, 167), none, none, some (4, (-1), 2, 0), none, none, some (2, 2, 0, 0), some (13, 2, 12, 39), none, none, some (2, 0, 2, 0)], [some (0, 1, 0, 1), some (5, 0, 1, 0), some (2, 2, 0, 0), some (13, 2, 12, 6), none, none, some (2, 0, 4, 1), none, some (15, 0, 0, 0), some (0, 21, 1, 2), none, some (10, 0, 1, 138), none, none, some (2, 2, 0, 0), some (13, 2, 12, 39)], [none, none, some (2, 0, 2, 0), some (0, 1, 0, 1), some (5, 0, 1, 0), some (15, 0, 1, 0), some (9, 0, 0, 134), none, none, some (2, 2, 0, 0), some (13, 2, 12, 39), none, none, some (2, 0, 2, 0), some (15, 0, 1, 0), some (9, 0, 0, 134)], [none, none, some (0, 1, 0, 1), some (11, 0, 0, 163), none, none, some (0, 0, 0, 1), some (11, 0, 0, 163), none, none, some (2, 2, 0, 0), some (13, 2, 12, 39), none, none, some (2, 0, 2, 0), some (0, 1, 0, 1)], [some (5, 0, 1, 0), some (15, 0, 1, 0), some (9, 0, 1, 158), none, none, some (2, 2, 0, 0), some (13, 2, 12, 39), none, none, some (2, 0, 2, 0), some (15, 0, 1, 0), some (9, 0, 0, 162), none, none, some (0, 1, 0, 1), some (11, 0, 0, 163)], [none, none, some (0, 0, 0, 1), some (16, 0, 1, 4), some (11, 0, 0, 206), none, none, some (2, 2, 0, 0), some (13, 2, 12, 39), none, none, some (2, 0, 2, 0), some (2, 2, 0, 0), some (2, 0, 1, 0), some (2, 2, 0, 0), some (13, 2, 12, 6)], [none, none, some (2, 0, 4, 1), none, some (15, 0, 0, 0), some (2, 2, 0, 0), some (13, 2, 12, 6), none, none, some (2, 0, 4, 1), none, some (0, 1, 0, 1), some (5, 0, 0, 0), some (15, 0, 0, 0), some (2, 2, 0, 0), some (13, 2, 12, 6)], [none, none, some (2, 0, 4, 1), none, some (0, 2, 0, 1), some (5, 0, 0, 0), some (15, 0, 0, 0), some (30, 22, 273, 5), none, none, some (16, 0, 1, 4), some (4, 1, 2, 0), none, none, some (4, 1, 3, 0), none], [none, some (11, 0, 0, 4), none, none, some (2, 2, 0, 0), some (13, 2, 12, 39), none, none, some (0, 0, 0, 1), some (15, 0, 1, 0), some (40, 0, 0, 1)]]
def g_k272 : List (List (List Nat)) := [[[], [], [], [], [], [], [33, 1354], [], [], [], [], [], [], [], [], []], [[], [], [], [], [], [], [], [], [], [], [33, 1354], [], [], [], [], []], [[], [], [], [], [], [], [65, 1387], [], [], [], [], [], [], [65, 1387], [], []], [[], [], [], [], [], [], [], [], [], [], [], [], [], [], [], []], [[], [33, 1354], [], [], [], [], [], [], [], [], [], [], [], [33, 1354], [], []], [[], [], [], [], [], [], [], [], [], [], [], [], [65, 1387], [], [], []], [[], [], [], [33, 1354], [], [], [], [], [], [], [], [], [], [], [], [65, 1387]], [[], [], [], [], [], [], [], [], [], [], [65, 1387], [], [], [], [], []], [[], [], [], [], [], [], [], [], [], [], [], [65, 1387], [], [], [], []], [[], [], [], [], [], [], [65, 1387], [], [], [], [], [], [], [], [], []], [[], [], [], [], [], [], [], [], [65, 1387], [], [], [], [], [], [], [33, 1354]], [[], [], [], [], [], [], [33, 1354], [], [], [], [], [], [], [], [], [33, 1354]], [[], [], [], [], [], [], [], [413, 1873, 1875, 100, 119], [], [], [], [], [], [], [], []], [[], [], [], [], [], [65, 1387], [], [], [], [], []]]
def g_m272 : MethodName × ByteArray × Nat × Option FieldType := (⟨"RideLawsModel", "isSaid", "(I)Z"⟩, prog_14_method_105_code, 5, some .boolean)
def g_c273 : List (List (Option (Nat × Int × Nat × Nat))) := [[some (2, 0, 2, 0), some (20, 0, 124, 13), none, none, none, none, none, none, none, none, none, none, none, none, none, none], [none, none, none, none, none, none, none, none, none, none, none, none, none, none, none, none], [none, none, none, none, some (2, 2, 0, 0), some (13, 2, 12, 6), none, none, some (0, 112, 1, 2), none, some (2, 0, 1, 0), some (5, 0, 0, 0), some (15, 0, 0, 0), some (9, 0, 5, 52), none, none], [some (0, 1, 0, 1), some (11, 0, 0, 53), none, none, some (0, 0, 0, 1), some (40, 0, 0, 1), some (2, 2, 0, 0), some (13, 2, 12, 6), none, none, some (0, 118, 1, 2), none, some (2, 0, 1, 0), some (5, 0, 0, 0), some (15, 0, 0, 0), some (9, 0, 1, 70)], [none, none, some (0, 1, 0, 1), some (11, 0, 0, 71), none, none, some (0, 0, 0, 1), some (40, 0, 0, 1), some (2, 2, 0, 0), some (13, 2, 12, 6), none, none, some (0, 101, 1, 2), none, some (15, 0, 0, 0), some (2, 0, 1, 0)], [some (0, 1, 0, 1), some (5, 0, 0, 0), some (10, 0, 1, 89), none, none, some (0, 1, 0, 1), some (11, 0, 0, 90), none, none, some (0, 0, 0, 1), some (40, 0, 0, 1), some (2, 2, 0, 0), some (13, 2, 12, 6), none, none, some (0, 112, 1, 2)], [none, some (2, 0, 1, 0), some (5, 0, 0, 0), some (15, 0, 0, 0), some (2, 0, 4, 1), none, some (0, 1, 0, 1), some (5, 0, 0, 0), some (10, 0, 1, 111), none, none, some (0, 1, 0, 1), some (11, 0, 0, 112), none, none, some (0, 0, 0, 1)], [some (40, 0, 0, 1), some (2, 2, 0, 0), some (2, 0, 1, 0), some (30, 22, 206, 2), none, none, some (2, 0, 4, 1), none, some (30, (-1), 198, 2), none, none, some (40, 0, 0, 1), some (2, 0, 2, 0), some (0, 5, 0, 1), some (10, 0, 1, 142), none], [none, some (2, 2, 0, 0), some (13, 2, 12, 6), none, none, some (0, 166, 2, 3), none, none, some (2, 0, 1, 0), some (5, 0, 0, 0), some (15, 0, 0, 0), some (11, 0, 0, 161), none, none, some (2, 0, 2, 0), some (0, 6, 1, 2)], [none, some (10, 0, 1, 160), none, none, some (2, 2, 0, 0), some (13, 2, 12, 6), none, none, some (0, 118, 1, 2), none, some (2, 0, 1, 0), some (5, 0, 0, 0), some (15, 0, 0, 0), some (11, 0, 0, 161), none, none], [some (2, 0, 1, 0), some (3, 0, 5, 1), none, some (2, 0, 3, 0), some (0, 60, 1, 2), none, some (10, 0, 1, 184), none, none, some (2, 0, 5, 1), none, some (2, 0, 4, 1), none, some (10, 0, 3, 180), none, none], [some (0, 1, 0, 1), some (11, 0, 0, 217), none, none, some (0, 0, 0, 1), some (11, 0, 0, 217), none, none, some (2, 0, 3, 0), some (0, 61, 1, 2), none, some (10, 0, 1, 205), none, none, some (2, 0, 5, 1), none], [some (2, 0, 4, 1), none, some (10, 0, 1, 201), none, none, some (0, 1, 0, 1), some (11, 0, 0, 217), none, none, some (0, 0, 0, 1), some (11, 0, 0, 217), none, none, some (2, 0, 5, 1), none, some (2, 0, 4, 1)], [none, some (10, 0, 5, 216), none, none, some (0, 1, 0, 1), some (11, 0, 0, 217), none, none, some (0, 0, 0, 1), some (40, 0, 0, 1)]]
def g_k273 : List (List (List Nat)) := [[[], [], [], [], [], [], [], [], [], [], [], [], [], [], [], []], [[], [], [], [], [], [], [], [], [], [], [], [], [], [], [], []], [[], [], [], [], [], [33, 1354], [], [], [], [], [], [], [], [], [], []], [[], [], [], [], [], [], [], [33, 1354], [], [], [], [], [], [], [], []], [[], [], [], [], [], [], [], [], [], [33, 1354], [], [], [], [], [], []], [[], [], [], [], [], [], [], [], [], [], [], [], [33, 1354], [], [], []], [[], [], [], [], [], [], [], [], [], [], [], [], [], [], [], []], [[], [], [], [254, 1603, 1605, 65, 119], [], [], [], [], [225, 1572, 1573, 119], [], [], [], [], [], [], []], [[], [], [33, 1354], [], [], [], [], [], [], [], [], [], [], [], [], []], [[], [], [], [], [], [33, 1354], [], [], [], [], [], [], [], [], [], []], [[], [], [], [], [], [], [], [], [], [], [], [], [], [], [], []], [[], [], [], [], [], [], [], [], [], [], [], [], [], [], [], []], [[], [], [], [], [], [], [], [], [], [], [], [], [], [], [], []], [[], [], [], [], [], [], [], [], [], []]]
def g_m273 : MethodName × ByteArray × Nat × Option FieldType := (⟨"RideLawsModel", "isLeaf", "(IIII)Z"⟩, prog_14_method_104_code, 6, some .boolean)
def g_c274 : List (List (Option (Nat × Int × Nat × Nat))) := [[some (2, 2, 0, 0), some (0, 0, 0, 1), some (14, 0, 12, 0), none, none, some (2, 0, 1, 0), some (0, 0, 0, 1), some (0, 1, 0, 1), some (30, (-1), 189, 3), none, none, some (9, 0, 1, 16), none, none, some (0, 0, 0, 1), some (40, 0, 0, 1)], [some (0, 0, 0, 1), some (3, 0, 2, 0), some (2, 0, 2, 0), some (0, 361, 2, 3), none, none, some (10, 0, 3, 49), none, none, some (2, 2, 0, 0), some (13, 2, 12, 40), none, none, some (0, 361, 2, 3), none, none], [some (2, 0, 1, 0), some (5, 0, 2, 0), some (2, 0, 2, 0), some (5, 0, 0, 0), some (2, 2, 0, 0), some (13, 2, 12, 6), none, none, some (2, 0, 2, 0), some (15, 0, 0, 0), some (16, 0, 0, 4), some (4, 1, 2, 0), none, none, some (11, 0, 0, 18), none], [none, some (0, 0, 0, 1), some (3, 0, 2, 0), some (2, 0, 2, 0), some (0, 33, 1, 2), none, some (10, 0, 3, 80), none, none, some (2, 2, 0, 0), some (13, 2, 12, 41), none, none, some (0, 33, 1, 2), none, some (2, 0, 1, 0)], [some (5, 0, 2, 0), some (2, 0, 2, 0), some (5, 0, 0, 0), some (2, 2, 0, 0), some (13, 2, 12, 9), none, none, some (2, 0, 2, 0), some (15, 0, 2, 0), some (16, 0, 2, 4), some (4, 1, 2, 0), none, none, some (11, 0, 0, 51), none, none], [some (2, 2, 0, 0), some (13, 2, 12, 42), none, none, some (2, 0, 1, 0), some (0, 1, 0, 1), some (16, 0, 1, 4), some (0, 1, 0, 1), some (40, 0, 0, 1)]]
def g_k274 : List (List (List Nat)) := [[[], [], [1, 1348], [], [], [], [], [], [169, 1537, 1538, 119], [], [], [], [], [], [], []], [[], [], [], [], [], [], [], [], [], [], [69, 1388], [], [], [], [], []], [[], [], [], [], [], [33, 1354], [], [], [], [], [], [], [], [], [], []], [[], [], [], [], [], [], [], [], [], [], [72, 1389], [], [], [], [], []], [[], [], [], [], [43, 1357], [], [], [], [], [], [], [], [], [], [], []], [[], [75, 1390], [], [], [], [], [], [], []]]
def g_m274 : MethodName × ByteArray × Nat × Option FieldType := (⟨"RideLawsModel", "image", "(I)Z"⟩, prog_14_method_107_code, 3, some .boolean)
def g_c275 : List (List (Option (Nat × Int × Nat × Nat))) := [[some (2, 2, 0, 0), some (0, 0, 0, 1), some (14, 0, 12, 0), none, none, some (2, 0, 1, 0), some (0, 0, 0, 1), some (0, 1, 0, 1), some (30, (-1), 189, 3), none, none, some (9, 0, 0, 23), none, none, some (2, 2, 0, 0), some (13, 2, 12, 42)], [none, none, some (2, 0, 1, 0), some (15, 0, 1, 0), some (9, 0, 1, 25), none, none, some (0, 0, 0, 1), some (40, 0, 0, 1), some (0, 0, 0, 1), some (3, 0, 2, 0), some (2, 0, 2, 0), some (0, 361, 2, 3), none, none, some (10, 0, 3, 58)], [none, none, some (2, 2, 0, 0), some (13, 2, 12, 6), none, none, some (2, 0, 2, 0), some (2, 2, 0, 0), some (13, 2, 12, 40), none, none, some (0, 361, 2, 3), none, none, some (2, 0, 1, 0), some (5, 0, 2, 0)], [some (2, 0, 2, 0), some (5, 0, 0, 0), some (15, 0, 0, 0), some (16, 0, 0, 4), some (4, 1, 2, 0), none, none, some (11, 0, 0, 27), none, none, some (0, 0, 0, 1), some (3, 0, 2, 0), some (2, 0, 2, 0), some (0, 33, 1, 2), none, some (10, 0, 3, 89)], [none, none, some (2, 2, 0, 0), some (13, 2, 12, 9), none, none, some (2, 0, 2, 0), some (2, 2, 0, 0), some (13, 2, 12, 41), none, none, some (0, 33, 1, 2), none, some (2, 0, 1, 0), some (5, 0, 2, 0), some (2, 0, 2, 0)], [some (5, 0, 0, 0), some (15, 0, 2, 0), some (16, 0, 2, 4), some (4, 1, 2, 0), none, none, some (11, 0, 0, 60), none, none, some (2, 2, 0, 0), some (0, 0, 0, 1), some (14, 0, 12, 22), none, none, some (0, 1, 0, 1), some (40, 0, 0, 1)]]
def g_k275 : List (List (List Nat)) := [[[], [], [1, 1348], [], [], [], [], [], [169, 1537, 1538, 119], [], [], [], [], [], [], [75, 1390]], [[], [], [], [], [], [], [], [], [], [], [], [], [], [], [], []], [[], [], [], [33, 1354], [], [], [], [], [69, 1388], [], [], [], [], [], [], []], [[], [], [], [], [], [], [], [], [], [], [], [], [], [], [], []], [[], [], [], [43, 1357], [], [], [], [], [72, 1389], [], [], [], [], [], [], []], [[], [], [], [], [], [], [], [], [], [], [], [240, 1370], [], [], [], []]]
def g_m275 : MethodName × ByteArray × Nat × Option FieldType := (⟨"RideLawsModel", "restore", "(I)Z"⟩, prog_14_method_108_code, 3, some .boolean)
def g_c276 : List (List (Option (Nat × Int × Nat × Nat))) := [[some (2, 2, 0, 0), some (0, 0, 0, 1), some (14, 0, 12, 0), none, none, some (2, 0, 1, 0), some (0, 5, 0, 1), some (10, 0, 1, 17), none, none, some (2, 2, 0, 0), some (13, 0, 12, 2), none, none, some (11, 0, 0, 36), none], [none, some (2, 0, 1, 0), some (0, 0, 0, 1), some (0, 4, 0, 1), some (30, (-1), 189, 3), none, none, some (9, 0, 0, 35), none, none, some (2, 2, 0, 0), some (13, 2, 12, 6), none, none, some (2, 0, 1, 0), some (15, 0, 0, 0)], [some (11, 0, 0, 36), none, none, some (0, (-1), 0, 1), some (40, 0, 0, 0)]]
def g_k276 : List (List (List Nat)) := [[[], [], [1, 1348], [], [], [], [], [], [], [], [], [7, 1350], [], [], [], []], [[], [], [], [], [169, 1537, 1538, 119], [], [], [], [], [], [], [33, 1354], [], [], [], []], [[], [], [], [], []]]
def g_m276 : MethodName × ByteArray × Nat × Option FieldType := (⟨"RideLawsModel", "count", "(I)I"⟩, prog_14_method_109_code, 2, some .int)
def g_c277 : List (List (Option (Nat × Int × Nat × Nat))) := [[some (18, 0, 0, 0), none, none, some (8, 0, 0, 0), some (30, (-2), 0, 1), none, none, some (3, 2, 1, 0), some (18, 0, 12, 0), none, none, some (8, 0, 0, 0), some (30, (-2), 172, 1), none, none, some (3, 2, 2, 0)], [some (0, 1, 0, 1), some (17, 0, 2, 0), none, some (3, 2, 3, 0), some (0, 0, 0, 1), some (3, 0, 4, 1), none, some (2, 0, 4, 1), none, some (2, 2, 0, 0), some (22, 0, 2, 0), some (0, 6, 1, 2), none, some (5, 0, 1, 0), some (10, 0, 4, 1353), none], [none, some (2, 2, 0, 0), some (2, 0, 4, 1), none, some (22, 0, 1, 0), some (0, 63, 1, 2), none, some (5, 0, 3, 0), some (20, 0, 1347, 14), none, none, none, none, none, none, none], [none, none, none, none, none, none, none, none, none, none, none, none, none, none, none, none], [none, none, none, none, none, none, none, none, none, none, none, none, none, none, none, none], [none, none, none, none, none, none, none, none, none, none, none, none, none, none, none, none], [none, none, none, none, none, none, none, none, none, none, none, none, none, none, none, none], [none, none, none, none, none, none, none, none, none, none, none, none, none, none, none, none], [none, none, none, none, none, none, none, none, none, none, none, none, none, none, none, none], [none, none, none, none, none, none, none, none, none, none, none, none, none, none, none, none], [none, none, none, none, none, none, none, none, none, none, none, none, none, none, none, none], [none, none, none, none, none, none, none, none, none, none, none, none, none, none, none, none], [none, none, none, none, none, none, none, none, none, none, none, none, none, none, none, none], [some (2, 2, 1, 0), some (2, 2, 0, 0), some (2, 0, 4, 1), none, some (0, 1, 0, 1), some (5, 0, 0, 0), some (22, 0, 1, 0), some (2, 2, 0, 0), some (2, 0, 4, 1), none, some (0, 2, 0, 1), some (5, 0, 0, 0), some (22, 0, 1, 0), some (2, 2, 0, 0), some (2, 0, 4, 1), none], [some (0, 3, 0, 1), some (5, 0, 0, 0), some (22, 0, 1, 0), some (2, 2, 0, 0), some (2, 0, 4, 1), none, some (0, 4, 0, 1), some (5, 0, 0, 0), some (22, 0, 1, 0), some (2, 2, 0, 0), some (2, 0, 4, 1), none, some (0, 5, 0, 1), some (5, 0, 0, 0), some (22, 0, 1, 0), some (30, 10, 21, 6)], [none, none, some (2, 2, 2, 0), some (2, 2, 0, 0), some (2, 0, 4, 1), none, some (0, 1, 0, 1), some (5, 0, 0, 0), some (22, 0, 1, 0), some (2, 2, 0, 0), some (2, 0, 4, 1), none, some (0, 2, 0, 1), some (5, 0, 0, 0), some (22, 0, 1, 0), some (2, 2, 0, 0)], [some (2, 0, 4, 1), none, some (0, 3, 0, 1), some (5, 0, 0, 0), some (22, 0, 1, 0), some (2, 2, 0, 0), some (2, 0, 4, 1), none, some (0, 4, 0, 1), some (5, 0, 0, 0), some (22, 0, 1, 0), some (2, 2, 0, 0), some (2, 0, 4, 1), none, some (0, 5, 0, 1), some (5, 0, 0, 0)], [some (22, 0, 1, 0), some (30, 22, 169, 6), none, none, some (10, 0, 0, 1347), none, none, some (0, 0, 0, 1), some (40, 0, 0, 1), some (2, 2, 1, 0), some (2, 2, 0, 0), some (2, 0, 4, 1), none, some (0, 1, 0, 1), some (5, 0, 0, 0), some (22, 0, 1, 0)], [some (30, 10, 23, 2), none, none, some (2, 2, 2, 0), some (2, 2, 0, 0), some (2, 0, 4, 1), none, some (0, 1, 0, 1), some (5, 0, 0, 0), some (22, 0, 1, 0), some (30, 22, 171, 2), none, none, some (10, 0, 0, 1347), none, none], [some (0, 0, 0, 1), some (40, 0, 0, 1), some (2, 2, 1, 0), some (30, 10, 24, 1), none, none, some (2, 2, 2, 0), some (30, 22, 174, 1), none, none, some (10, 0, 0, 1347), none, none, some (0, 0, 0, 1), some (40, 0, 0, 1), some (2, 2, 1, 0)], [some (30, 10, 68, 1), none, none, some (2, 2, 2, 0), some (30, 22, 201, 1), none, none, some (10, 0, 0, 1347), none, none, some (0, 0, 0, 1), some (40, 0, 0, 1), some (2, 2, 1, 0), some (2, 2, 0, 0), some (2, 0, 4, 1), none], [some (0, 1, 0, 1), some (5, 0, 0, 0), some (22, 0, 1, 0), some (2, 2, 0, 0), some (2, 0, 4, 1), none, some (0, 2, 0, 1), some (5, 0, 0, 0), some (22, 0, 1, 0), some (2, 2, 3, 0), some (32, (-1), 159, 4), none, none, some (3, 0, 5, 1), none, some (2, 2, 2, 0)], [some (2, 2, 0, 0), some (2, 0, 4, 1), none, some (0, 1, 0, 1), some (5, 0, 0, 0), some (22, 0, 1, 0), some (2, 2, 0, 0), some (2, 0, 4, 1), none, some (0, 2, 0, 1), some (5, 0, 0, 0), some (22, 0, 1, 0), some (30, 22, 202, 3), none, none, some (3, 0, 6, 1)], [none, some (2, 2, 2, 0), some (30, 22, 168, 1), none, none, some (2, 0, 5, 1), none, some (10, 0, 0, 380), none, none, some (0, 0, 0, 1), some (40, 0, 0, 1), some (2, 0, 5, 1), none, some (9, 0, 1, 397), none], [none, some (2, 2, 3, 0), some (0, 0, 0, 1), some (15, 0, 2, 0), some (2, 0, 6, 1), none, some (7, 0, 0, 0), some (12, 0, 0, 0), some (9, 0, 0, 397), none, none, some (0, 0, 0, 1), some (40, 0, 0, 1), some (11, 0, 0, 1347), none, none], [some (2, 2, 1, 0), some (2, 2, 0, 0), some (2, 0, 4, 1), none, some (0, 1, 0, 1), some (5, 0, 0, 0), some (22, 0, 1, 0), some (2, 2, 0, 0), some (2, 0, 4, 1), none, some (0, 2, 0, 1), some (5, 0, 0, 0), some (22, 0, 1, 0), some (30, 10, 69, 3), none, none], [some (2, 2, 2, 0), some (2, 2, 0, 0), some (2, 0, 4, 1), none, some (0, 1, 0, 1), some (5, 0, 0, 0), some (22, 0, 1, 0), some (2, 2, 0, 0), some (2, 0, 4, 1), none, some (0, 2, 0, 1), some (5, 0, 0, 0), some (22, 0, 1, 0), some (30, 22, 207, 3), none, none], [some (10, 0, 0, 1347), none, none, some (0, 0, 0, 1), some (40, 0, 0, 1), some (2, 2, 1, 0), some (2, 2, 0, 0), some (2, 0, 4, 1), none, some (0, 1, 0, 1), some (5, 0, 0, 0), some (22, 0, 1, 0), some (2, 2, 0, 0), some (2, 0, 4, 1), none, some (0, 2, 0, 1)], [some (5, 0, 0, 0), some (22, 0, 1, 0), some (30, 10, 72, 3), none, none, some (2, 2, 2, 0), some (2, 2, 0, 0), some (2, 0, 4, 1), none, some (0, 1, 0, 1), some (5, 0, 0, 0), some (22, 0, 1, 0), some (2, 2, 0, 0), some (2, 0, 4, 1), none, some (0, 2, 0, 1)], [some (5, 0, 0, 0), some (22, 0, 1, 0), some (30, 22, 208, 3), none, none, some (10, 0, 0, 1347), none, none, some (0, 0, 0, 1), some (40, 0, 0, 1), some (2, 2, 1, 0), some (2, 2, 0, 0), some (2, 0, 4, 1), none, some (0, 1, 0, 1), some (5, 0, 0, 0)], [some (22, 0, 1, 0), some (2, 2, 0, 0), some (2, 0, 4, 1), none, some (0, 2, 0, 1), some (5, 0, 0, 0), some (22, 0, 1, 0), some (30, 10, 73, 3), none, none, some (2, 2, 2, 0), some (2, 2, 0, 0), some (2, 0, 4, 1), none, some (0, 1, 0, 1), some (5, 0, 0, 0)], [some (22, 0, 1, 0), some (2, 2, 0, 0), some (2, 0, 4, 1), none, some (0, 2, 0, 1), some (5, 0, 0, 0), some (22, 0, 1, 0), some (30, 22, 211, 3), none, none, some (10, 0, 0, 1347), none, none, some (0, 0, 0, 1), some (40, 0, 0, 1), some (2, 2, 1, 0)], [some (2, 2, 0, 0), some (2, 0, 4, 1), none, some (0, 1, 0, 1), some (5, 0, 0, 0), some (22, 0, 1, 0), some (30, 10, 75, 2), none, none, some (2, 2, 2, 0), some (2, 2, 0, 0), some (2, 0, 4, 1), none, some (0, 1, 0, 1), some (5, 0, 0, 0), some (22, 0, 1, 0)], [some (30, 22, 213, 2), none, none, some (10, 0, 0, 1347), none, none, some (0, 0, 0, 1), some (40, 0, 0, 1), some (2, 2, 1, 0), some (2, 2, 0, 0), some (2, 0, 4, 1), none, some (0, 1, 0, 1), some (5, 0, 0, 0), some (22, 0, 1, 0), some (2, 2, 0, 0)], [some (2, 0, 4, 1), none, some (0, 2, 0, 1), some (5, 0, 0, 0), some (22, 0, 1, 0), some (30, 10, 78, 3), none, none, some (2, 2, 2, 0), some (2, 2, 0, 0), some (2, 0, 4, 1), none, some (0, 1, 0, 1), some (5, 0, 0, 0), some (22, 0, 1, 0), some (2, 2, 0, 0)], [some (2, 0, 4, 1), none, some (0, 2, 0, 1), some (5, 0, 0, 0), some (22, 0, 1, 0), some (30, 22, 215, 3), none, none, some (10, 0, 0, 1347), none, none, some (0, 0, 0, 1), some (40, 0, 0, 1), some (2, 2, 1, 0), some (2, 2, 0, 0), some (2, 0, 4, 1)], [none, some (0, 1, 0, 1), some (5, 0, 0, 0), some (22, 0, 1, 0), some (30, 10, 82, 2), none, none, some (2, 2, 2, 0), some (2, 2, 0, 0), some (2, 0, 4, 1), none, some (0, 1, 0, 1), some (5, 0, 0, 0), some (22, 0, 1, 0), some (30, 22, 218, 2), none], [none, some (10, 0, 0, 1347), none, none, some (0, 0, 0, 1), some (40, 0, 0, 1), some (2, 2, 1, 0), some (2, 2, 0, 0), some (2, 0, 4, 1), none, some (0, 1, 0, 1), some (5, 0, 0, 0), some (22, 0, 1, 0), some (2, 2, 0, 0), some (2, 0, 4, 1), none], [some (0, 2, 0, 1), some (5, 0, 0, 0), some (22, 0, 1, 0), some (30, 10, 85, 3), none, none, some (2, 2, 2, 0), some (2, 2, 0, 0), some (2, 0, 4, 1), none, some (0, 1, 0, 1), some (5, 0, 0, 0), some (22, 0, 1, 0), some (2, 2, 0, 0), some (2, 0, 4, 1), none], [some (0, 2, 0, 1), some (5, 0, 0, 0), some (22, 0, 1, 0), some (30, 22, 219, 3), none, none, some (10, 0, 0, 1347), none, none, some (0, 0, 0, 1), some (40, 0, 0, 1), some (2, 2, 1, 0), some (30, 10, 86, 1), none, none, some (2, 2, 2, 0)], [some (30, 22, 222, 1), none, none, some (10, 0, 0, 1347), none, none, some (0, 0, 0, 1), some (40, 0, 0, 1), some (2, 2, 1, 0), some (2, 2, 0, 0), some (2, 0, 4, 1), none, some (0, 1, 0, 1), some (5, 0, 0, 0), some (22, 0, 1, 0), some (30, 10, 89, 2)], [none, none, some (2, 2, 2, 0), some (2, 2, 0, 0), some (2, 0, 4, 1), none, some (0, 1, 0, 1), some (5, 0, 0, 0), some (22, 0, 1, 0), some (30, 22, 225, 2), none, none, some (10, 0, 0, 1347), none, none, some (0, 0, 0, 1)], [some (40, 0, 0, 1), some (2, 2, 1, 0), some (30, 10, 94, 1), none, none, some (2, 2, 2, 0), some (30, 22, 229, 1), none, none, some (10, 0, 0, 1347), none, none, some (0, 0, 0, 1), some (40, 0, 0, 1), some (2, 2, 1, 0), some (2, 2, 0, 0)], [some (2, 0, 4, 1), none, some (0, 1, 0, 1), some (5, 0, 0, 0), some (22, 0, 1, 0), some (30, 10, 96, 2), none, none, some (2, 2, 2, 0), some (2, 2, 0, 0), some (2, 0, 4, 1), none, some (0, 1, 0, 1), some (5, 0, 0, 0), some (22, 0, 1, 0), some (30, 22, 230, 2)], [none, none, some (10, 0, 0, 1347), none, none, some (0, 0, 0, 1), some (40, 0, 0, 1), some (2, 2, 1, 0), some (2, 2, 0, 0), some (2, 0, 4, 1), none, some (0, 1, 0, 1), some (5, 0, 0, 0), some (22, 0, 1, 0), some (2, 2, 0, 0), some (2, 0, 4, 1)], [none, some (0, 2, 0, 1), some (5, 0, 0, 0), some (22, 0, 1, 0), some (30, 10, 98, 3), none, none, some (2, 2, 2, 0), some (2, 2, 0, 0), some (2, 0, 4, 1), none, some (0, 1, 0, 1), some (5, 0, 0, 0), some (22, 0, 1, 0), some (2, 2, 0, 0), some (2, 0, 4, 1)], [none, some (0, 2, 0, 1), some (5, 0, 0, 0), some (22, 0, 1, 0), some (30, 22, 232, 3), none, none, some (10, 0, 0, 1347), none, none, some (0, 0, 0, 1), some (40, 0, 0, 1), some (2, 2, 1, 0), some (2, 2, 0, 0), some (2, 0, 4, 1), none], [some (0, 1, 0, 1), some (5, 0, 0, 0), some (22, 0, 1, 0), some (30, 10, 100, 2), none, none, some (2, 2, 2, 0), some (2, 2, 0, 0), some (2, 0, 4, 1), none, some (0, 1, 0, 1), some (5, 0, 0, 0), some (22, 0, 1, 0), some (30, 22, 233, 2), none, none], [some (10, 0, 0, 1347), none, none, some (0, 0, 0, 1), some (40, 0, 0, 1), some (2, 2, 1, 0), some (2, 2, 0, 0), some (2, 0, 4, 1), none, some (0, 1, 0, 1), some (5, 0, 0, 0), some (22, 0, 1, 0), some (2, 2, 0, 0), some (2, 0, 4, 1), none, some (0, 2, 0, 1)], [some (5, 0, 0, 0), some (22, 0, 1, 0), some (30, 10, 103, 3), none, none, some (2, 2, 2, 0), some (2, 2, 0, 0), some (2, 0, 4, 1), none, some (0, 1, 0, 1), some (5, 0, 0, 0), some (22, 0, 1, 0), some (2, 2, 0, 0), some (2, 0, 4, 1), none, some (0, 2, 0, 1)], [some (5, 0, 0, 0), some (22, 0, 1, 0), some (30, 22, 237, 3), none, none, some (10, 0, 0, 1347), none, none, some (0, 0, 0, 1), some (40, 0, 0, 1), some (2, 2, 1, 0), some (30, 10, 105, 1), none, none, some (2, 2, 2, 0), some (30, 22, 238, 1)], [none, none, some (10, 0, 0, 1347), none, none, some (0, 0, 0, 1), some (40, 0, 0, 1), some (2, 2, 1, 0), some (2, 2, 0, 0), some (2, 0, 4, 1), none, some (0, 1, 0, 1), some (5, 0, 0, 0), some (22, 0, 1, 0), some (30, 10, 106, 2), none], [none, some (2, 2, 2, 0), some (2, 2, 0, 0), some (2, 0, 4, 1), none, some (0, 1, 0, 1), some (5, 0, 0, 0), some (22, 0, 1, 0), some (30, 22, 240, 2), none, none, some (10, 0, 0, 1347), none, none, some (0, 0, 0, 1), some (40, 0, 0, 1)], [some (2, 2, 1, 0), some (2, 2, 0, 0), some (2, 0, 4, 1), none, some (0, 1, 0, 1), some (5, 0, 0, 0), some (22, 0, 1, 0), some (2, 2, 0, 0), some (2, 0, 4, 1), none, some (0, 2, 0, 1), some (5, 0, 0, 0), some (22, 0, 1, 0), some (2, 2, 0, 0), some (2, 0, 4, 1), none], [some (0, 3, 0, 1), some (5, 0, 0, 0), some (22, 0, 1, 0), some (2, 2, 3, 0), some (32, (-1), 161, 5), none, none, some (3, 0, 5, 1), none, some (2, 2, 2, 0), some (2, 2, 0, 0), some (2, 0, 4, 1), none, some (0, 1, 0, 1), some (5, 0, 0, 0), some (22, 0, 1, 0)], [some (2, 2, 0, 0), some (2, 0, 4, 1), none, some (0, 2, 0, 1), some (5, 0, 0, 0), some (22, 0, 1, 0), some (2, 2, 0, 0), some (2, 0, 4, 1), none, some (0, 3, 0, 1), some (5, 0, 0, 0), some (22, 0, 1, 0), some (30, 22, 242, 4), none, none, some (3, 0, 6, 1)], [none, some (2, 2, 2, 0), some (30, 22, 168, 1), none, none, some (2, 0, 5, 1), none, some (10, 0, 0, 908), none, none, some (0, 0, 0, 1), some (40, 0, 0, 1), some (2, 0, 5, 1), none, some (9, 0, 1, 925), none], [none, some (2, 2, 3, 0), some (0, 0, 0, 1), some (15, 0, 2, 0), some (2, 0, 6, 1), none, some (7, 0, 0, 0), some (12, 0, 0, 0), some (9, 0, 0, 925), none, none, some (0, 0, 0, 1), some (40, 0, 0, 1), some (11, 0, 0, 1347), none, none], [some (2, 2, 1, 0), some (30, 10, 110, 1), none, none, some (2, 2, 2, 0), some (30, 22, 245, 1), none, none, some (10, 0, 0, 1347), none, none, some (0, 0, 0, 1), some (40, 0, 0, 1), some (2, 2, 1, 0), some (30, 10, 114, 1), none], [none, some (2, 2, 2, 0), some (30, 22, 247, 1), none, none, some (10, 0, 0, 1347), none, none, some (0, 0, 0, 1), some (40, 0, 0, 1), some (2, 2, 1, 0), some (30, 10, 115, 1), none, none, some (2, 2, 2, 0), some (30, 22, 239, 1)], [none, none, some (10, 0, 0, 1347), none, none, some (0, 0, 0, 1), some (40, 0, 0, 1), some (2, 2, 1, 0), some (2, 2, 0, 0), some (2, 0, 4, 1), none, some (0, 1, 0, 1), some (5, 0, 0, 0), some (22, 0, 1, 0), some (2, 2, 0, 0), some (2, 0, 4, 1)], [none, some (0, 2, 0, 1), some (5, 0, 0, 0), some (22, 0, 1, 0), some (2, 2, 3, 0), some (32, (-1), 166, 4), none, none, some (3, 0, 5, 1), none, some (2, 2, 2, 0), some (2, 2, 0, 0), some (2, 0, 4, 1), none, some (0, 1, 0, 1), some (5, 0, 0, 0)], [some (22, 0, 1, 0), some (2, 2, 0, 0), some (2, 0, 4, 1), none, some (0, 2, 0, 1), some (5, 0, 0, 0), some (22, 0, 1, 0), some (30, 22, 248, 3), none, none, some (3, 0, 6, 1), none, some (2, 2, 2, 0), some (30, 22, 168, 1), none, none], [some (2, 0, 5, 1), none, some (10, 0, 0, 1015), none, none, some (0, 0, 0, 1), some (40, 0, 0, 1), some (2, 0, 5, 1), none, some (9, 0, 1, 1032), none, none, some (2, 2, 3, 0), some (0, 0, 0, 1), some (15, 0, 2, 0), some (2, 0, 6, 1)], [none, some (7, 0, 0, 0), some (12, 0, 0, 0), some (9, 0, 0, 1032), none, none, some (0, 0, 0, 1), some (40, 0, 0, 1), some (11, 0, 0, 1347), none, none, some (2, 2, 1, 0), some (30, 10, 118, 1), none, none, some (2, 2, 2, 0)], [some (30, 22, 249, 1), none, none, some (10, 0, 0, 1347), none, none, some (0, 0, 0, 1), some (40, 0, 0, 1), some (2, 2, 1, 0), some (2, 2, 0, 0), some (2, 0, 4, 1), none, some (0, 1, 0, 1), some (5, 0, 0, 0), some (22, 0, 1, 0), some (30, 10, 119, 2)], [none, none, some (2, 2, 2, 0), some (2, 2, 0, 0), some (2, 0, 4, 1), none, some (0, 1, 0, 1), some (5, 0, 0, 0), some (22, 0, 1, 0), some (30, 22, 250, 2), none, none, some (10, 0, 0, 1347), none, none, some (0, 0, 0, 1)], [some (40, 0, 0, 1), some (2, 2, 1, 0), some (2, 2, 0, 0), some (2, 0, 4, 1), none, some (0, 1, 0, 1), some (5, 0, 0, 0), some (22, 0, 1, 0), some (30, 10, 125, 2), none, none, some (2, 2, 2, 0), some (2, 2, 0, 0), some (2, 0, 4, 1), none, some (0, 1, 0, 1)], [some (5, 0, 0, 0), some (22, 0, 1, 0), some (30, 22, 254, 2), none, none, some (10, 0, 0, 1347), none, none, some (0, 0, 0, 1), some (40, 0, 0, 1), some (2, 2, 1, 0), some (2, 2, 0, 0), some (2, 0, 4, 1), none, some (0, 1, 0, 1), some (5, 0, 0, 0)], [some (22, 0, 1, 0), some (2, 2, 0, 0), some (2, 0, 4, 1), none, some (0, 2, 0, 1), some (5, 0, 0, 0), some (22, 0, 1, 0), some (30, 10, 126, 3), none, none, some (2, 2, 2, 0), some (2, 2, 0, 0), some (2, 0, 4, 1), none, some (0, 1, 0, 1), some (5, 0, 0, 0)], [some (22, 0, 1, 0), some (2, 2, 0, 0), some (2, 0, 4, 1), none, some (0, 2, 0, 1), some (5, 0, 0, 0), some (22, 0, 1, 0), some (30, 22, 255, 3), none, none, some (10, 0, 0, 1347), none, none, some (0, 0, 0, 1), some (40, 0, 0, 1), some (2, 2, 1, 0)], [some (2, 2, 0, 0), some (2, 0, 4, 1), none, some (0, 1, 0, 1), some (5, 0, 0, 0), some (22, 0, 1, 0), some (2, 2, 0, 0), some (2, 0, 4, 1), none, some (0, 2, 0, 1), some (5, 0, 0, 0), some (22, 0, 1, 0), some (2, 2, 0, 0), some (2, 0, 4, 1), none, some (0, 3, 0, 1)], [some (5, 0, 0, 0), some (22, 0, 1, 0), some (30, 10, 130, 4), none, none, some (2, 2, 2, 0), some (2, 2, 0, 0), some (2, 0, 4, 1), none, some (0, 1, 0, 1), some (5, 0, 0, 0), some (22, 0, 1, 0), some (2, 2, 0, 0), some (2, 0, 4, 1), none, some (0, 2, 0, 1)], [some (5, 0, 0, 0), some (22, 0, 1, 0), some (2, 2, 0, 0), some (2, 0, 4, 1), none, some (0, 3, 0, 1), some (5, 0, 0, 0), some (22, 0, 1, 0), some (30, 22, 259, 4), none, none, some (10, 0, 0, 1347), none, none, some (0, 0, 0, 1), some (40, 0, 0, 1)], [some (2, 2, 1, 0), some (2, 2, 0, 0), some (2, 0, 4, 1), none, some (0, 1, 0, 1), some (5, 0, 0, 0), some (22, 0, 1, 0), some (30, 10, 132, 2), none, none, some (2, 2, 2, 0), some (2, 2, 0, 0), some (2, 0, 4, 1), none, some (0, 1, 0, 1), some (5, 0, 0, 0)], [some (22, 0, 1, 0), some (30, 22, 260, 2), none, none, some (10, 0, 0, 1347), none, none, some (0, 0, 0, 1), some (40, 0, 0, 1), some (2, 2, 1, 0), some (2, 2, 0, 0), some (2, 0, 4, 1), none, some (0, 1, 0, 1), some (5, 0, 0, 0), some (22, 0, 1, 0)], [some (30, 10, 143, 2), none, none, some (2, 2, 2, 0), some (2, 2, 0, 0), some (2, 0, 4, 1), none, some (0, 1, 0, 1), some (5, 0, 0, 0), some (22, 0, 1, 0), some (30, 22, 263, 2), none, none, some (10, 0, 0, 1347), none, none], [some (0, 0, 0, 1), some (40, 0, 0, 1), some (2, 2, 1, 0), some (30, 10, 144, 1), none, none, some (2, 2, 2, 0), some (30, 22, 264, 1), none, none, some (10, 0, 0, 1347), none, none, some (0, 0, 0, 1), some (40, 0, 0, 1), some (2, 2, 1, 0)], [some (2, 2, 0, 0), some (2, 0, 4, 1), none, some (0, 1, 0, 1), some (5, 0, 0, 0), some (22, 0, 1, 0), some (30, 10, 152, 2), none, none, some (2, 2, 2, 0), some (2, 2, 0, 0), some (2, 0, 4, 1), none, some (0, 1, 0, 1), some (5, 0, 0, 0), some (22, 0, 1, 0)], [some (30, 22, 271, 2), none, none, some (10, 0, 0, 1347), none, none, some (0, 0, 0, 1), some (40, 0, 0, 1), some (2, 2, 1, 0), some (2, 2, 0, 0), some (2, 0, 4, 1), none, some (0, 1, 0, 1), some (5, 0, 0, 0), some (22, 0, 1, 0), some (30, 10, 156, 2)], [none, none, some (2, 2, 2, 0), some (2, 2, 0, 0), some (2, 0, 4, 1), none, some (0, 1, 0, 1), some (5, 0, 0, 0), some (22, 0, 1, 0), some (30, 22, 274, 2), none, none, some (10, 0, 0, 1347), none, none, some (0, 0, 0, 1)], [some (40, 0, 0, 1), some (2, 2, 1, 0), some (2, 2, 0, 0), some (2, 0, 4, 1), none, some (0, 1, 0, 1), some (5, 0, 0, 0), some (22, 0, 1, 0), some (30, 10, 157, 2), none, none, some (2, 2, 2, 0), some (2, 2, 0, 0), some (2, 0, 4, 1), none, some (0, 1, 0, 1)], [some (5, 0, 0, 0), some (22, 0, 1, 0), some (30, 22, 275, 2), none, none, some (10, 0, 0, 1347), none, none, some (0, 0, 0, 1), some (40, 0, 0, 1), some (2, 2, 1, 0), some (2, 2, 0, 0), some (2, 0, 4, 1), none, some (0, 1, 0, 1), some (5, 0, 0, 0)], [some (22, 0, 1, 0), some (30, 10, 158, 2), none, none, some (2, 2, 2, 0), some (2, 2, 0, 0), some (2, 0, 4, 1), none, some (0, 1, 0, 1), some (5, 0, 0, 0), some (22, 0, 1, 0), some (30, 22, 276, 2), none, none, some (10, 0, 0, 1347), none], [none, some (0, 0, 0, 1), some (40, 0, 0, 1), some (4, 6, 4, 0), none, none, some (11, 0, 0, 23), none, none, some (0, 1, 0, 1), some (40, 0, 0, 1)]]
def g_k277 : List (List (List Nat)) := [[[8, 127, 128, 102], [], [], [], [22, 129, 130, 102], [], [], [], [23, 1316, 1310, 119], [], [], [], [25, 1317, 1318, 119], [], [], []], [[], [], [], [], [], [], [], [], [], [], [], [], [], [], [], []], [[], [], [], [], [], [], [], [], [], [], [], [], [], [], [], []], [[], [], [], [], [], [], [], [], [], [], [], [], [], [], [], []], [[], [], [], [], [], [], [], [], [], [], [], [], [], [], [], []], [[], [], [], [], [], [], [], [], [], [], [], [], [], [], [], []], [[], [], [], [], [], [], [], [], [], [], [], [], [], [], [], []], [[], [], [], [], [], [], [], [], [], [], [], [], [], [], [], []], [[], [], [], [], [], [], [], [], [], [], [], [], [], [], [], []], [[], [], [], [], [], [], [], [], [], [], [], [], [], [], [], []], [[], [], [], [], [], [], [], [], [], [], [], [], [], [], [], []], [[], [], [], [], [], [], [], [], [], [], [], [], [], [], [], []], [[], [], [], [], [], [], [], [], [], [], [], [], [], [], [], []], [[], [], [], [], [], [], [], [], [], [], [], [], [], [], [], []], [[], [], [], [], [], [], [], [], [], [], [], [], [], [], [], [26, 576, 577, 578, 102]], [[], [], [], [], [], [], [], [], [], [], [], [], [], [], [], []], [[], [], [], [], [], [], [], [], [], [], [], [], [], [], [], []], [[], [30, 1303, 1304, 1305, 119], [], [], [], [], [], [], [], [], [], [], [], [], [], []], [[31, 584, 585, 586, 102], [], [], [], [], [], [], [], [], [], [35, 1312, 1313, 1314, 119], [], [], [], [], []], [[], [], [], [36, 588, 589, 590, 102], [], [], [], [40, 1479, 1480, 1481, 119], [], [], [], [], [], [], [], []], [[41, 771, 772, 773, 102], [], [], [], [44, 1583, 1584, 1585, 119], [], [], [], [], [], [], [], [], [], [], []], [[], [], [], [], [], [], [], [], [], [], [45, 1198, 1199, 101], [], [], [], [], []], [[], [], [], [], [], [], [], [], [], [], [], [], [50, 1587, 1588, 1589, 119], [], [], []], [[], [], [51, 1299, 1300, 1301, 119], [], [], [], [], [], [], [], [], [], [], [], [], []], [[], [], [], [], [], [], [], [], [], [], [], [], [], [], [], []], [[], [], [], [], [], [], [], [], [], [], [], [], [], [54, 775, 776, 777, 102], [], []], [[], [], [], [], [], [], [], [], [], [], [], [], [], [57, 1607, 1608, 1609, 119], [], []], [[], [], [], [], [], [], [], [], [], [], [], [], [], [], [], []], [[], [], [58, 787, 788, 789, 102], [], [], [], [], [], [], [], [], [], [], [], [], []], [[], [], [61, 1611, 1612, 1613, 119], [], [], [], [], [], [], [], [], [], [], [], [], []], [[], [], [], [], [], [], [], [62, 791, 792, 793, 102], [], [], [], [], [], [], [], []], [[], [], [], [], [], [], [], [65, 1623, 1624, 1625, 119], [], [], [], [], [], [], [], []], [[], [], [], [], [], [], [66, 799, 800, 801, 102], [], [], [], [], [], [], [], [], []], [[70, 1631, 1632, 1633, 119], [], [], [], [], [], [], [], [], [], [], [], [], [], [], []], [[], [], [], [], [], [71, 811, 812, 813, 102], [], [], [], [], [], [], [], [], [], []], [[], [], [], [], [], [74, 1639, 1640, 1641, 119], [], [], [], [], [], [], [], [], [], []], [[], [], [], [], [75, 829, 830, 831, 102], [], [], [], [], [], [], [], [], [], [78, 1651, 1652, 1653, 119], []], [[], [], [], [], [], [], [], [], [], [], [], [], [], [], [], []], [[], [], [], [79, 841, 842, 843, 102], [], [], [], [], [], [], [], [], [], [], [], []], [[], [], [], [82, 1655, 1656, 1657, 119], [], [], [], [], [], [], [], [], [83, 847, 848, 849, 102], [], [], []], [[86, 1667, 1668, 1669, 119], [], [], [], [], [], [], [], [], [], [], [], [], [], [], [87, 859, 860, 861, 102]], [[], [], [], [], [], [], [], [], [], [90, 1679, 1680, 1681, 119], [], [], [], [], [], []], [[], [], [91, 886, 887, 888, 102], [], [], [], [94, 1695, 1696, 1697, 119], [], [], [], [], [], [], [], [], []], [[], [], [], [], [], [95, 894, 895, 896, 102], [], [], [], [], [], [], [], [], [], [98, 1699, 1700, 1701, 119]], [[], [], [], [], [], [], [], [], [], [], [], [], [], [], [], []], [[], [], [], [], [99, 903, 904, 905, 102], [], [], [], [], [], [], [], [], [], [], []], [[], [], [], [], [102, 1707, 1708, 1709, 119], [], [], [], [], [], [], [], [], [], [], []], [[], [], [], [103, 911, 912, 913, 102], [], [], [], [], [], [], [], [], [], [106, 1711, 1712, 1713, 119], [], []], [[], [], [], [], [], [], [], [], [], [], [], [], [], [], [], []], [[], [], [107, 926, 927, 928, 102], [], [], [], [], [], [], [], [], [], [], [], [], []], [[], [], [110, 1727, 1728, 1729, 119], [], [], [], [], [], [], [], [], [111, 936, 937, 938, 102], [], [], [], [114, 1731, 1732, 1733, 119]], [[], [], [], [], [], [], [], [], [], [], [], [], [], [], [115, 940, 941, 942, 102], []], [[], [], [], [], [], [], [], [], [118, 1739, 1740, 1741, 119], [], [], [], [], [], [], []], [[], [], [], [], [], [], [], [], [], [], [], [], [], [], [], []], [[], [], [], [], [119, 1272, 1273, 101], [], [], [], [], [], [], [], [], [], [], []], [[], [], [], [], [], [], [], [], [], [], [], [], [122, 1747, 1748, 1749, 119], [], [], []], [[], [], [51, 1299, 1300, 1301, 119], [], [], [], [], [], [], [], [], [], [], [], [], []], [[], [], [], [], [], [], [], [], [], [], [], [], [], [], [], []], [[], [123, 956, 957, 958, 102], [], [], [], [126, 1758, 1759, 1760, 119], [], [], [], [], [], [], [], [], [127, 975, 976, 977, 102], []], [[], [], [130, 1765, 1766, 1767, 119], [], [], [], [], [], [], [], [], [131, 979, 980, 981, 102], [], [], [], [134, 1735, 1736, 1737, 119]], [[], [], [], [], [], [], [], [], [], [], [], [], [], [], [], []], [[], [], [], [], [], [135, 1291, 1292, 101], [], [], [], [], [], [], [], [], [], []], [[], [], [], [], [], [], [], [137, 1769, 1770, 1771, 119], [], [], [], [], [], [51, 1299, 1300, 1301, 119], [], []], [[], [], [], [], [], [], [], [], [], [], [], [], [], [], [], []], [[], [], [], [], [], [], [], [], [], [], [], [], [138, 991, 992, 993, 102], [], [], []], [[141, 1773, 1774, 1775, 119], [], [], [], [], [], [], [], [], [], [], [], [], [], [], [142, 995, 996, 997, 102]], [[], [], [], [], [], [], [], [], [], [145, 1777, 1778, 1779, 119], [], [], [], [], [], []], [[], [], [], [], [], [], [], [], [146, 1026, 1027, 1028, 102], [], [], [], [], [], [], []], [[], [], [149, 1796, 1797, 1798, 119], [], [], [], [], [], [], [], [], [], [], [], [], []], [[], [], [], [], [], [], [], [150, 1030, 1031, 1032, 102], [], [], [], [], [], [], [], []], [[], [], [], [], [], [], [], [153, 1800, 1801, 1802, 119], [], [], [], [], [], [], [], []], [[], [], [], [], [], [], [], [], [], [], [], [], [], [], [], []], [[], [], [154, 1056, 1057, 1058, 102], [], [], [], [], [], [], [], [], [], [], [], [], []], [[], [], [], [], [], [], [], [], [157, 1817, 1818, 1819, 119], [], [], [], [], [], [], []], [[], [], [], [], [], [], [], [158, 1065, 1066, 1067, 102], [], [], [], [], [], [], [], []], [[], [161, 1821, 1822, 1823, 119], [], [], [], [], [], [], [], [], [], [], [], [], [], []], [[162, 1125, 1126, 1127, 102], [], [], [], [], [], [], [], [], [], [165, 1833, 1834, 1835, 119], [], [], [], [], []], [[], [], [], [166, 1129, 1130, 1131, 102], [], [], [], [169, 1837, 1838, 1839, 119], [], [], [], [], [], [], [], []], [[], [], [], [], [], [], [170, 1170, 1171, 1172, 102], [], [], [], [], [], [], [], [], []], [[173, 1865, 1866, 1867, 119], [], [], [], [], [], [], [], [], [], [], [], [], [], [], [174, 1186, 1187, 1188, 102]], [[], [], [], [], [], [], [], [], [], [177, 1877, 1878, 1879, 119], [], [], [], [], [], []], [[], [], [], [], [], [], [], [], [178, 1190, 1191, 1192, 102], [], [], [], [], [], [], []], [[], [], [181, 1881, 1882, 1883, 119], [], [], [], [], [], [], [], [], [], [], [], [], []], [[], [182, 1194, 1195, 1196, 102], [], [], [], [], [], [], [], [], [], [185, 1885, 1886, 1887, 119], [], [], [], []], [[], [], [], [], [], [], [], [], [], [], []]]
def g_m277 : MethodName × ByteArray × Nat × Option FieldType := (⟨"RideLawsLaw", "law", "([I)Z"⟩, code, 7, some .boolean)
def g_codes : List (List (List (List (Option (Nat × Int × Nat × Nat))))) := [[g_c0, g_c1, g_c2, g_c3, g_c4, g_c5, g_c6, g_c7, g_c8, g_c9, g_c10, g_c11, g_c12, g_c13, g_c14, g_c15], [g_c16, g_c17, g_c18, g_c19, g_c20, g_c21, g_c22, g_c23, g_c24, g_c25, g_c26, g_c27, g_c28, g_c29, g_c30, g_c31], [g_c32, g_c33, g_c34, g_c35, g_c36, g_c37, g_c38, g_c39, g_c40, g_c41, g_c42, g_c43, g_c44, g_c45, g_c46, g_c47], [g_c48, g_c49, g_c50, g_c51, g_c52, g_c53, g_c54, g_c55, g_c56, g_c57, g_c58, g_c59, g_c60, g_c61, g_c62, g_c63], [g_c64, g_c65, g_c66, g_c67, g_c68, g_c69, g_c70, g_c71, g_c72, g_c73, g_c74, g_c75, g_c76, g_c77, g_c78, g_c79], [g_c80, g_c81, g_c82, g_c83, g_c84, g_c85, g_c86, g_c87, g_c88, g_c89, g_c90, g_c91, g_c92, g_c93, g_c94, g_c95], [g_c96, g_c97, g_c98, g_c99, g_c100, g_c101, g_c102, g_c103, g_c104, g_c105, g_c106, g_c107, g_c108, g_c109, g_c110, g_c111], [g_c112, g_c113, g_c114, g_c115, g_c116, g_c117, g_c118, g_c119, g_c120, g_c121, g_c122, g_c123, g_c124, g_c125, g_c126, g_c127], [g_c128, g_c129, g_c130, g_c131, g_c132, g_c133, g_c134, g_c135, g_c136, g_c137, g_c138, g_c139, g_c140, g_c141, g_c142, g_c143], [g_c144, g_c145, g_c146, g_c147, g_c148, g_c149, g_c150, g_c151, g_c152, g_c153, g_c154, g_c155, g_c156, g_c157, g_c158, g_c159], [g_c160, g_c161, g_c162, g_c163, g_c164, g_c165, g_c166, g_c167, g_c168, g_c169, g_c170, g_c171, g_c172, g_c173, g_c174, g_c175], [g_c176, g_c177, g_c178, g_c179, g_c180, g_c181, g_c182, g_c183, g_c184, g_c185, g_c186, g_c187, g_c188, g_c189, g_c190, g_c191], [g_c192, g_c193, g_c194, g_c195, g_c196, g_c197, g_c198, g_c199, g_c200, g_c201, g_c202, g_c203, g_c204, g_c205, g_c206, g_c207], [g_c208, g_c209, g_c210, g_c211, g_c212, g_c213, g_c214, g_c215, g_c216, g_c217, g_c218, g_c219, g_c220, g_c221, g_c222, g_c223], [g_c224, g_c225, g_c226, g_c227, g_c228, g_c229, g_c230, g_c231, g_c232, g_c233, g_c234, g_c235, g_c236, g_c237, g_c238, g_c239], [g_c240, g_c241, g_c242, g_c243, g_c244, g_c245, g_c246, g_c247, g_c248, g_c249, g_c250, g_c251, g_c252, g_c253, g_c254, g_c255], [g_c256, g_c257, g_c258, g_c259, g_c260, g_c261, g_c262, g_c263, g_c264, g_c265, g_c266, g_c267, g_c268, g_c269, g_c270, g_c271], [g_c272, g_c273, g_c274, g_c275, g_c276, g_c277]]
def g_links : List (List (List (List (List Nat)))) := [[g_k0, g_k1, g_k2, g_k3, g_k4, g_k5, g_k6, g_k7, g_k8, g_k9, g_k10, g_k11, g_k12, g_k13, g_k14, g_k15], [g_k16, g_k17, g_k18, g_k19, g_k20, g_k21, g_k22, g_k23, g_k24, g_k25, g_k26, g_k27, g_k28, g_k29, g_k30, g_k31], [g_k32, g_k33, g_k34, g_k35, g_k36, g_k37, g_k38, g_k39, g_k40, g_k41, g_k42, g_k43, g_k44, g_k45, g_k46, g_k47], [g_k48, g_k49, g_k50, g_k51, g_k52, g_k53, g_k54, g_k55, g_k56, g_k57, g_k58, g_k59, g_k60, g_k61, g_k62, g_k63], [g_k64, g_k65, g_k66, g_k67, g_k68, g_k69, g_k70, g_k71, g_k72, g_k73, g_k74, g_k75, g_k76, g_k77, g_k78, g_k79], [g_k80, g_k81, g_k82, g_k83, g_k84, g_k85, g_k86, g_k87, g_k88, g_k89, g_k90, g_k91, g_k92, g_k93, g_k94, g_k95], [g_k96, g_k97, g_k98, g_k99, g_k100, g_k101, g_k102, g_k103, g_k104, g_k105, g_k106, g_k107, g_k108, g_k109, g_k110, g_k111], [g_k112, g_k113, g_k114, g_k115, g_k116, g_k117, g_k118, g_k119, g_k120, g_k121, g_k122, g_k123, g_k124, g_k125, g_k126, g_k127], [g_k128, g_k129, g_k130, g_k131, g_k132, g_k133, g_k134, g_k135, g_k136, g_k137, g_k138, g_k139, g_k140, g_k141, g_k142, g_k143], [g_k144, g_k145, g_k146, g_k147, g_k148, g_k149, g_k150, g_k151, g_k152, g_k153, g_k154, g_k155, g_k156, g_k157, g_k158, g_k159], [g_k160, g_k161, g_k162, g_k163, g_k164, g_k165, g_k166, g_k167, g_k168, g_k169, g_k170, g_k171, g_k172, g_k173, g_k174, g_k175], [g_k176, g_k177, g_k178, g_k179, g_k180, g_k181, g_k182, g_k183, g_k184, g_k185, g_k186, g_k187, g_k188, g_k189, g_k190, g_k191], [g_k192, g_k193, g_k194, g_k195, g_k196, g_k197, g_k198, g_k199, g_k200, g_k201, g_k202, g_k203, g_k204, g_k205, g_k206, g_k207], [g_k208, g_k209, g_k210, g_k211, g_k212, g_k213, g_k214, g_k215, g_k216, g_k217, g_k218, g_k219, g_k220, g_k221, g_k222, g_k223], [g_k224, g_k225, g_k226, g_k227, g_k228, g_k229, g_k230, g_k231, g_k232, g_k233, g_k234, g_k235, g_k236, g_k237, g_k238, g_k239], [g_k240, g_k241, g_k242, g_k243, g_k244, g_k245, g_k246, g_k247, g_k248, g_k249, g_k250, g_k251, g_k252, g_k253, g_k254, g_k255], [g_k256, g_k257, g_k258, g_k259, g_k260, g_k261, g_k262, g_k263, g_k264, g_k265, g_k266, g_k267, g_k268, g_k269, g_k270, g_k271], [g_k272, g_k273, g_k274, g_k275, g_k276, g_k277]]
def g_meths : List (List (MethodName × ByteArray × Nat × Option FieldType)) := [[g_m0, g_m1, g_m2, g_m3, g_m4, g_m5, g_m6, g_m7, g_m8, g_m9, g_m10, g_m11, g_m12, g_m13, g_m14, g_m15], [g_m16, g_m17, g_m18, g_m19, g_m20, g_m21, g_m22, g_m23, g_m24, g_m25, g_m26, g_m27, g_m28, g_m29, g_m30, g_m31], [g_m32, g_m33, g_m34, g_m35, g_m36, g_m37, g_m38, g_m39, g_m40, g_m41, g_m42, g_m43, g_m44, g_m45, g_m46, g_m47], [g_m48, g_m49, g_m50, g_m51, g_m52, g_m53, g_m54, g_m55, g_m56, g_m57, g_m58, g_m59, g_m60, g_m61, g_m62, g_m63], [g_m64, g_m65, g_m66, g_m67, g_m68, g_m69, g_m70, g_m71, g_m72, g_m73, g_m74, g_m75, g_m76, g_m77, g_m78, g_m79], [g_m80, g_m81, g_m82, g_m83, g_m84, g_m85, g_m86, g_m87, g_m88, g_m89, g_m90, g_m91, g_m92, g_m93, g_m94, g_m95], [g_m96, g_m97, g_m98, g_m99, g_m100, g_m101, g_m102, g_m103, g_m104, g_m105, g_m106, g_m107, g_m108, g_m109, g_m110, g_m111], [g_m112, g_m113, g_m114, g_m115, g_m116, g_m117, g_m118, g_m119, g_m120, g_m121, g_m122, g_m123, g_m124, g_m125, g_m126, g_m127], [g_m128, g_m129, g_m130, g_m131, g_m132, g_m133, g_m134, g_m135, g_m136, g_m137, g_m138, g_m139, g_m140, g_m141, g_m142, g_m143], [g_m144, g_m145, g_m146, g_m147, g_m148, g_m149, g_m150, g_m151, g_m152, g_m153, g_m154, g_m155, g_m156, g_m157, g_m158, g_m159], [g_m160, g_m161, g_m162, g_m163, g_m164, g_m165, g_m166, g_m167, g_m168, g_m169, g_m170, g_m171, g_m172, g_m173, g_m174, g_m175], [g_m176, g_m177, g_m178, g_m179, g_m180, g_m181, g_m182, g_m183, g_m184, g_m185, g_m186, g_m187, g_m188, g_m189, g_m190, g_m191], [g_m192, g_m193, g_m194, g_m195, g_m196, g_m197, g_m198, g_m199, g_m200, g_m201, g_m202, g_m203, g_m204, g_m205, g_m206, g_m207], [g_m208, g_m209, g_m210, g_m211, g_m212, g_m213, g_m214, g_m215, g_m216, g_m217, g_m218, g_m219, g_m220, g_m221, g_m222, g_m223], [g_m224, g_m225, g_m226, g_m227, g_m228, g_m229, g_m230, g_m231, g_m232, g_m233, g_m234, g_m235, g_m236, g_m237, g_m238, g_m239], [g_m240, g_m241, g_m242, g_m243, g_m244, g_m245, g_m246, g_m247, g_m248, g_m249, g_m250, g_m251, g_m252, g_m253, g_m254, g_m255], [g_m256, g_m257, g_m258, g_m259, g_m260, g_m261, g_m262, g_m263, g_m264, g_m265, g_m266, g_m267, g_m268, g_m269, g_m270, g_m271], [g_m272, g_m273, g_m274, g_m275, g_m276, g_m277]]
def g_code (m pc : Nat) : Option (Nat × Int × Nat × Nat) := ((((g_codes.getD (m / 16) []).getD (m % 16) []).getD (pc / 16) []).getD (pc % 16) none)
def g_lnk (m pc : Nat) : List Nat := ((((g_links.getD (m / 16) []).getD (m % 16) []).getD (pc / 16) []).getD (pc % 16) [])
def g_m (m : Nat) : MethodName × ByteArray × Nat × Option FieldType := (g_meths.getD (m / 16) []).getD (m % 16) g_m0
def g_N : Nat := 278
end
section
/-! THE INT MACHINE: a small machine over whole numbers that runs the tables g_code. Values: (0, int) (1, long) (2, cell of the heap, below 0: null) (3, the formatter) (4, a thing that was there before: 1 the static row, 2 the script, 10 + 2k a text, 11 + 2k its bytes) -/
abbrev jm_V : Type := Nat × Int
abbrev jm_C : Type := Nat × List Int
abbrev jm_H : Type := List jm_C × Nat
abbrev jm_L : Type := List (Nat × jm_V)
abbrev jm_I : Type := Nat × Int × Nat × Nat
abbrev jm_T : Type := Nat × jm_L × List jm_V × jm_H
def jm_n (z : Int) : Int := (Int32.ofInt z).toInt
def jm_nl (z : Int) : Int := (Int64.ofInt z).toInt
def jm_get (L : jm_L) (i : Nat) : Option jm_V := (L.find? (fun q => q.1 == i)).map (fun q => q.2)
def jm_st1 (L : jm_L) (i : Nat) (v : jm_V) : jm_L := (i, v) :: L.filter (fun q => !(q.1 == i) && !(q.1 + 1 == i && q.2.1 == 1))
def jm_st2 (L : jm_L) (i : Nat) (v : jm_V) : jm_L := (i, v) :: L.filter (fun q => !(q.1 == i) && (!(q.1 == i + 1) && !(q.1 + 1 == i && q.2.1 == 1)))
def jm_drop (L : jm_L) (i : Nat) : jm_L := L.filter (fun q => !(q.1 == i) && !(q.1 + 1 == i && q.2.1 == 1))
def jm_bin (b : Nat) (x y : Int) : Option Int := match b with
  | 0 => some (x + y)
  | 1 => some (x - y)
  | 2 => some (x * y)
  | 3 => some (Int32.ofInt x &&& Int32.ofInt y).toInt
  | 4 => some (Int32.ofInt x ||| Int32.ofInt y).toInt
  | 5 => some (Int32.ofInt x ^^^ Int32.ofInt y).toInt
  | 6 => some (Int32.ofInt x <<< (Int32.ofInt y &&& 31)).toInt
  | 7 => some (Int32.ofInt x >>> (Int32.ofInt y &&& 31)).toInt
  | 8 => some (((Int32.ofInt x).toUInt32 >>> ((Int32.ofInt y).toUInt32 &&& Int32.toUInt32 31)).toInt32).toInt
  | 9 => if jm_n y = 0 then none else some ((jm_n x).tdiv (jm_n y))
  | 10 => if jm_n y = 0 then none else some ((jm_n x).tmod (jm_n y))
  | _ => none
def jm_lbin (b : Nat) (x y : Int) : Option Int := match b with
  | 0 => some (x + y)
  | 1 => some (x * y)
  | 2 => some (Int64.ofInt x &&& Int64.ofInt y).toInt
  | 3 => some (Int64.ofInt x ||| Int64.ofInt y).toInt
  | _ => none
def jm_lsh (b : Nat) (x y : Int) : Option Int := match b with
  | 4 => some (Int64.ofInt x <<< ((Int32.ofInt y).toInt64 &&& 63)).toInt
  | 5 => some (Int64.ofInt x >>> ((Int32.ofInt y).toInt64 &&& 63)).toInt
  | _ => none
def jm_cnd (b : Nat) (x y : Int) : Bool := match b with
  | 0 => decide (jm_n x = jm_n y)
  | 1 => decide (¬ jm_n x = jm_n y)
  | 2 => decide (jm_n x < jm_n y)
  | 3 => decide (jm_n y ≤ jm_n x)
  | 4 => decide (jm_n y < jm_n x)
  | _ => decide (jm_n x ≤ jm_n y)
def jm_cmp (x y : Int) : Int := if jm_nl y < jm_nl x then 1 else if jm_nl x = jm_nl y then 0 else -1
def jm_b (z : Int) : Int := (vp_nar .byte (Int32.ofInt z)).toInt
def jm_z (z : Int) : Int := (vp_nar .boolean (Int32.ofInt z)).toInt
def jm_cat (S : List jm_V) : Nat := (S.map (fun v => if v.1 = 1 then 2 else 1)).sum
def jm_args : Nat → List jm_V → jm_L
  | _, [] => []
  | i, v :: vs => (i, v) :: jm_args (if v.1 = 1 then i + 2 else i + 1) vs
def jm_cpy (f g : List Int) (sp dp n : Nat) : List Int := g.take dp ++ ((f.drop sp).take n ++ g.drop (dp + n))
def jm_ix (i : Int) (n : Nat) : Option Nat := if 0 ≤ jm_n i ∧ (jm_n i).toNat < n then some (jm_n i).toNat else none
def jm_cell (h : jm_H) (a : Int) : Option jm_C := if a < 0 then none else h.1[a.toNat]?
def jm_def (ci : Nat) : List Int := (g_ft.getD ci []).map (fun t => if t = 2 then -1 else 0)
def jm_load (i : jm_I) (pc : Nat) (L : jm_L) (S : List jm_V) (h : jm_H) : Option jm_T :=
  match jm_get L i.2.2.1 with
  | some v => if (i.2.1 = 0 ∧ v.1 = 0) ∨ (i.2.1 = 1 ∧ v.1 = 1) ∨ (i.2.1 = 2 ∧ ((v.1 = 2 ∧ 0 ≤ v.2) ∨ v.1 = 3 ∨ v.1 = 4)) then some (pc + 1 + i.2.2.2, L, v :: S, h) else none
  | none => none
def jm_store (i : jm_I) (pc : Nat) (L : jm_L) (S : List jm_V) (h : jm_H) : Option jm_T :=
  match S with
  | v :: r =>
    if i.2.1 = 0 ∧ v.1 = 0 then some (pc + 1 + i.2.2.2, jm_st1 L i.2.2.1 v, r, h)
    else if i.2.1 = 1 ∧ v.1 = 1 then some (pc + 1 + i.2.2.2, jm_st2 L i.2.2.1 v, r, h)
    else if i.2.1 = 2 ∧ v.1 = 2 ∧ 0 ≤ v.2 then some (pc + 1 + i.2.2.2, jm_st1 L i.2.2.1 v, r, h)
    else none
  | [] => none
def jm_inc (i : jm_I) (pc : Nat) (L : jm_L) (S : List jm_V) (h : jm_H) : Option jm_T :=
  match jm_get L i.2.2.1 with
  | some v => if v.1 = 0 then some (pc + 3, jm_st1 L i.2.2.1 (0, v.2 + i.2.1), S, h) else none
  | none => none
def jm_arith (i : jm_I) (pc : Nat) (L : jm_L) (S : List jm_V) (h : jm_H) : Option jm_T :=
  match S with
  | y :: x :: r => if y.1 = 0 ∧ x.1 = 0 then (jm_bin i.2.2.1 x.2 y.2).map (fun z => (pc + 1, L, (0, z) :: r, h)) else none
  | _ => none
def jm_larith (i : jm_I) (pc : Nat) (L : jm_L) (S : List jm_V) (h : jm_H) : Option jm_T :=
  match S with
  | y :: x :: r => if x.1 = 1 ∧ y.1 = 1 then (jm_lbin i.2.2.1 x.2 y.2).map (fun z => (pc + 1, L, (1, z) :: r, h)) else if x.1 = 1 ∧ y.1 = 0 then (jm_lsh i.2.2.1 x.2 y.2).map (fun z => (pc + 1, L, (1, z) :: r, h)) else none
  | _ => none
def jm_conv (i : jm_I) (pc : Nat) (L : jm_L) (S : List jm_V) (h : jm_H) : Option jm_T :=
  match S with
  | x :: r =>
    if i.2.2.1 = 0 ∧ x.1 = 0 then some (pc + 1, L, (1, (Int32.ofInt x.2).toInt64.toInt) :: r, h)
    else if i.2.2.1 = 1 ∧ x.1 = 1 then some (pc + 1, L, (0, (Int64.ofInt x.2).toInt32.toInt) :: r, h)
    else if i.2.2.1 = 2 ∧ x.1 = 0 then some (pc + 1, L, (0, (Int32.ofInt x.2).toInt8.toInt32.toInt) :: r, h)
    else if i.2.2.1 = 3 ∧ x.1 = 0 then some (pc + 1, L, (0, ((Int32.ofInt x.2).toUInt32 % 65536).toInt32.toInt) :: r, h)
    else none
  | [] => none
def jm_stack (i : jm_I) (pc : Nat) (L : jm_L) (S : List jm_V) (h : jm_H) : Option jm_T :=
  match S with
  | x :: r =>
    if x.1 = 1 then none
    else if i.2.2.1 = 0 then some (pc + 1, L, x :: x :: r, h)
    else if i.2.2.1 = 1 then some (pc + 1, L, r, h)
    else match r with
      | y :: r' => if y.1 = 1 then none else some (pc + 1, L, x :: y :: x :: y :: r', h)
      | [] => none
  | [] => none
def jm_if (i : jm_I) (pc : Nat) (L : jm_L) (S : List jm_V) (h : jm_H) : Option jm_T :=
  match S with
  | x :: r => if x.1 = 0 then some (if jm_cnd i.2.2.1 x.2 0 then i.2.2.2 else pc + 3, L, r, h) else none
  | [] => none
def jm_if2 (i : jm_I) (pc : Nat) (L : jm_L) (S : List jm_V) (h : jm_H) : Option jm_T :=
  match S with
  | y :: x :: r => if y.1 = 0 ∧ x.1 = 0 then some (if jm_cnd i.2.2.1 x.2 y.2 then i.2.2.2 else pc + 3, L, r, h) else none
  | _ => none
def jm_lcmp (pc : Nat) (L : jm_L) (S : List jm_V) (h : jm_H) : Option jm_T :=
  match S with
  | y :: x :: r => if y.1 = 1 ∧ x.1 = 1 then some (pc + 1, L, (0, jm_cmp x.2 y.2) :: r, h) else none
  | _ => none
def jm_getf (i : jm_I) (pc : Nat) (L : jm_L) (S : List jm_V) (h : jm_H) : Option jm_T :=
  match S with
  | o :: r => if o.1 = 2 then match jm_cell h o.2 with
      | some c => if c.1 = 10 + i.2.2.1 then match c.2[i.2.2.2]? with
          | some z => some (pc + 3, L, (if i.2.1 = 3 then 0 else i.2.1.toNat, z) :: r, h)
          | none => none
        else none
      | none => none
    else none
  | [] => none
def jm_fok (t : Int) (v : jm_V) : Bool := decide ((t = 0 ∧ v.1 = 0) ∨ (t = 1 ∧ v.1 = 1) ∨ (t = 2 ∧ v.1 = 2 ∧ 0 ≤ v.2) ∨ (t = 3 ∧ v.1 = 0 ∧ (jm_n v.2 = 0 ∨ jm_n v.2 = 1)))
def jm_putf (i : jm_I) (pc : Nat) (L : jm_L) (S : List jm_V) (h : jm_H) : Option jm_T :=
  match S with
  | v :: o :: r => if o.1 = 2 ∧ jm_fok i.2.1 v = true then match jm_cell h o.2 with
      | some c => if c.1 = 10 + i.2.2.1 ∧ i.2.2.2 < c.2.length then some (pc + 3, L, r, (h.1.set o.2.toNat (c.1, c.2.set i.2.2.2 v.2), h.2)) else none
      | none => none
    else none
  | _ => none
def jm_ald (i : jm_I) (pc : Nat) (L : jm_L) (S : List jm_V) (h : jm_H) : Option jm_T :=
  match S with
  | j :: a :: r => if j.1 = 0 ∧ a.1 = 2 then match jm_cell h a.2 with
      | some c => if (i.2.2.1 = 0 ∧ c.1 = 0) ∨ (i.2.2.1 = 1 ∧ (c.1 = 1 ∨ c.1 = 3)) ∨ (i.2.2.1 = 2 ∧ c.1 = 2) ∨ (i.2.2.1 = 3 ∧ c.1 = 4) then
          (jm_ix j.2 c.2.length).map (fun n => (pc + 1, L, (if i.2.2.1 = 2 then 1 else if i.2.2.1 = 3 then 2 else 0, c.2.getD n 0) :: r, h))
        else none
      | none => none
    else none
  | _ => none
def jm_ast (i : jm_I) (pc : Nat) (L : jm_L) (S : List jm_V) (h : jm_H) : Option jm_T :=
  match S with
  | v :: j :: a :: r => if j.1 = 0 ∧ a.1 = 2 then match jm_cell h a.2 with
      | some c => match jm_ix j.2 c.2.length with
          | some n =>
            if i.2.2.1 = 0 ∧ c.1 = 0 ∧ v.1 = 0 then some (pc + 1, L, r, (h.1.set a.2.toNat (c.1, c.2.set n v.2), h.2))
            else if i.2.2.1 = 1 ∧ c.1 = 1 ∧ v.1 = 0 then some (pc + 1, L, r, (h.1.set a.2.toNat (c.1, c.2.set n (jm_b v.2)), h.2))
            else if i.2.2.1 = 1 ∧ c.1 = 3 ∧ v.1 = 0 then some (pc + 1, L, r, (h.1.set a.2.toNat (c.1, c.2.set n (jm_z v.2)), h.2))
            else if i.2.2.1 = 2 ∧ c.1 = 2 ∧ v.1 = 1 then some (pc + 1, L, r, (h.1.set a.2.toNat (c.1, c.2.set n v.2), h.2))
            else if i.2.2.1 = 3 ∧ c.1 = 4 ∧ v.1 = 2 then match jm_cell h v.2 with
              | some c' => if c'.1 = 10 + i.2.2.2 then some (pc + 1, L, r, (h.1.set a.2.toNat (c.1, c.2.set n v.2), h.2)) else none
              | none => none
            else none
          | none => none
      | none => none
    else none
  | _ => none
def jm_newa (i : jm_I) (pc : Nat) (L : jm_L) (S : List jm_V) (h : jm_H) : Option jm_T :=
  match S with
  | v :: r => if v.1 = 0 ∧ 0 ≤ jm_n v.2 ∧ jm_n v.2 ≤ 100000 ∧ h.2 = 0 then some (pc + (if i.2.2.1 = 4 then 3 else 2), L, (2, (h.1.length : Int)) :: r, (h.1 ++ [(i.2.2.1, List.replicate (jm_n v.2).toNat (if i.2.2.1 = 4 then -1 else 0))], h.2)) else none
  | [] => none
def jm_new (i : jm_I) (pc : Nat) (L : jm_L) (S : List jm_V) (h : jm_H) : Option jm_T :=
  if h.2 = 0 then some (pc + 3, L, (2, (h.1.length : Int)) :: S, (h.1 ++ [(10 + i.2.2.1, jm_def i.2.2.1)], h.2)) else none
def jm_tsw (i : jm_I) (L : jm_L) (S : List jm_V) (h : jm_H) : Option jm_T :=
  match S with
  | x :: r => if x.1 = 0 then
      (if jm_n x.2 < i.2.1 ∨ i.2.1 + ((g_sw.getD i.2.2.2 []).length : Int) ≤ jm_n x.2 then some (i.2.2.1, L, r, h)
       else match (g_sw.getD i.2.2.2 [])[(jm_n x.2 - i.2.1).toNat]? with
         | some t => some (t, L, r, h)
         | none => none)
    else none
  | [] => none
def jm_gets (i : jm_I) (pc : Nat) (L : jm_L) (S : List jm_V) (h : jm_H) : Option jm_T :=
  match i.2.2.1 with
  | 0 => some (pc + 3, L, (0, 1) :: S, h)
  | 1 => some (pc + 3, L, (3, 0) :: S, h)
  | 2 => some (pc + 3, L, (4, 1) :: S, h)
  | _ => none
def jm_spec (sc : List Int) (i : jm_I) (pc : Nat) (L : jm_L) (S : List jm_V) (h : jm_H) : Option jm_T :=
  match i.2.2.1, S with
  | 0, j :: a :: r => if j.1 = 0 ∧ a = (4, 1) then (jm_ix j.2 g_most.length).map (fun n => (pc + 1, L, (0, g_most.getD n 0) :: r, h)) else none
  | 1, j :: a :: r => if j.1 = 0 ∧ a = (4, 2) then (jm_ix j.2 sc.length).map (fun n => (pc + 1, L, (0, sc.getD n 0) :: r, h)) else none
  | 2, a :: r => if a = (4, 2) then some (pc + 1, L, (0, (sc.length : Int)) :: r, h) else none
  | 3, a :: r => if a.1 = 4 ∧ 10 ≤ a.2 ∧ a.2 < 10 + 2 * g_str.length ∧ a.2 % 2 = 0 then some (pc + 3, L, (4, a.2 + 1) :: r, h) else none
  | 4, a :: r => if a.1 = 4 ∧ 10 ≤ a.2 ∧ a.2 < 10 + 2 * g_str.length ∧ a.2 % 2 = 0 then some (pc + 3, L, (0, 0) :: r, h) else none
  | 5, a :: r => if a.1 = 4 ∧ 10 ≤ a.2 ∧ a.2 < 10 + 2 * g_str.length ∧ a.2 % 2 = 1 then some (pc + 1, L, (0, ((g_str.getD (a.2.toNat / 2 - 5) []).length : Int)) :: r, h) else none
  | 6, j :: a :: r => if j.1 = 0 ∧ a.1 = 4 ∧ 10 ≤ a.2 ∧ a.2 < 10 + 2 * g_str.length ∧ a.2 % 2 = 1 then (jm_ix j.2 (g_str.getD (a.2.toNat / 2 - 5) []).length).map (fun n => (pc + 1, L, (0, (g_str.getD (a.2.toNat / 2 - 5) []).getD n 0) :: r, h)) else none
  | _, _ => none
def jm_obj (pc : Nat) (L : jm_L) (S : List jm_V) (h : jm_H) : Option jm_T :=
  match S with
  | o :: r => if o.1 = 2 ∧ 0 ≤ o.2 ∧ jm_cat r ≤ 8 then some (pc + 3, L, r, h) else none
  | [] => none
def jm_acpy (pc : Nat) (L : jm_L) (S : List jm_V) (h : jm_H) : Option jm_T :=
  match S with
  | n :: dp :: d :: sp :: a :: r =>
    if n.1 = 0 ∧ dp.1 = 0 ∧ d.1 = 2 ∧ sp.1 = 0 ∧ a.1 = 2 ∧ 0 ≤ jm_n n.2 ∧ 0 ≤ jm_n dp.2 ∧ 0 ≤ jm_n sp.2 ∧ jm_cat r ≤ 8 then
      match jm_cell h a.2, jm_cell h d.2 with
      | some c, some c' => if c.1 = c'.1 ∧ (c.1 = 0 ∨ c.1 = 2) ∧ (jm_n sp.2).toNat + (jm_n n.2).toNat ≤ c.2.length ∧ (jm_n dp.2).toNat + (jm_n n.2).toNat ≤ c'.2.length then
          some (pc + 3, L, r, (h.1.set d.2.toNat (c'.1, jm_cpy c.2 c'.2 (jm_n sp.2).toNat (jm_n dp.2).toNat (jm_n n.2).toNat), h.2))
        else none
      | _, _ => none
    else none
  | _ => none
def jm_alen (pc : Nat) (L : jm_L) (S : List jm_V) (h : jm_H) : Option jm_T :=
  match S with
  | a :: r => if a.1 = 2 then match jm_cell h a.2 with
      | some c => if c.1 < 5 then some (pc + 1, L, (0, (c.2.length : Int)) :: r, h) else none
      | none => none
    else none
  | [] => none
def jm_mm (i : jm_I) (pc : Nat) (L : jm_L) (S : List jm_V) (h : jm_H) : Option jm_T :=
  match S with
  | y :: x :: r => if y.1 = 0 ∧ x.1 = 0 ∧ jm_cat r ≤ 8 then some (pc + 3, L, (0, if i.2.2.1 = 0 then (if jm_n x.2 < jm_n y.2 then y.2 else x.2) else (if jm_n y.2 < jm_n x.2 then y.2 else x.2)) :: r, h) else none
  | _ => none
def jm_stp (sc : List Int) (i : jm_I) (pc : Nat) (L : jm_L) (S : List jm_V) (h : jm_H) : Option jm_T :=
  match i.1 with
  | 0 => some (pc + i.2.2.2, L, (0, i.2.1) :: S, h)
  | 1 => some (pc + i.2.2.2, L, (1, i.2.1) :: S, h)
  | 2 => jm_load i pc L S h
  | 3 => jm_store i pc L S h
  | 4 => jm_inc i pc L S h
  | 5 => jm_arith i pc L S h
  | 6 => jm_larith i pc L S h
  | 7 => jm_conv i pc L S h
  | 8 => jm_stack i pc L S h
  | 9 => jm_if i pc L S h
  | 10 => jm_if2 i pc L S h
  | 11 => some (i.2.2.2, L, S, h)
  | 12 => jm_lcmp pc L S h
  | 13 => jm_getf i pc L S h
  | 14 => jm_putf i pc L S h
  | 15 => jm_ald i pc L S h
  | 16 => jm_ast i pc L S h
  | 17 => jm_newa i pc L S h
  | 18 => jm_new i pc L S h
  | 19 => some (pc + 2 + i.2.2.2, L, (4, 10 + 2 * (i.2.2.1 : Int)) :: S, h)
  | 20 => jm_tsw i L S h
  | 21 => jm_gets i pc L S h
  | 22 => jm_spec sc i pc L S h
  | 23 => jm_obj pc L S h
  | 24 => jm_acpy pc L S h
  | 25 => jm_alen pc L S h
  | 26 => jm_mm i pc L S h
  | _ => none
/-- a method's end: (9, 0) says that it threw -/
def jm_ret (i : jm_I) (S : List jm_V) (h : jm_H) : Option (Option jm_V × jm_H) :=
  match i.2.2.1, S with
  | 0, [v] => if v.1 = 0 ∧ ((i.2.2.2 = 0) ∨ (i.2.2.2 = 1 ∧ (jm_n v.2 = 0 ∨ jm_n v.2 = 1)) ∨ (i.2.2.2 = 2 ∧ 0 ≤ jm_n v.2 ∧ jm_n v.2 < 65536) ∨ (i.2.2.2 = 3 ∧ jm_n v.2 = 0)) then some (some v, h) else none
  | 1, [v] => if v.1 = 1 then some (some v, h) else none
  | 2, [] => some (none, h)
  | _, _ => none
/-- who is called: is he of the class that the call names -/
def jm_rcv (a : Int) (S : List jm_V) (h : jm_H) : Bool :=
  match S with
  | [] => decide (a = -1)
  | o :: _ => if a = -1 then true else if a = -2 ∨ a = -3 then decide (o.1 = 2 ∧ 0 ≤ o.2) else if a = 5 then decide (o.1 = 4 ∧ 10 ≤ o.2 ∧ o.2 < 10 + 2 * g_str.length ∧ o.2 % 2 = 0) else match o.1, jm_cell h o.2 with
    | 2, some c => decide ((c.1 : Int) = a)
    | _, _ => false
def jm_exec (sc : List Int) : Nat → Nat → Nat → Nat → jm_L → List jm_V → jm_H → Option (Option jm_V × jm_H)
  | 0, _, _, _, _, _, _ => none
  | n + 1, d, m, pc, L, S, h =>
    match g_code m pc with
    | none => none
    | some i =>
      if i.1 = 40 then jm_ret i S h
      else if i.1 = 41 then (if 10 ≤ d ∧ jm_cat S ≤ 8 then some (some (9, 0), (h.1, h.2 + 1)) else none)
      else if i.1 = 30 ∨ i.1 = 31 ∨ i.1 = 32 then
        match d with
        | 0 => none
        | d' + 1 =>
          if i.2.2.2 ≤ S.length ∧ jm_cat (S.drop i.2.2.2) ≤ 8 ∧ jm_cat (S.take i.2.2.2) ≤ (g_m i.2.2.1).2.2.1 ∧ jm_rcv (if i.1 = 31 then 10 + ((g_lnk m pc).getD 5 0 : Int) else i.2.1) (S.take i.2.2.2).reverse h = true then
            match jm_exec sc n d' i.2.2.1 0 (jm_args 0 (S.take i.2.2.2).reverse) [] h with
            | none => none
            | some (r, h') =>
              if r = some (9, 0) then (if i.1 = 31 then jm_exec sc n (d' + 1) m i.2.1.toNat (jm_drop L ((g_lnk m pc).getD 6 0)) [] h' else none)
              else jm_exec sc n (d' + 1) m (pc + 3) L (r.toList ++ S.drop i.2.2.2) h'
          else none
      else match jm_stp sc i pc L S h with
        | none => none
        | some (pc', L', S', h') => jm_exec sc n d m pc' L' S' h'
end
section
/-! what the Int machine's values, cells and locals are in the Java machine -/
def jm_cv (ad : Nat → Nat) (fmt : Value) (v : jm_V) : Value := match v.1 with
  | 0 => .int (Int32.ofInt v.2)
  | 1 => .long (Int64.ofInt v.2)
  | 2 => if v.2 < 0 then .null else .ref (ad 0 + v.2.toNat)
  | 3 => fmt
  | _ => .ref (ad v.2.toNat)
def jm_tg (t : Nat) : Nat := if t = 3 then 0 else t
def jm_ce (aC : Nat → ClassId) (ad : Nat → Nat) (fmt : Value) (c : jm_C) : va_E := match c.1 with
  | 0 => .inl (aC 0, c.2.length, .inl (fun j => Int32.ofInt (c.2.getD j 0)))
  | 1 => .inl (aC 1, c.2.length, .inl (fun j => Int32.ofInt (c.2.getD j 0)))
  | 2 => .inl (aC 2, c.2.length, .inr (.inl (fun j => Int64.ofInt (c.2.getD j 0))))
  | 3 => .inl (aC 3, c.2.length, .inl (fun j => Int32.ofInt (c.2.getD j 0)))
  | 4 => .inl (aC 4, c.2.length, .inr (.inr (.inr (.inr (fun j => if c.2.getD j 0 < 0 then none else some (ad 0 + (c.2.getD j 0).toNat))))))
  | k => .inr (k - 10, List.zipWith (fun t z => jm_cv ad fmt (jm_tg t, z)) (g_ft.getD (k - 10) []) c.2)
def jm_ws (aC : Nat → ClassId) (ad : Nat → Nat) (fmt : Value) (cs : List jm_C) : va_W := cs.zipIdx.map (fun q => (ad 0 + q.2, jm_ce aC ad fmt q.1))
def jm_ls (ad : Nat → Nat) (fmt : Value) (L : jm_L) : List (Nat × Value) := L.map (fun q => (q.1, jm_cv ad fmt q.2))
def jm_A (ad : Nat → Nat) : Nat → Prop := fun q => ad 0 ≤ q
def jm_tys (aC : Nat → ClassId) : List (ClassId × FieldType) := [(aC 0, .int), (aC 1, .byte), (aC 2, .long), (aC 3, .boolean), (aC 4, .object "RideLaws$State")]
def jm_cn (h : jm_H) : Nat := h.1.length + h.2
def jm_sl (h : jm_H) : Nat := (h.1.map (fun c => c.2.length)).sum + 6 * h.2
section
variable {aC : Nat → ClassId} {ad : Nat → Nat} {fmt : Value}
theorem jm_cv0 {v : jm_V} (h : v.1 = 0) : jm_cv ad fmt v = .int (Int32.ofInt v.2) := by obtain ⟨t, z⟩ := v; cases h; rfl
theorem jm_cv1 {v : jm_V} (h : v.1 = 1) : jm_cv ad fmt v = .long (Int64.ofInt v.2) := by obtain ⟨t, z⟩ := v; cases h; rfl
theorem jm_cv2 {v : jm_V} (h : v.1 = 2) (h2 : 0 ≤ v.2) : jm_cv ad fmt v = .ref (ad 0 + v.2.toNat) := by
  obtain ⟨t, z⟩ := v; cases h; exact if_neg (by dsimp at h2; omega)
theorem jm_cv3 {v : jm_V} (h : v.1 = 3) : jm_cv ad fmt v = fmt := by obtain ⟨t, z⟩ := v; cases h; rfl
theorem jm_cv4 {v : jm_V} (h : v.1 = 4) : jm_cv ad fmt v = .ref (ad v.2.toNat) := by obtain ⟨t, z⟩ := v; cases h; rfl
theorem jm_cvc (hf : fmt.category = 1) (v : jm_V) : (jm_cv ad fmt v).category = if v.1 = 1 then 2 else 1 := by
  obtain ⟨t, z⟩ := v
  match t with
  | 0 => rfl
  | 1 => rfl
  | 2 => show (if z < 0 then Value.null else Value.ref _).category = _; split <;> rfl
  | 3 => exact hf
  | t + 4 => rfl
theorem jm_wsg (cs : List jm_C) (i : Nat) : (jm_ws aC ad fmt cs)[i]? = (cs[i]?).map (fun c => (ad 0 + i, jm_ce aC ad fmt c)) := by
  unfold jm_ws
  rw [List.getElem?_map, List.getElem?_zipIdx]
  cases cs[i]? <;> simp
theorem jm_wsset (cs : List jm_C) (i : Nat) (c : jm_C) : jm_ws aC ad fmt (cs.set i c) = (jm_ws aC ad fmt cs).set i (ad 0 + i, jm_ce aC ad fmt c) := by
  apply List.ext_getElem?
  intro j
  rw [jm_wsg, List.getElem?_set, List.getElem?_set, jm_wsg]
  by_cases h : i = j
  · subst h
    have hl : (jm_ws aC ad fmt cs).length = cs.length := by simp [jm_ws]
    simp only [if_true, hl]
    split <;> rfl
  · simp [h]
theorem jm_wsapp (cs : List jm_C) (c : jm_C) : jm_ws aC ad fmt (cs ++ [c]) = jm_ws aC ad fmt cs ++ [(ad 0 + cs.length, jm_ce aC ad fmt c)] := by
  simp [jm_ws, List.zipIdx_append]
theorem jm_wsD (cs : List jm_C) : va_D (jm_A ad) (jm_ws aC ad fmt cs) := by
  refine ⟨fun i j p q hi hj hpq => ?_, fun k q hk => ?_⟩
  · rw [jm_wsg] at hi hj
    cases h1 : cs[i]? with
    | none => rw [h1] at hi; cases hi
    | some x =>
      cases h2 : cs[j]? with
      | none => rw [h2] at hj; cases hj
      | some y =>
        rw [h1] at hi; rw [h2] at hj
        cases hi; cases hj
        dsimp at hpq
        omega
  · rw [jm_wsg] at hk
    cases h1 : cs[k]? with
    | none => rw [h1] at hk; cases hk
    | some x => rw [h1] at hk; cases hk; exact Nat.le_add_right _ _
theorem jm_cellw {h : jm_H} {a : Int} {c : jm_C} (hc : jm_cell h a = some c) : 0 ≤ a ∧ h.1[a.toNat]? = some c ∧ (jm_ws aC ad fmt h.1)[a.toNat]? = some (ad 0 + a.toNat, jm_ce aC ad fmt c) := by
  unfold jm_cell at hc
  split at hc
  · cases hc
  · exact ⟨by omega, hc, by rw [jm_wsg, hc]; rfl⟩
theorem jm_nl_in {i : Int} {n k : Nat} (h : jm_ix i n = some k) : vp_in (Int32.ofInt i) n ∧ (Int32.ofInt i).toNatClampNeg = k ∧ k < n := by
  unfold jm_ix at h
  split at h
  · rename_i h1
    cases h
    refine ⟨fun q => ?_, rfl, h1.2⟩
    rcases q with q | q
    · have := Int32.lt_iff_toInt_lt.mp q
      have h2 := h1.1
      unfold jm_n at h2
      rw [show (0 : Int32).toInt = 0 from rfl] at this
      omega
    · have h2 := h1.2
      unfold jm_n at h2
      exact absurd h2 (Nat.not_lt.mpr q)
  · cases h
theorem jm_getl {L : jm_L} {i : Nat} {v : jm_V} (h : jm_get L i = some v) : ∃ k : Nat, (jm_ls ad fmt L)[k]? = some (i, jm_cv ad fmt v) := by
  unfold jm_get at h
  cases h1 : L.find? (fun q => q.1 == i) with
  | none => rw [h1] at h; cases h
  | some q =>
    rw [h1] at h
    cases h
    have h2 := List.mem_of_find?_eq_some h1
    have h3 := List.find?_some h1
    obtain ⟨k, hk⟩ := List.getElem?_of_mem h2
    refine ⟨k, ?_⟩
    unfold jm_ls
    rw [List.getElem?_map, hk]
    simp at h3
    simp [h3]
theorem jm_lst1 (hf : fmt.category = 1) (L : jm_L) (i : Nat) (v : jm_V) : (i, jm_cv ad fmt v) :: (jm_ls ad fmt L).filter (fun q => !(q.1 == i) && !(q.1 + 1 == i && q.2.category == 2)) = jm_ls ad fmt (jm_st1 L i v) := by
  unfold jm_ls jm_st1
  rw [List.map_cons, List.filter_map]
  congr 2
  apply List.filter_congr
  intro q _
  have := jm_cvc (ad := ad) hf q.2
  by_cases h1 : q.2.1 = 1 <;> simp [this, h1]
theorem jm_lst2 (hf : fmt.category = 1) (L : jm_L) (i : Nat) (v : jm_V) : (i, jm_cv ad fmt v) :: (jm_ls ad fmt L).filter (fun q => !(q.1 == i) && (!(q.1 == i + 1) && !(q.1 + 1 == i && q.2.category == 2))) = jm_ls ad fmt (jm_st2 L i v) := by
  unfold jm_ls jm_st2
  rw [List.map_cons, List.filter_map]
  congr 2
  apply List.filter_congr
  intro q _
  have := jm_cvc (ad := ad) hf q.2
  by_cases h1 : q.2.1 = 1
  · simp [this, h1]
  · have h2 : (q.2.1 == 1) = false := by simp [h1]
    simp [this, h1, h2]
theorem jm_slset {cs : List jm_C} {i : Nat} {c c' : jm_C} (h : cs[i]? = some c) (hl : c'.2.length = c.2.length) : ((cs.set i c').map (fun c => c.2.length)).sum = (cs.map (fun c => c.2.length)).sum := by
  have : (cs.set i c').map (fun c => c.2.length) = cs.map (fun c => c.2.length) := by
    apply List.ext_getElem?
    intro j
    rw [List.getElem?_map, List.getElem?_map, List.getElem?_set]
    by_cases hj : i = j
    · subst hj
      have hlt := (List.getElem?_eq_some_iff.mp h).1
      rw [if_pos rfl, if_pos hlt, h]
      simp [hl]
    · simp [hj]
  rw [this]
end
end
section
/-! the tables are those of the bytecode: checked by the kernel, method by method -/
def jm_W : List Cond := lw_tbl.filter goodWord
def jm_w (j : Nat) (w : Cond) : Bool := decide (lw_tbl[j]? = some w) && goodWord w
theorem jm_w_in {j : Nat} {w : Cond} (h : jm_w j w = true) : w ∈ jm_W := by
  simp only [jm_w, Bool.and_eq_true, decide_eq_true_eq] at h
  exact List.mem_filter.mpr ⟨List.mem_of_getElem? h.1, h.2⟩
def jm_dc (bc : ByteArray) (pc : Nat) (i : Instr) (n : Nat) : Bool := decide (decode bc pc = .ok (i, n))
theorem jm_dc_eq {bc : ByteArray} {pc : Nat} {i : Instr} {n : Nat} (h : jm_dc bc pc i n = true) : decode bc pc = .ok (i, n) := of_decide_eq_true h
def jm_if1 (b : Nat) (off : Int) : Instr := match b with
  | 0 => .ifCond .eq off
  | 1 => .ifCond .ne off
  | 2 => .ifCond .lt off
  | 3 => .ifCond .ge off
  | 4 => .ifCond .gt off
  | _ => .ifCond .le off
def jm_ifc (b : Nat) (off : Int) : Instr := match b with
  | 0 => .if_icmp .eq off
  | 1 => .if_icmp .ne off
  | 2 => .if_icmp .lt off
  | 3 => .if_icmp .ge off
  | 4 => .if_icmp .gt off
  | _ => .if_icmp .le off
def jm_bi (b : Nat) : Instr := match b with
  | 0 => .iadd
  | 1 => .isub
  | 2 => .imul
  | 3 => .iand
  | 4 => .ior
  | 5 => .ixor
  | 6 => .ishl
  | 7 => .ishr
  | 8 => .iushr
  | 9 => .idiv
  | _ => .irem
def jm_lbi (b : Nat) : Instr := match b with
  | 0 => .ladd
  | 1 => .lmul
  | 2 => .land
  | 3 => .lor
  | 4 => .lshl
  | _ => .lshr
def jm_cvi (b : Nat) : Instr := match b with
  | 0 => .i2l
  | 1 => .l2i
  | 2 => .i2b
  | _ => .i2c
def jm_at (b : Nat) : ArrayType := match b with
  | 0 => .int
  | 1 => .byte
  | 2 => .long
  | _ => .boolean
def jm_ty (b : Nat) : FieldType := match b with
  | 0 => .int
  | 1 => .byte
  | 2 => .long
  | _ => .boolean
def jm_f4 (f : Fin 4 → Instr) (bc : ByteArray) (pc b : Nat) : Bool := if h : b < 4 then jm_dc bc pc (f ⟨b, h⟩) 1 else false
def jm_sto : List (String × String × String) := [("java/lang/String", "COMPACT_STRINGS", "Z"), ("jdk/internal/util/Preconditions", "SIOOBE_FORMATTER", "Ljava/util/function/BiFunction;"), ("RideLaws$Plan", "MOST_OF", "[I")]
def jm_str (k : Nat) : String × Nat × String := g_strs.getD k ("", 0, "")
def jm_ok1 (lk : List Nat) (y : MethodName) (bc : ByteArray) (ml pc : Nat) (i : jm_I) : Bool :=
  let k0 := lk.getD 0 0
  let k1 := lk.getD 1 0
  match i.1 with
  | 0 => match i.2.2.1 with
    | 0 => jm_dc bc pc (.iconst i.2.1) 1 && decide (i.2.2.2 = 1)
    | 1 => jm_dc bc pc (.bipush i.2.1) 2 && decide (i.2.2.2 = 2) && decide ((Int8.ofInt i.2.1).toInt32 = Int32.ofInt i.2.1)
    | 2 => jm_dc bc pc (.sipush i.2.1) 3 && decide (i.2.2.2 = 3) && decide ((Int16.ofInt i.2.1).toInt32 = Int32.ofInt i.2.1)
    | 3 => jm_dc bc pc (.ldc k0) 2 && decide (i.2.2.2 = 2) && jm_w k1 (.constant y.cls k0 (Int32.ofInt i.2.1))
    | _ => jm_dc bc pc (.ldc_w k0) 3 && decide (i.2.2.2 = 3) && jm_w k1 (.constant y.cls k0 (Int32.ofInt i.2.1))
  | 1 => match i.2.2.1 with
    | 0 => (if i.2.1 = 0 then jm_dc bc pc (.lconst 0) 1 else jm_dc bc pc (.lconst 1) 1 && decide (i.2.1 = 1)) && decide (i.2.2.2 = 1)
    | _ => jm_dc bc pc (.ldc2_w k0) 3 && decide (i.2.2.2 = 3) && jm_w k1 (.constantLong y.cls k0 (Int64.ofInt i.2.1))
  | 2 => match i.2.2.2 with
    | 0 => if i.2.1 = 0 then jm_f4 .iload_n bc pc i.2.2.1 else if i.2.1 = 1 then jm_f4 .lload_n bc pc i.2.2.1 else jm_f4 .aload_n bc pc i.2.2.1
    | _ => decide (i.2.2.2 = 1) && jm_dc bc pc (if i.2.1 = 0 then .iload i.2.2.1 else if i.2.1 = 1 then .lload i.2.2.1 else .aload i.2.2.1) 2
  | 3 => decide (i.2.2.1 < ml) && match i.2.2.2 with
    | 0 => if i.2.1 = 0 then jm_f4 .istore_n bc pc i.2.2.1 else if i.2.1 = 1 then decide (i.2.2.1 + 1 < ml) && jm_f4 .lstore_n bc pc i.2.2.1 else jm_f4 .astore_n bc pc i.2.2.1
    | _ => decide (i.2.2.2 = 1) && (if i.2.1 = 0 then jm_dc bc pc (.istore i.2.2.1) 2 else if i.2.1 = 1 then decide (i.2.2.1 + 1 < ml) && jm_dc bc pc (.lstore i.2.2.1) 2 else jm_dc bc pc (.astore i.2.2.1) 2)
  | 4 => decide (i.2.2.1 < ml) && jm_dc bc pc (.iinc i.2.2.1 i.2.1) 3
  | 5 => jm_dc bc pc (jm_bi i.2.2.1) 1
  | 6 => jm_dc bc pc (jm_lbi i.2.2.1) 1
  | 7 => jm_dc bc pc (jm_cvi i.2.2.1) 1
  | 8 => jm_dc bc pc (if i.2.2.1 = 0 then .dup else if i.2.2.1 = 1 then .pop else .dup2) 1
  | 9 => jm_dc bc pc (jm_if1 i.2.2.1 ((i.2.2.2 : Int) - pc)) 3
  | 10 => jm_dc bc pc (jm_ifc i.2.2.1 ((i.2.2.2 : Int) - pc)) 3
  | 11 => jm_dc bc pc (.goto ((i.2.2.2 : Int) - pc)) 3
  | 12 => jm_dc bc pc .lcmp 1
  | _ => false
def jm_tag (ty : FieldType) : Nat := match ty with
  | .int => 0
  | .long => 1
  | .boolean => 3
  | .object _ => 2
  | .array _ => 2
  | _ => 9
def jm_cok (ci : Nat) : Bool := match g_cl[ci]? with
  | some r => (u_ws r.1 r.2.1 r.2.2).all (fun w => decide (w ∈ lw_tbl) && goodWord w) && (List.range r.2.2).all (fun k => decide (parseFieldDescriptor (r.2.1 k).2.2.1 = some ((g_yl.getD ci g_Y0) k)) && decide ((g_ft.getD ci [])[k]? = some (jm_tag ((g_yl.getD ci g_Y0) k)))) && (List.range r.2.2).all (fun a => (List.range r.2.2).all (fun b => decide (a = b) || decide (¬ (r.2.1 a).2.1 = (r.2.1 b).2.1))) && decide ((g_ft.getD ci []).length = r.2.2)
  | none => true
def jm_fl (ci k : Nat) : String × String × String × Bool := ((g_cl[ci]?).getD ("", g_T0, 0)).2.1 k
def jm_ok2 (lk : List Nat) (y : MethodName) (bc : ByteArray) (pc : Nat) (i : jm_I) : Bool :=
  let k0 := lk.getD 0 0
  let k1 := lk.getD 1 0
  match i.1 with
  | 13 => jm_dc bc pc (.getfield k0) 3 && decide (0 ≤ i.2.1) && decide ((g_ft.getD i.2.2.1 [])[i.2.2.2]? = some i.2.1.toNat) && decide (i.2.2.1 < g_cl.length) && jm_w k1 (.fieldLink y.cls k0 (jm_fl i.2.2.1 i.2.2.2).1 (jm_fl i.2.2.1 i.2.2.2).2.1 (jm_fl i.2.2.1 i.2.2.2).2.2.1)
  | 14 => jm_dc bc pc (.putfield k0) 3 && decide (0 ≤ i.2.1) && decide ((g_ft.getD i.2.2.1 [])[i.2.2.2]? = some i.2.1.toNat) && decide (i.2.2.1 < g_cl.length) && jm_w k1 (.fieldLink y.cls k0 (jm_fl i.2.2.1 i.2.2.2).1 (jm_fl i.2.2.1 i.2.2.2).2.1 (jm_fl i.2.2.1 i.2.2.2).2.2.1) && (!(jm_fl i.2.2.1 i.2.2.2).2.2.2 || (decide ((jm_fl i.2.2.1 i.2.2.2).1 = y.cls) && decide (y.name = "<init>")))
  | 15 => jm_dc bc pc (match i.2.2.1 with | 0 => .iaload | 1 => .baload | 2 => .laload | _ => .aaload) 1
  | 16 => jm_dc bc pc (match i.2.2.1 with | 0 => .iastore | 1 => .bastore | 2 => .lastore | _ => .aastore) 1 && decide ((g_cl[i.2.2.2]?).map (fun r => r.1) = some "RideLaws$State")
  | 17 => if i.2.2.1 = 4 then jm_dc bc pc (.anewarray k0) 3 && jm_w k1 (.classLink y.cls k0 "RideLaws$State") else jm_dc bc pc (.newarray (jm_at i.2.2.1)) 2 && decide (i.2.2.1 < 4)
  | 18 => jm_dc bc pc (.new k0) 3 && decide (i.2.2.1 < g_cl.length) && jm_w k1 (.classLink y.cls k0 ((g_cl[i.2.2.1]?).getD ("", g_T0, 0)).1) && jm_w (lk.getD 2 0) (.instantiable ((g_cl[i.2.2.1]?).getD ("", g_T0, 0)).1 ((g_cl[i.2.2.1]?).getD ("", g_T0, 0)).2.2) && jm_w (lk.getD 3 0) (.initialized ((g_cl[i.2.2.1]?).getD ("", g_T0, 0)).1)
  | 19 => (if i.2.2.2 = 0 then jm_dc bc pc (.ldc k0) 2 else jm_dc bc pc (.ldc_w k0) 3 && decide (i.2.2.2 = 1)) && decide (i.2.2.1 < g_strs.length) && decide ((jm_str i.2.2.1).1 = y.cls) && decide ((jm_str i.2.2.1).2.1 = k0)
  | 20 => match decode bc pc with
    | .ok (.tableswitch d lo hi offs, _) => decide (lo = i.2.1) && decide (hi = lo + ((g_sw.getD i.2.2.2 []).length : Int) - 1) && decide ((pc : Int) + d = i.2.2.1) && decide (offs.toList.map (fun o => (pc : Int) + o) = (g_sw.getD i.2.2.2 []).map (fun t : Nat => (t : Int)))
    | _ => false
  | 21 => jm_dc bc pc (.getstatic k0) 3 && decide (i.2.2.1 < 3) && jm_w k1 (.fieldLink y.cls k0 (jm_sto.getD i.2.2.1 ("", "", "")).1 (jm_sto.getD i.2.2.1 ("", "", "")).2.1 (jm_sto.getD i.2.2.1 ("", "", "")).2.2)
  | 22 => match i.2.2.1 with
    | 0 => jm_dc bc pc .iaload 1
    | 1 => jm_dc bc pc .iaload 1
    | 2 => jm_dc bc pc .arraylength 1
    | 3 => jm_dc bc pc (.getfield k0) 3 && jm_w k1 (.fieldLink y.cls k0 "java/lang/String" "value" "[B")
    | 4 => jm_dc bc pc (.getfield k0) 3 && jm_w k1 (.fieldLink y.cls k0 "java/lang/String" "coder" "B")
    | 5 => jm_dc bc pc .arraylength 1
    | _ => jm_dc bc pc .baload 1
  | 23 => jm_dc bc pc (.invokespecial k0) 3 && jm_w k1 (.methodLink y.cls k0 Lib.objectInit)
  | 24 => jm_dc bc pc (.invokestatic k0) 3 && jm_w k1 (.methodLink y.cls k0 arraycopyName)
  | 25 => jm_dc bc pc .arraylength 1
  | 26 => jm_dc bc pc (.invokestatic k0) 3 && jm_w k1 (.methodLink y.cls k0 (if i.2.2.1 = 0 then Lib.Math.max.name else Lib.Math.min.name))
  | _ => false
/-- a call: the callee's words -/
def jm_mw (y : MethodName) (bc : ByteArray) (ml : Nat) (rt : Option FieldType) : Bool := plainName y.cls && decide (y.cls ≠ "java/lang/invoke/MethodHandle" ∧ y.cls ≠ "java/lang/invoke/VarHandle") && decide (ml ≤ 30)
def jm_np (y : MethodName) (n : Nat) : Bool := decide ((parseMethodDescriptor y.desc).map (fun d => d.parameters.length) = some n)
def jm_ok3 (lk : List Nat) (y : MethodName) (bc : ByteArray) (pc : Nat) (i : jm_I) : Bool :=
  let k0 := lk.getD 0 0
  let y' := (g_m i.2.2.1).1
  decide (i.2.2.1 < g_N) &&
  (if i.2.1 = -1 then jm_dc bc pc (.invokestatic k0) 3 && jm_w (lk.getD 1 0) (.methodLink y.cls k0 y') && jm_w (lk.getD 2 0) (.static y') && jm_w (lk.getD 3 0) (.initialized y'.cls) && jm_np y' i.2.2.2
   else if i.2.1 = -2 then jm_dc bc pc (.invokespecial k0) 3 && jm_w (lk.getD 1 0) (.methodLink y.cls k0 y') && jm_w (lk.getD 2 0) (.instanceMethod y') && jm_w (lk.getD 3 0) (.initialized y'.cls) && decide (y'.name = "<init>") && decide ((g_m i.2.2.1).2.2.2 = none) && decide (1 ≤ i.2.2.2) && jm_np y' (i.2.2.2 - 1)
   else if i.2.1 = -3 then jm_dc bc pc (.invokespecial k0) 3 && decide (lw_tbl[lk.getD 1 0]? = some (.methodLinkNest y.cls k0 y' "RideLaws")) && jm_w (lk.getD 2 0) (.instanceMethod y') && jm_w (lk.getD 3 0) (.initialized y'.cls) && decide (y'.name = "<init>") && decide ((g_m i.2.2.1).2.2.2 = none) && decide (1 ≤ i.2.2.2) && jm_np y' (i.2.2.2 - 1)
   else jm_dc bc pc (.invokevirtual k0) 3 && jm_w (lk.getD 1 0) (.methodLink y.cls k0 y') && jm_w (lk.getD 2 0) (.instanceMethod y') && jm_w (lk.getD 3 0) (.selects y'.cls y' y') && jm_w (lk.getD 4 0) (.initialized y'.cls) && decide (1 ≤ i.2.2.2) && jm_np y' (i.2.2.2 - 1) && (if i.1 = 31 then decide ((g_cl[lk.getD 5 0]?).map (fun r => r.1) = some y'.cls) else if i.2.1 = 5 then decide (y'.cls = "java/lang/String") else decide (10 ≤ i.2.1) && decide ((g_cl[(i.2.1 - 10).toNat]?).map (fun r => r.1) = some y'.cls)))
def jm_ok4 (bc : ByteArray) (rt : Option FieldType) (pc : Nat) (i : jm_I) : Bool := match i.2.2.1 with
  | 0 => jm_dc bc pc .ireturn 1 && decide (rt = (match i.2.2.2 with | 0 => some .int | 1 => some .boolean | 2 => some .char | _ => some .byte))
  | 1 => jm_dc bc pc .lreturn 1 && decide (rt = some .long)
  | _ => jm_dc bc pc .return_ 1 && decide (rt = none)
def jm_ok (m pc : Nat) (i : jm_I) : Bool :=
  if i.1 ≤ 12 then jm_ok1 (g_lnk m pc) (g_m m).1 (g_m m).2.1 (g_m m).2.2.1 pc i
  else if i.1 ≤ 26 then jm_ok2 (g_lnk m pc) (g_m m).1 (g_m m).2.1 pc i
  else if i.1 = 30 ∨ i.1 = 31 ∨ i.1 = 32 then jm_ok3 (g_lnk m pc) (g_m m).1 (g_m m).2.1 pc i
  else if i.1 = 40 then jm_ok4 (g_m m).2.1 (g_m m).2.2.2 pc i
  else true
def jm_rows (m : Nat) : List (List (Option jm_I)) := (g_codes.getD (m / 16) []).getD (m % 16) []
def jm_chk (m : Nat) : Bool := (List.range (16 * (jm_rows m).length)).all (fun pc => match g_code m pc with | some i => jm_ok m pc i | none => true)
def jm_chkr (a n : Nat) : Bool := (List.range n).all (fun k => jm_chk (a + k))
def jm_chks (m a n : Nat) : Bool := (List.range n).all (fun k => match g_code m (a + k) with | some i => jm_ok m (a + k) i | none => true)
theorem jm_chks_at {m a n pc : Nat} (h : jm_chks m a n = true) (h1 : a ≤ pc) (h2 : pc < a + n) : (match g_code m pc with | some i => jm_ok m pc i | none => true) = true := by
  have := List.all_eq_true.mp h (pc - a) (List.mem_range.mpr (by omega))
  rwa [show a + (pc - a) = pc by omega] at this
end
section
theorem jm_chk_0 : jm_chkr 0 11 = true := by decide +kernel
theorem jm_chk_11 : jm_chkr 11 10 = true := by decide +kernel
theorem jm_chk_21 : jm_chkr 21 8 = true := by decide +kernel
theorem jm_chk_29 : jm_chkr 29 7 = true := by decide +kernel
theorem jm_chk_36 : jm_chkr 36 10 = true := by decide +kernel
theorem jm_chk_46 : jm_chkr 46 7 = true := by decide +kernel
theorem jm_chk_53 : jm_chkr 53 11 = true := by decide +kernel
end
section
theorem jm_chk_64 : jm_chkr 64 6 = true := by decide +kernel
theorem jm_chk_70 : jm_chkr 70 8 = true := by decide +kernel
theorem jm_chk_78 : jm_chkr 78 11 = true := by decide +kernel
theorem jm_chk_89 : jm_chkr 89 9 = true := by decide +kernel
theorem jm_chk_98 : jm_chkr 98 11 = true := by decide +kernel
theorem jm_chk_109 : jm_chkr 109 10 = true := by decide +kernel
theorem jm_chk_119 : jm_chkr 119 8 = true := by decide +kernel
end
section
theorem jm_chk_127 : jm_chkr 127 5 = true := by decide +kernel
theorem jm_chk_132 : jm_chkr 132 6 = true := by decide +kernel
theorem jm_chk_138 : jm_chkr 138 7 = true := by decide +kernel
theorem jm_chk_145 : jm_chkr 145 5 = true := by decide +kernel
theorem jm_chk_150 : jm_chkr 150 4 = true := by decide +kernel
theorem jm_chk_154 : jm_chkr 154 6 = true := by decide +kernel
theorem jm_chk_160 : jm_chkr 160 9 = true := by decide +kernel
theorem jm_chk_169 : jm_chkr 169 4 = true := by decide +kernel
end
section
theorem jm_chk_173 : jm_chkr 173 3 = true := by decide +kernel
theorem jm_chk_176 : jm_chkr 176 4 = true := by decide +kernel
theorem jm_chk_180 : jm_chkr 180 9 = true := by decide +kernel
theorem jm_chk_189 : jm_chkr 189 6 = true := by decide +kernel
theorem jm_chk_195 : jm_chkr 195 7 = true := by decide +kernel
theorem jm_chk_202 : jm_chkr 202 10 = true := by decide +kernel
theorem jm_chk_212 : jm_chkr 212 8 = true := by decide +kernel
end
section
theorem jm_chk_220 : jm_chkr 220 8 = true := by decide +kernel
theorem jm_chk_228 : jm_chkr 228 7 = true := by decide +kernel
theorem jm_chk_235 : jm_chkr 235 7 = true := by decide +kernel
theorem jm_chk_242 : jm_chkr 242 7 = true := by decide +kernel
theorem jm_chk_249 : jm_chkr 249 8 = true := by decide +kernel
theorem jm_chk_257 : jm_chkr 257 3 = true := by decide +kernel
theorem jm_chk_260 : jm_chkr 260 1 = true := by decide +kernel
theorem jm_chk_261 : jm_chkr 261 3 = true := by decide +kernel
end
section
theorem jm_chk_264 : jm_chkr 264 4 = true := by decide +kernel
theorem jm_chk_268 : jm_chkr 268 2 = true := by decide +kernel
theorem jm_chk_270 : jm_chkr 270 3 = true := by decide +kernel
theorem jm_chk_273 : jm_chkr 273 4 = true := by decide +kernel
theorem jm_chs_277_0 : jm_chks 277 0 96 = true := by decide +kernel
theorem jm_chs_277_96 : jm_chks 277 96 96 = true := by decide +kernel
theorem jm_chs_277_192 : jm_chks 277 192 96 = true := by decide +kernel
theorem jm_chs_277_288 : jm_chks 277 288 96 = true := by decide +kernel
theorem jm_chs_277_384 : jm_chks 277 384 96 = true := by decide +kernel
theorem jm_chs_277_480 : jm_chks 277 480 96 = true := by decide +kernel
theorem jm_chs_277_576 : jm_chks 277 576 96 = true := by decide +kernel
theorem jm_chs_277_672 : jm_chks 277 672 96 = true := by decide +kernel
theorem jm_chs_277_768 : jm_chks 277 768 96 = true := by decide +kernel
theorem jm_chs_277_864 : jm_chks 277 864 96 = true := by decide +kernel
theorem jm_chs_277_960 : jm_chks 277 960 96 = true := by decide +kernel
theorem jm_chs_277_1056 : jm_chks 277 1056 96 = true := by decide +kernel
theorem jm_chs_277_1152 : jm_chks 277 1152 96 = true := by decide +kernel
theorem jm_chs_277_1248 : jm_chks 277 1248 96 = true := by decide +kernel
theorem jm_chs_277_1344 : jm_chks 277 1344 96 = true := by decide +kernel
theorem jm_chk_277 : jm_chkr 277 1 = true := by
  unfold jm_chkr jm_chk
  simp only [List.all_eq_true, List.mem_range]
  intro k hk pc hpc
  have hk : k = 0 := by omega
  subst hk
  have hpc : pc < 1360 := hpc
  by_cases h_0 : pc < 96
  · exact jm_chks_at jm_chs_277_0 (by omega) (by omega)
  by_cases h_96 : pc < 192
  · exact jm_chks_at jm_chs_277_96 (by omega) (by omega)
  by_cases h_192 : pc < 288
  · exact jm_chks_at jm_chs_277_192 (by omega) (by omega)
  by_cases h_288 : pc < 384
  · exact jm_chks_at jm_chs_277_288 (by omega) (by omega)
  by_cases h_384 : pc < 480
  · exact jm_chks_at jm_chs_277_384 (by omega) (by omega)
  by_cases h_480 : pc < 576
  · exact jm_chks_at jm_chs_277_480 (by omega) (by omega)
  by_cases h_576 : pc < 672
  · exact jm_chks_at jm_chs_277_576 (by omega) (by omega)
  by_cases h_672 : pc < 768
  · exact jm_chks_at jm_chs_277_672 (by omega) (by omega)
  by_cases h_768 : pc < 864
  · exact jm_chks_at jm_chs_277_768 (by omega) (by omega)
  by_cases h_864 : pc < 960
  · exact jm_chks_at jm_chs_277_864 (by omega) (by omega)
  by_cases h_960 : pc < 1056
  · exact jm_chks_at jm_chs_277_960 (by omega) (by omega)
  by_cases h_1056 : pc < 1152
  · exact jm_chks_at jm_chs_277_1056 (by omega) (by omega)
  by_cases h_1152 : pc < 1248
  · exact jm_chks_at jm_chs_277_1152 (by omega) (by omega)
  by_cases h_1248 : pc < 1344
  · exact jm_chks_at jm_chs_277_1248 (by omega) (by omega)
  exact jm_chks_at jm_chs_277_1344 (by omega) (by omega)
end
section
theorem jm_chkr_at {a n m : Nat} (h : jm_chkr a n = true) (h1 : a ≤ m) (h2 : m < a + n) : jm_chk m = true := by
  have := List.all_eq_true.mp h (m - a) (List.mem_range.mpr (by omega))
  rwa [show a + (m - a) = m by omega] at this
theorem jm_chk_of {m : Nat} (h : m < 278) : jm_chk m = true := by
  by_cases h_0 : m < 11
  · exact jm_chkr_at jm_chk_0 (by omega) (by omega)
  by_cases h_11 : m < 21
  · exact jm_chkr_at jm_chk_11 (by omega) (by omega)
  by_cases h_21 : m < 29
  · exact jm_chkr_at jm_chk_21 (by omega) (by omega)
  by_cases h_29 : m < 36
  · exact jm_chkr_at jm_chk_29 (by omega) (by omega)
  by_cases h_36 : m < 46
  · exact jm_chkr_at jm_chk_36 (by omega) (by omega)
  by_cases h_46 : m < 53
  · exact jm_chkr_at jm_chk_46 (by omega) (by omega)
  by_cases h_53 : m < 64
  · exact jm_chkr_at jm_chk_53 (by omega) (by omega)
  by_cases h_64 : m < 70
  · exact jm_chkr_at jm_chk_64 (by omega) (by omega)
  by_cases h_70 : m < 78
  · exact jm_chkr_at jm_chk_70 (by omega) (by omega)
  by_cases h_78 : m < 89
  · exact jm_chkr_at jm_chk_78 (by omega) (by omega)
  by_cases h_89 : m < 98
  · exact jm_chkr_at jm_chk_89 (by omega) (by omega)
  by_cases h_98 : m < 109
  · exact jm_chkr_at jm_chk_98 (by omega) (by omega)
  by_cases h_109 : m < 119
  · exact jm_chkr_at jm_chk_109 (by omega) (by omega)
  by_cases h_119 : m < 127
  · exact jm_chkr_at jm_chk_119 (by omega) (by omega)
  by_cases h_127 : m < 132
  · exact jm_chkr_at jm_chk_127 (by omega) (by omega)
  by_cases h_132 : m < 138
  · exact jm_chkr_at jm_chk_132 (by omega) (by omega)
  by_cases h_138 : m < 145
  · exact jm_chkr_at jm_chk_138 (by omega) (by omega)
  by_cases h_145 : m < 150
  · exact jm_chkr_at jm_chk_145 (by omega) (by omega)
  by_cases h_150 : m < 154
  · exact jm_chkr_at jm_chk_150 (by omega) (by omega)
  by_cases h_154 : m < 160
  · exact jm_chkr_at jm_chk_154 (by omega) (by omega)
  by_cases h_160 : m < 169
  · exact jm_chkr_at jm_chk_160 (by omega) (by omega)
  by_cases h_169 : m < 173
  · exact jm_chkr_at jm_chk_169 (by omega) (by omega)
  by_cases h_173 : m < 176
  · exact jm_chkr_at jm_chk_173 (by omega) (by omega)
  by_cases h_176 : m < 180
  · exact jm_chkr_at jm_chk_176 (by omega) (by omega)
  by_cases h_180 : m < 189
  · exact jm_chkr_at jm_chk_180 (by omega) (by omega)
  by_cases h_189 : m < 195
  · exact jm_chkr_at jm_chk_189 (by omega) (by omega)
  by_cases h_195 : m < 202
  · exact jm_chkr_at jm_chk_195 (by omega) (by omega)
  by_cases h_202 : m < 212
  · exact jm_chkr_at jm_chk_202 (by omega) (by omega)
  by_cases h_212 : m < 220
  · exact jm_chkr_at jm_chk_212 (by omega) (by omega)
  by_cases h_220 : m < 228
  · exact jm_chkr_at jm_chk_220 (by omega) (by omega)
  by_cases h_228 : m < 235
  · exact jm_chkr_at jm_chk_228 (by omega) (by omega)
  by_cases h_235 : m < 242
  · exact jm_chkr_at jm_chk_235 (by omega) (by omega)
  by_cases h_242 : m < 249
  · exact jm_chkr_at jm_chk_242 (by omega) (by omega)
  by_cases h_249 : m < 257
  · exact jm_chkr_at jm_chk_249 (by omega) (by omega)
  by_cases h_257 : m < 260
  · exact jm_chkr_at jm_chk_257 (by omega) (by omega)
  by_cases h_260 : m < 261
  · exact jm_chkr_at jm_chk_260 (by omega) (by omega)
  by_cases h_261 : m < 264
  · exact jm_chkr_at jm_chk_261 (by omega) (by omega)
  by_cases h_264 : m < 268
  · exact jm_chkr_at jm_chk_264 (by omega) (by omega)
  by_cases h_268 : m < 270
  · exact jm_chkr_at jm_chk_268 (by omega) (by omega)
  by_cases h_270 : m < 273
  · exact jm_chkr_at jm_chk_270 (by omega) (by omega)
  by_cases h_273 : m < 277
  · exact jm_chkr_at jm_chk_273 (by omega) (by omega)
  exact jm_chkr_at jm_chk_277 (by omega) (by omega)
theorem jm_gd {α : Type} {l : List α} {n : Nat} {d : α} (h : l.length ≤ n) : l.getD n d = d := by
  rw [List.getD_eq_getElem?_getD, List.getElem?_eq_none h]; rfl
theorem jm_code_lt {m pc : Nat} {i : jm_I} (h : g_code m pc = some i) : m < 278 ∧ pc < 16 * (jm_rows m).length := by
  have hpc : pc / 16 < (jm_rows m).length := by
    apply Nat.not_le.mp
    intro hle
    unfold g_code at h
    rw [show (g_codes.getD (m / 16) []).getD (m % 16) [] = jm_rows m from rfl, jm_gd hle] at h
    simp at h
  refine ⟨?_, by omega⟩
  apply Nat.not_le.mp
  intro hle
  have h1 : jm_rows m = [] := by
    unfold jm_rows
    by_cases h2 : m < 288
    · have h3 : m / 16 = 17 := by omega
      have h4 : 6 ≤ m % 16 := by omega
      rw [h3]
      exact jm_gd h4
    · rw [jm_gd (n := m / 16) (l := g_codes) (show g_codes.length ≤ m / 16 from by show 18 ≤ m / 16; omega)]
      rfl
  rw [h1] at hpc
  simp at hpc
theorem jm_ok_of {m pc : Nat} {i : jm_I} (h : g_code m pc = some i) : jm_ok m pc i = true := by
  obtain ⟨h1, h2⟩ := jm_code_lt h
  have h3 := List.all_eq_true.mp (jm_chk_of h1) pc (List.mem_range.mpr h2)
  rw [h] at h3
  exact h3
end
section
def g_hh : List (Nat × List (Nat × Nat × Nat × Nat)) := [(159, [(0, 10, 13, 13)]), (161, [(0, 12, 15, 13)]), (166, [(0, 10, 13, 13)])]
def g_wr : List Nat := [159, 161, 166, 277]
def jm_mok (m : Nat) : Bool := plainName (g_m m).1.cls && decide ((g_m m).1.cls ≠ "java/lang/invoke/MethodHandle" ∧ (g_m m).1.cls ≠ "java/lang/invoke/VarHandle") && decide ((g_m m).2.2.1 ≤ 30)
theorem jm_mok_all : (List.range 278).all jm_mok = true := by decide +kernel
def jm_cwP (m : Nat) : Prop := Cond.code (g_m m).1 (g_m m).2.1 (g_m m).2.2.1 (g_m m).2.2.2 ∈ jm_W
set_option maxRecDepth 100000 in
theorem jm_cwm_0 : jm_cwP 0 := List.mem_filter.mpr ⟨List.mem_of_getElem? (i := 131) rfl, rfl⟩
set_option maxRecDepth 100000 in
theorem jm_cwm_1 : jm_cwP 1 := List.mem_filter.mpr ⟨List.mem_of_getElem? (i := 139) rfl, rfl⟩
set_option maxRecDepth 100000 in
theorem jm_cwm_2 : jm_cwP 2 := List.mem_filter.mpr ⟨List.mem_of_getElem? (i := 145) rfl, rfl⟩
set_option maxRecDepth 100000 in
theorem jm_cwm_3 : jm_cwP 3 := List.mem_filter.mpr ⟨List.mem_of_getElem? (i := 149) rfl, rfl⟩
set_option maxRecDepth 100000 in
theorem jm_cwm_4 : jm_cwP 4 := List.mem_filter.mpr ⟨List.mem_of_getElem? (i := 155) rfl, rfl⟩
set_option maxRecDepth 100000 in
theorem jm_cwm_5 : jm_cwP 5 := List.mem_filter.mpr ⟨List.mem_of_getElem? (i := 159) rfl, rfl⟩
set_option maxRecDepth 100000 in
theorem jm_cwm_6 : jm_cwP 6 := List.mem_filter.mpr ⟨List.mem_of_getElem? (i := 162) rfl, rfl⟩
set_option maxRecDepth 100000 in
theorem jm_cwm_7 : jm_cwP 7 := List.mem_filter.mpr ⟨List.mem_of_getElem? (i := 165) rfl, rfl⟩
set_option maxRecDepth 100000 in
theorem jm_cwm_8 : jm_cwP 8 := List.mem_filter.mpr ⟨List.mem_of_getElem? (i := 170) rfl, rfl⟩
set_option maxRecDepth 100000 in
theorem jm_cwm_9 : jm_cwP 9 := List.mem_filter.mpr ⟨List.mem_of_getElem? (i := 192) rfl, rfl⟩
set_option maxRecDepth 100000 in
theorem jm_cwm_10 : jm_cwP 10 := List.mem_filter.mpr ⟨List.mem_of_getElem? (i := 243) rfl, rfl⟩
set_option maxRecDepth 100000 in
theorem jm_cwm_11 : jm_cwP 11 := List.mem_filter.mpr ⟨List.mem_of_getElem? (i := 249) rfl, rfl⟩
set_option maxRecDepth 100000 in
theorem jm_cwm_12 : jm_cwP 12 := List.mem_filter.mpr ⟨List.mem_of_getElem? (i := 253) rfl, rfl⟩
set_option maxRecDepth 100000 in
theorem jm_cwm_13 : jm_cwP 13 := List.mem_filter.mpr ⟨List.mem_of_getElem? (i := 311) rfl, rfl⟩
set_option maxRecDepth 100000 in
theorem jm_cwm_14 : jm_cwP 14 := List.mem_filter.mpr ⟨List.mem_of_getElem? (i := 383) rfl, rfl⟩
set_option maxRecDepth 100000 in
theorem jm_cwm_15 : jm_cwP 15 := List.mem_filter.mpr ⟨List.mem_of_getElem? (i := 429) rfl, rfl⟩
set_option maxRecDepth 100000 in
theorem jm_cwm_16 : jm_cwP 16 := List.mem_filter.mpr ⟨List.mem_of_getElem? (i := 446) rfl, rfl⟩
set_option maxRecDepth 100000 in
theorem jm_cwm_17 : jm_cwP 17 := List.mem_filter.mpr ⟨List.mem_of_getElem? (i := 462) rfl, rfl⟩
set_option maxRecDepth 100000 in
theorem jm_cwm_18 : jm_cwP 18 := List.mem_filter.mpr ⟨List.mem_of_getElem? (i := 491) rfl, rfl⟩
set_option maxRecDepth 100000 in
theorem jm_cwm_19 : jm_cwP 19 := List.mem_filter.mpr ⟨List.mem_of_getElem? (i := 507) rfl, rfl⟩
set_option maxRecDepth 100000 in
theorem jm_cwm_20 : jm_cwP 20 := List.mem_filter.mpr ⟨List.mem_of_getElem? (i := 518) rfl, rfl⟩
set_option maxRecDepth 100000 in
theorem jm_cwm_21 : jm_cwP 21 := List.mem_filter.mpr ⟨List.mem_of_getElem? (i := 579) rfl, rfl⟩
set_option maxRecDepth 100000 in
theorem jm_cwm_22 : jm_cwP 22 := List.mem_filter.mpr ⟨List.mem_of_getElem? (i := 583) rfl, rfl⟩
set_option maxRecDepth 100000 in
theorem jm_cwm_23 : jm_cwP 23 := List.mem_filter.mpr ⟨List.mem_of_getElem? (i := 587) rfl, rfl⟩
set_option maxRecDepth 100000 in
theorem jm_cwm_24 : jm_cwP 24 := List.mem_filter.mpr ⟨List.mem_of_getElem? (i := 591) rfl, rfl⟩
set_option maxRecDepth 100000 in
theorem jm_cwm_25 : jm_cwP 25 := List.mem_filter.mpr ⟨List.mem_of_getElem? (i := 595) rfl, rfl⟩
set_option maxRecDepth 100000 in
theorem jm_cwm_26 : jm_cwP 26 := List.mem_filter.mpr ⟨List.mem_of_getElem? (i := 599) rfl, rfl⟩
set_option maxRecDepth 100000 in
theorem jm_cwm_27 : jm_cwP 27 := List.mem_filter.mpr ⟨List.mem_of_getElem? (i := 603) rfl, rfl⟩
set_option maxRecDepth 100000 in
theorem jm_cwm_28 : jm_cwP 28 := List.mem_filter.mpr ⟨List.mem_of_getElem? (i := 607) rfl, rfl⟩
set_option maxRecDepth 100000 in
theorem jm_cwm_29 : jm_cwP 29 := List.mem_filter.mpr ⟨List.mem_of_getElem? (i := 611) rfl, rfl⟩
set_option maxRecDepth 100000 in
theorem jm_cwm_30 : jm_cwP 30 := List.mem_filter.mpr ⟨List.mem_of_getElem? (i := 614) rfl, rfl⟩
set_option maxRecDepth 100000 in
theorem jm_cwm_31 : jm_cwP 31 := List.mem_filter.mpr ⟨List.mem_of_getElem? (i := 617) rfl, rfl⟩
set_option maxRecDepth 100000 in
theorem jm_cwm_32 : jm_cwP 32 := List.mem_filter.mpr ⟨List.mem_of_getElem? (i := 620) rfl, rfl⟩
set_option maxRecDepth 100000 in
theorem jm_cwm_33 : jm_cwP 33 := List.mem_filter.mpr ⟨List.mem_of_getElem? (i := 624) rfl, rfl⟩
set_option maxRecDepth 100000 in
theorem jm_cwm_34 : jm_cwP 34 := List.mem_filter.mpr ⟨List.mem_of_getElem? (i := 628) rfl, rfl⟩
set_option maxRecDepth 100000 in
theorem jm_cwm_35 : jm_cwP 35 := List.mem_filter.mpr ⟨List.mem_of_getElem? (i := 631) rfl, rfl⟩
set_option maxRecDepth 100000 in
theorem jm_cwm_36 : jm_cwP 36 := List.mem_filter.mpr ⟨List.mem_of_getElem? (i := 635) rfl, rfl⟩
set_option maxRecDepth 100000 in
theorem jm_cwm_37 : jm_cwP 37 := List.mem_filter.mpr ⟨List.mem_of_getElem? (i := 639) rfl, rfl⟩
set_option maxRecDepth 100000 in
theorem jm_cwm_38 : jm_cwP 38 := List.mem_filter.mpr ⟨List.mem_of_getElem? (i := 643) rfl, rfl⟩
set_option maxRecDepth 100000 in
theorem jm_cwm_39 : jm_cwP 39 := List.mem_filter.mpr ⟨List.mem_of_getElem? (i := 647) rfl, rfl⟩
set_option maxRecDepth 100000 in
theorem jm_cwm_40 : jm_cwP 40 := List.mem_filter.mpr ⟨List.mem_of_getElem? (i := 651) rfl, rfl⟩
set_option maxRecDepth 100000 in
theorem jm_cwm_41 : jm_cwP 41 := List.mem_filter.mpr ⟨List.mem_of_getElem? (i := 658) rfl, rfl⟩
set_option maxRecDepth 100000 in
theorem jm_cwm_42 : jm_cwP 42 := List.mem_filter.mpr ⟨List.mem_of_getElem? (i := 662) rfl, rfl⟩
set_option maxRecDepth 100000 in
theorem jm_cwm_43 : jm_cwP 43 := List.mem_filter.mpr ⟨List.mem_of_getElem? (i := 666) rfl, rfl⟩
set_option maxRecDepth 100000 in
theorem jm_cwm_44 : jm_cwP 44 := List.mem_filter.mpr ⟨List.mem_of_getElem? (i := 671) rfl, rfl⟩
set_option maxRecDepth 100000 in
theorem jm_cwm_45 : jm_cwP 45 := List.mem_filter.mpr ⟨List.mem_of_getElem? (i := 675) rfl, rfl⟩
set_option maxRecDepth 100000 in
theorem jm_cwm_46 : jm_cwP 46 := List.mem_filter.mpr ⟨List.mem_of_getElem? (i := 679) rfl, rfl⟩
set_option maxRecDepth 100000 in
theorem jm_cwm_47 : jm_cwP 47 := List.mem_filter.mpr ⟨List.mem_of_getElem? (i := 683) rfl, rfl⟩
set_option maxRecDepth 100000 in
theorem jm_cwm_48 : jm_cwP 48 := List.mem_filter.mpr ⟨List.mem_of_getElem? (i := 688) rfl, rfl⟩
set_option maxRecDepth 100000 in
theorem jm_cwm_49 : jm_cwP 49 := List.mem_filter.mpr ⟨List.mem_of_getElem? (i := 692) rfl, rfl⟩
set_option maxRecDepth 100000 in
theorem jm_cwm_50 : jm_cwP 50 := List.mem_filter.mpr ⟨List.mem_of_getElem? (i := 696) rfl, rfl⟩
set_option maxRecDepth 100000 in
theorem jm_cwm_51 : jm_cwP 51 := List.mem_filter.mpr ⟨List.mem_of_getElem? (i := 701) rfl, rfl⟩
set_option maxRecDepth 100000 in
theorem jm_cwm_52 : jm_cwP 52 := List.mem_filter.mpr ⟨List.mem_of_getElem? (i := 705) rfl, rfl⟩
set_option maxRecDepth 100000 in
theorem jm_cwm_53 : jm_cwP 53 := List.mem_filter.mpr ⟨List.mem_of_getElem? (i := 709) rfl, rfl⟩
set_option maxRecDepth 100000 in
theorem jm_cwm_54 : jm_cwP 54 := List.mem_filter.mpr ⟨List.mem_of_getElem? (i := 713) rfl, rfl⟩
set_option maxRecDepth 100000 in
theorem jm_cwm_55 : jm_cwP 55 := List.mem_filter.mpr ⟨List.mem_of_getElem? (i := 717) rfl, rfl⟩
set_option maxRecDepth 100000 in
theorem jm_cwm_56 : jm_cwP 56 := List.mem_filter.mpr ⟨List.mem_of_getElem? (i := 721) rfl, rfl⟩
set_option maxRecDepth 100000 in
theorem jm_cwm_57 : jm_cwP 57 := List.mem_filter.mpr ⟨List.mem_of_getElem? (i := 725) rfl, rfl⟩
set_option maxRecDepth 100000 in
theorem jm_cwm_58 : jm_cwP 58 := List.mem_filter.mpr ⟨List.mem_of_getElem? (i := 729) rfl, rfl⟩
set_option maxRecDepth 100000 in
theorem jm_cwm_59 : jm_cwP 59 := List.mem_filter.mpr ⟨List.mem_of_getElem? (i := 733) rfl, rfl⟩
set_option maxRecDepth 100000 in
theorem jm_cwm_60 : jm_cwP 60 := List.mem_filter.mpr ⟨List.mem_of_getElem? (i := 737) rfl, rfl⟩
set_option maxRecDepth 100000 in
theorem jm_cwm_61 : jm_cwP 61 := List.mem_filter.mpr ⟨List.mem_of_getElem? (i := 741) rfl, rfl⟩
set_option maxRecDepth 100000 in
theorem jm_cwm_62 : jm_cwP 62 := List.mem_filter.mpr ⟨List.mem_of_getElem? (i := 745) rfl, rfl⟩
set_option maxRecDepth 100000 in
theorem jm_cwm_63 : jm_cwP 63 := List.mem_filter.mpr ⟨List.mem_of_getElem? (i := 749) rfl, rfl⟩
set_option maxRecDepth 100000 in
theorem jm_cwm_64 : jm_cwP 64 := List.mem_filter.mpr ⟨List.mem_of_getElem? (i := 753) rfl, rfl⟩
set_option maxRecDepth 100000 in
theorem jm_cwm_65 : jm_cwP 65 := List.mem_filter.mpr ⟨List.mem_of_getElem? (i := 757) rfl, rfl⟩
set_option maxRecDepth 100000 in
theorem jm_cwm_66 : jm_cwP 66 := List.mem_filter.mpr ⟨List.mem_of_getElem? (i := 764) rfl, rfl⟩
set_option maxRecDepth 100000 in
theorem jm_cwm_67 : jm_cwP 67 := List.mem_filter.mpr ⟨List.mem_of_getElem? (i := 769) rfl, rfl⟩
set_option maxRecDepth 100000 in
theorem jm_cwm_68 : jm_cwP 68 := List.mem_filter.mpr ⟨List.mem_of_getElem? (i := 774) rfl, rfl⟩
set_option maxRecDepth 100000 in
theorem jm_cwm_69 : jm_cwP 69 := List.mem_filter.mpr ⟨List.mem_of_getElem? (i := 778) rfl, rfl⟩
set_option maxRecDepth 100000 in
theorem jm_cwm_70 : jm_cwP 70 := List.mem_filter.mpr ⟨List.mem_of_getElem? (i := 782) rfl, rfl⟩
set_option maxRecDepth 100000 in
theorem jm_cwm_71 : jm_cwP 71 := List.mem_filter.mpr ⟨List.mem_of_getElem? (i := 786) rfl, rfl⟩
set_option maxRecDepth 100000 in
theorem jm_cwm_72 : jm_cwP 72 := List.mem_filter.mpr ⟨List.mem_of_getElem? (i := 790) rfl, rfl⟩
set_option maxRecDepth 100000 in
theorem jm_cwm_73 : jm_cwP 73 := List.mem_filter.mpr ⟨List.mem_of_getElem? (i := 794) rfl, rfl⟩
set_option maxRecDepth 100000 in
theorem jm_cwm_74 : jm_cwP 74 := List.mem_filter.mpr ⟨List.mem_of_getElem? (i := 798) rfl, rfl⟩
set_option maxRecDepth 100000 in
theorem jm_cwm_75 : jm_cwP 75 := List.mem_filter.mpr ⟨List.mem_of_getElem? (i := 802) rfl, rfl⟩
set_option maxRecDepth 100000 in
theorem jm_cwm_76 : jm_cwP 76 := List.mem_filter.mpr ⟨List.mem_of_getElem? (i := 806) rfl, rfl⟩
set_option maxRecDepth 100000 in
theorem jm_cwm_77 : jm_cwP 77 := List.mem_filter.mpr ⟨List.mem_of_getElem? (i := 810) rfl, rfl⟩
set_option maxRecDepth 100000 in
theorem jm_cwm_78 : jm_cwP 78 := List.mem_filter.mpr ⟨List.mem_of_getElem? (i := 814) rfl, rfl⟩
set_option maxRecDepth 100000 in
theorem jm_cwm_79 : jm_cwP 79 := List.mem_filter.mpr ⟨List.mem_of_getElem? (i := 818) rfl, rfl⟩
set_option maxRecDepth 100000 in
theorem jm_cwm_80 : jm_cwP 80 := List.mem_filter.mpr ⟨List.mem_of_getElem? (i := 822) rfl, rfl⟩
set_option maxRecDepth 100000 in
theorem jm_cwm_81 : jm_cwP 81 := List.mem_filter.mpr ⟨List.mem_of_getElem? (i := 826) rfl, rfl⟩
set_option maxRecDepth 100000 in
theorem jm_cwm_82 : jm_cwP 82 := List.mem_filter.mpr ⟨List.mem_of_getElem? (i := 832) rfl, rfl⟩
set_option maxRecDepth 100000 in
theorem jm_cwm_83 : jm_cwP 83 := List.mem_filter.mpr ⟨List.mem_of_getElem? (i := 836) rfl, rfl⟩
set_option maxRecDepth 100000 in
theorem jm_cwm_84 : jm_cwP 84 := List.mem_filter.mpr ⟨List.mem_of_getElem? (i := 840) rfl, rfl⟩
set_option maxRecDepth 100000 in
theorem jm_cwm_85 : jm_cwP 85 := List.mem_filter.mpr ⟨List.mem_of_getElem? (i := 844) rfl, rfl⟩
set_option maxRecDepth 100000 in
theorem jm_cwm_86 : jm_cwP 86 := List.mem_filter.mpr ⟨List.mem_of_getElem? (i := 850) rfl, rfl⟩
set_option maxRecDepth 100000 in
theorem jm_cwm_87 : jm_cwP 87 := List.mem_filter.mpr ⟨List.mem_of_getElem? (i := 854) rfl, rfl⟩
set_option maxRecDepth 100000 in
theorem jm_cwm_88 : jm_cwP 88 := List.mem_filter.mpr ⟨List.mem_of_getElem? (i := 858) rfl, rfl⟩
set_option maxRecDepth 100000 in
theorem jm_cwm_89 : jm_cwP 89 := List.mem_filter.mpr ⟨List.mem_of_getElem? (i := 862) rfl, rfl⟩
set_option maxRecDepth 100000 in
theorem jm_cwm_90 : jm_cwP 90 := List.mem_filter.mpr ⟨List.mem_of_getElem? (i := 866) rfl, rfl⟩
set_option maxRecDepth 100000 in
theorem jm_cwm_91 : jm_cwP 91 := List.mem_filter.mpr ⟨List.mem_of_getElem? (i := 876) rfl, rfl⟩
set_option maxRecDepth 100000 in
theorem jm_cwm_92 : jm_cwP 92 := List.mem_filter.mpr ⟨List.mem_of_getElem? (i := 880) rfl, rfl⟩
set_option maxRecDepth 100000 in
theorem jm_cwm_93 : jm_cwP 93 := List.mem_filter.mpr ⟨List.mem_of_getElem? (i := 884) rfl, rfl⟩
set_option maxRecDepth 100000 in
theorem jm_cwm_94 : jm_cwP 94 := List.mem_filter.mpr ⟨List.mem_of_getElem? (i := 889) rfl, rfl⟩
set_option maxRecDepth 100000 in
theorem jm_cwm_95 : jm_cwP 95 := List.mem_filter.mpr ⟨List.mem_of_getElem? (i := 893) rfl, rfl⟩
set_option maxRecDepth 100000 in
theorem jm_cwm_96 : jm_cwP 96 := List.mem_filter.mpr ⟨List.mem_of_getElem? (i := 897) rfl, rfl⟩
set_option maxRecDepth 100000 in
theorem jm_cwm_97 : jm_cwP 97 := List.mem_filter.mpr ⟨List.mem_of_getElem? (i := 901) rfl, rfl⟩
set_option maxRecDepth 100000 in
theorem jm_cwm_98 : jm_cwP 98 := List.mem_filter.mpr ⟨List.mem_of_getElem? (i := 906) rfl, rfl⟩
set_option maxRecDepth 100000 in
theorem jm_cwm_99 : jm_cwP 99 := List.mem_filter.mpr ⟨List.mem_of_getElem? (i := 910) rfl, rfl⟩
set_option maxRecDepth 100000 in
theorem jm_cwm_100 : jm_cwP 100 := List.mem_filter.mpr ⟨List.mem_of_getElem? (i := 914) rfl, rfl⟩
set_option maxRecDepth 100000 in
theorem jm_cwm_101 : jm_cwP 101 := List.mem_filter.mpr ⟨List.mem_of_getElem? (i := 918) rfl, rfl⟩
set_option maxRecDepth 100000 in
theorem jm_cwm_102 : jm_cwP 102 := List.mem_filter.mpr ⟨List.mem_of_getElem? (i := 924) rfl, rfl⟩
set_option maxRecDepth 100000 in
theorem jm_cwm_103 : jm_cwP 103 := List.mem_filter.mpr ⟨List.mem_of_getElem? (i := 929) rfl, rfl⟩
set_option maxRecDepth 100000 in
theorem jm_cwm_104 : jm_cwP 104 := List.mem_filter.mpr ⟨List.mem_of_getElem? (i := 933) rfl, rfl⟩
set_option maxRecDepth 100000 in
theorem jm_cwm_105 : jm_cwP 105 := List.mem_filter.mpr ⟨List.mem_of_getElem? (i := 939) rfl, rfl⟩
set_option maxRecDepth 100000 in
theorem jm_cwm_106 : jm_cwP 106 := List.mem_filter.mpr ⟨List.mem_of_getElem? (i := 943) rfl, rfl⟩
set_option maxRecDepth 100000 in
theorem jm_cwm_107 : jm_cwP 107 := List.mem_filter.mpr ⟨List.mem_of_getElem? (i := 947) rfl, rfl⟩
set_option maxRecDepth 100000 in
theorem jm_cwm_108 : jm_cwP 108 := List.mem_filter.mpr ⟨List.mem_of_getElem? (i := 951) rfl, rfl⟩
set_option maxRecDepth 100000 in
theorem jm_cwm_109 : jm_cwP 109 := List.mem_filter.mpr ⟨List.mem_of_getElem? (i := 955) rfl, rfl⟩
set_option maxRecDepth 100000 in
theorem jm_cwm_110 : jm_cwP 110 := List.mem_filter.mpr ⟨List.mem_of_getElem? (i := 959) rfl, rfl⟩
set_option maxRecDepth 100000 in
theorem jm_cwm_111 : jm_cwP 111 := List.mem_filter.mpr ⟨List.mem_of_getElem? (i := 963) rfl, rfl⟩
set_option maxRecDepth 100000 in
theorem jm_cwm_112 : jm_cwP 112 := List.mem_filter.mpr ⟨List.mem_of_getElem? (i := 966) rfl, rfl⟩
set_option maxRecDepth 100000 in
theorem jm_cwm_113 : jm_cwP 113 := List.mem_filter.mpr ⟨List.mem_of_getElem? (i := 973) rfl, rfl⟩
set_option maxRecDepth 100000 in
theorem jm_cwm_114 : jm_cwP 114 := List.mem_filter.mpr ⟨List.mem_of_getElem? (i := 978) rfl, rfl⟩
set_option maxRecDepth 100000 in
theorem jm_cwm_115 : jm_cwP 115 := List.mem_filter.mpr ⟨List.mem_of_getElem? (i := 982) rfl, rfl⟩
set_option maxRecDepth 100000 in
theorem jm_cwm_116 : jm_cwP 116 := List.mem_filter.mpr ⟨List.mem_of_getElem? (i := 986) rfl, rfl⟩
set_option maxRecDepth 100000 in
theorem jm_cwm_117 : jm_cwP 117 := List.mem_filter.mpr ⟨List.mem_of_getElem? (i := 990) rfl, rfl⟩
set_option maxRecDepth 100000 in
theorem jm_cwm_118 : jm_cwP 118 := List.mem_filter.mpr ⟨List.mem_of_getElem? (i := 994) rfl, rfl⟩
set_option maxRecDepth 100000 in
theorem jm_cwm_119 : jm_cwP 119 := List.mem_filter.mpr ⟨List.mem_of_getElem? (i := 998) rfl, rfl⟩
set_option maxRecDepth 100000 in
theorem jm_cwm_120 : jm_cwP 120 := List.mem_filter.mpr ⟨List.mem_of_getElem? (i := 1002) rfl, rfl⟩
set_option maxRecDepth 100000 in
theorem jm_cwm_121 : jm_cwP 121 := List.mem_filter.mpr ⟨List.mem_of_getElem? (i := 1006) rfl, rfl⟩
set_option maxRecDepth 100000 in
theorem jm_cwm_122 : jm_cwP 122 := List.mem_filter.mpr ⟨List.mem_of_getElem? (i := 1011) rfl, rfl⟩
set_option maxRecDepth 100000 in
theorem jm_cwm_123 : jm_cwP 123 := List.mem_filter.mpr ⟨List.mem_of_getElem? (i := 1016) rfl, rfl⟩
set_option maxRecDepth 100000 in
theorem jm_cwm_124 : jm_cwP 124 := List.mem_filter.mpr ⟨List.mem_of_getElem? (i := 1023) rfl, rfl⟩
set_option maxRecDepth 100000 in
theorem jm_cwm_125 : jm_cwP 125 := List.mem_filter.mpr ⟨List.mem_of_getElem? (i := 1029) rfl, rfl⟩
set_option maxRecDepth 100000 in
theorem jm_cwm_126 : jm_cwP 126 := List.mem_filter.mpr ⟨List.mem_of_getElem? (i := 1033) rfl, rfl⟩
set_option maxRecDepth 100000 in
theorem jm_cwm_127 : jm_cwP 127 := List.mem_filter.mpr ⟨List.mem_of_getElem? (i := 1037) rfl, rfl⟩
set_option maxRecDepth 100000 in
theorem jm_cwm_128 : jm_cwP 128 := List.mem_filter.mpr ⟨List.mem_of_getElem? (i := 1041) rfl, rfl⟩
set_option maxRecDepth 100000 in
theorem jm_cwm_129 : jm_cwP 129 := List.mem_filter.mpr ⟨List.mem_of_getElem? (i := 1046) rfl, rfl⟩
set_option maxRecDepth 100000 in
theorem jm_cwm_130 : jm_cwP 130 := List.mem_filter.mpr ⟨List.mem_of_getElem? (i := 1059) rfl, rfl⟩
set_option maxRecDepth 100000 in
theorem jm_cwm_131 : jm_cwP 131 := List.mem_filter.mpr ⟨List.mem_of_getElem? (i := 1063) rfl, rfl⟩
set_option maxRecDepth 100000 in
theorem jm_cwm_132 : jm_cwP 132 := List.mem_filter.mpr ⟨List.mem_of_getElem? (i := 1068) rfl, rfl⟩
set_option maxRecDepth 100000 in
theorem jm_cwm_133 : jm_cwP 133 := List.mem_filter.mpr ⟨List.mem_of_getElem? (i := 1072) rfl, rfl⟩
set_option maxRecDepth 100000 in
theorem jm_cwm_134 : jm_cwP 134 := List.mem_filter.mpr ⟨List.mem_of_getElem? (i := 1077) rfl, rfl⟩
set_option maxRecDepth 100000 in
theorem jm_cwm_135 : jm_cwP 135 := List.mem_filter.mpr ⟨List.mem_of_getElem? (i := 1081) rfl, rfl⟩
set_option maxRecDepth 100000 in
theorem jm_cwm_136 : jm_cwP 136 := List.mem_filter.mpr ⟨List.mem_of_getElem? (i := 1088) rfl, rfl⟩
set_option maxRecDepth 100000 in
theorem jm_cwm_137 : jm_cwP 137 := List.mem_filter.mpr ⟨List.mem_of_getElem? (i := 1092) rfl, rfl⟩
set_option maxRecDepth 100000 in
theorem jm_cwm_138 : jm_cwP 138 := List.mem_filter.mpr ⟨List.mem_of_getElem? (i := 1097) rfl, rfl⟩
set_option maxRecDepth 100000 in
theorem jm_cwm_139 : jm_cwP 139 := List.mem_filter.mpr ⟨List.mem_of_getElem? (i := 1103) rfl, rfl⟩
set_option maxRecDepth 100000 in
theorem jm_cwm_140 : jm_cwP 140 := List.mem_filter.mpr ⟨List.mem_of_getElem? (i := 1107) rfl, rfl⟩
set_option maxRecDepth 100000 in
theorem jm_cwm_141 : jm_cwP 141 := List.mem_filter.mpr ⟨List.mem_of_getElem? (i := 1110) rfl, rfl⟩
set_option maxRecDepth 100000 in
theorem jm_cwm_142 : jm_cwP 142 := List.mem_filter.mpr ⟨List.mem_of_getElem? (i := 1122) rfl, rfl⟩
set_option maxRecDepth 100000 in
theorem jm_cwm_143 : jm_cwP 143 := List.mem_filter.mpr ⟨List.mem_of_getElem? (i := 1128) rfl, rfl⟩
set_option maxRecDepth 100000 in
theorem jm_cwm_144 : jm_cwP 144 := List.mem_filter.mpr ⟨List.mem_of_getElem? (i := 1132) rfl, rfl⟩
set_option maxRecDepth 100000 in
theorem jm_cwm_145 : jm_cwP 145 := List.mem_filter.mpr ⟨List.mem_of_getElem? (i := 1136) rfl, rfl⟩
set_option maxRecDepth 100000 in
theorem jm_cwm_146 : jm_cwP 146 := List.mem_filter.mpr ⟨List.mem_of_getElem? (i := 1142) rfl, rfl⟩
set_option maxRecDepth 100000 in
theorem jm_cwm_147 : jm_cwP 147 := List.mem_filter.mpr ⟨List.mem_of_getElem? (i := 1146) rfl, rfl⟩
set_option maxRecDepth 100000 in
theorem jm_cwm_148 : jm_cwP 148 := List.mem_filter.mpr ⟨List.mem_of_getElem? (i := 1150) rfl, rfl⟩
set_option maxRecDepth 100000 in
theorem jm_cwm_149 : jm_cwP 149 := List.mem_filter.mpr ⟨List.mem_of_getElem? (i := 1157) rfl, rfl⟩
set_option maxRecDepth 100000 in
theorem jm_cwm_150 : jm_cwP 150 := List.mem_filter.mpr ⟨List.mem_of_getElem? (i := 1161) rfl, rfl⟩
set_option maxRecDepth 100000 in
theorem jm_cwm_151 : jm_cwP 151 := List.mem_filter.mpr ⟨List.mem_of_getElem? (i := 1166) rfl, rfl⟩
set_option maxRecDepth 100000 in
theorem jm_cwm_152 : jm_cwP 152 := List.mem_filter.mpr ⟨List.mem_of_getElem? (i := 1173) rfl, rfl⟩
set_option maxRecDepth 100000 in
theorem jm_cwm_153 : jm_cwP 153 := List.mem_filter.mpr ⟨List.mem_of_getElem? (i := 1177) rfl, rfl⟩
set_option maxRecDepth 100000 in
theorem jm_cwm_154 : jm_cwP 154 := List.mem_filter.mpr ⟨List.mem_of_getElem? (i := 1181) rfl, rfl⟩
set_option maxRecDepth 100000 in
theorem jm_cwm_155 : jm_cwP 155 := List.mem_filter.mpr ⟨List.mem_of_getElem? (i := 1185) rfl, rfl⟩
set_option maxRecDepth 100000 in
theorem jm_cwm_156 : jm_cwP 156 := List.mem_filter.mpr ⟨List.mem_of_getElem? (i := 1189) rfl, rfl⟩
set_option maxRecDepth 100000 in
theorem jm_cwm_157 : jm_cwP 157 := List.mem_filter.mpr ⟨List.mem_of_getElem? (i := 1193) rfl, rfl⟩
set_option maxRecDepth 100000 in
theorem jm_cwm_158 : jm_cwP 158 := List.mem_filter.mpr ⟨List.mem_of_getElem? (i := 1197) rfl, rfl⟩
set_option maxRecDepth 100000 in
theorem jm_cwm_160 : jm_cwP 160 := List.mem_filter.mpr ⟨List.mem_of_getElem? (i := 1205) rfl, rfl⟩
set_option maxRecDepth 100000 in
theorem jm_cwm_162 : jm_cwP 162 := List.mem_filter.mpr ⟨List.mem_of_getElem? (i := 1278) rfl, rfl⟩
set_option maxRecDepth 100000 in
theorem jm_cwm_163 : jm_cwP 163 := List.mem_filter.mpr ⟨List.mem_of_getElem? (i := 1283) rfl, rfl⟩
set_option maxRecDepth 100000 in
theorem jm_cwm_164 : jm_cwP 164 := List.mem_filter.mpr ⟨List.mem_of_getElem? (i := 1287) rfl, rfl⟩
set_option maxRecDepth 100000 in
theorem jm_cwm_165 : jm_cwP 165 := List.mem_filter.mpr ⟨List.mem_of_getElem? (i := 1290) rfl, rfl⟩
set_option maxRecDepth 100000 in
theorem jm_cwm_167 : jm_cwP 167 := List.mem_filter.mpr ⟨List.mem_of_getElem? (i := 1297) rfl, rfl⟩
set_option maxRecDepth 100000 in
theorem jm_cwm_168 : jm_cwP 168 := List.mem_filter.mpr ⟨List.mem_of_getElem? (i := 1302) rfl, rfl⟩
set_option maxRecDepth 100000 in
theorem jm_cwm_169 : jm_cwP 169 := List.mem_filter.mpr ⟨List.mem_of_getElem? (i := 1306) rfl, rfl⟩
set_option maxRecDepth 100000 in
theorem jm_cwm_170 : jm_cwP 170 := List.mem_filter.mpr ⟨List.mem_of_getElem? (i := 1311) rfl, rfl⟩
set_option maxRecDepth 100000 in
theorem jm_cwm_171 : jm_cwP 171 := List.mem_filter.mpr ⟨List.mem_of_getElem? (i := 1315) rfl, rfl⟩
set_option maxRecDepth 100000 in
theorem jm_cwm_172 : jm_cwP 172 := List.mem_filter.mpr ⟨List.mem_of_getElem? (i := 1319) rfl, rfl⟩
set_option maxRecDepth 100000 in
theorem jm_cwm_173 : jm_cwP 173 := List.mem_filter.mpr ⟨List.mem_of_getElem? (i := 1347) rfl, rfl⟩
set_option maxRecDepth 100000 in
theorem jm_cwm_174 : jm_cwP 174 := List.mem_filter.mpr ⟨List.mem_of_getElem? (i := 1482) rfl, rfl⟩
set_option maxRecDepth 100000 in
theorem jm_cwm_175 : jm_cwP 175 := List.mem_filter.mpr ⟨List.mem_of_getElem? (i := 1486) rfl, rfl⟩
set_option maxRecDepth 100000 in
theorem jm_cwm_176 : jm_cwP 176 := List.mem_filter.mpr ⟨List.mem_of_getElem? (i := 1490) rfl, rfl⟩
set_option maxRecDepth 100000 in
theorem jm_cwm_177 : jm_cwP 177 := List.mem_filter.mpr ⟨List.mem_of_getElem? (i := 1494) rfl, rfl⟩
set_option maxRecDepth 100000 in
theorem jm_cwm_178 : jm_cwP 178 := List.mem_filter.mpr ⟨List.mem_of_getElem? (i := 1497) rfl, rfl⟩
set_option maxRecDepth 100000 in
theorem jm_cwm_179 : jm_cwP 179 := List.mem_filter.mpr ⟨List.mem_of_getElem? (i := 1500) rfl, rfl⟩
set_option maxRecDepth 100000 in
theorem jm_cwm_180 : jm_cwP 180 := List.mem_filter.mpr ⟨List.mem_of_getElem? (i := 1504) rfl, rfl⟩
set_option maxRecDepth 100000 in
theorem jm_cwm_181 : jm_cwP 181 := List.mem_filter.mpr ⟨List.mem_of_getElem? (i := 1508) rfl, rfl⟩
set_option maxRecDepth 100000 in
theorem jm_cwm_182 : jm_cwP 182 := List.mem_filter.mpr ⟨List.mem_of_getElem? (i := 1512) rfl, rfl⟩
set_option maxRecDepth 100000 in
theorem jm_cwm_183 : jm_cwP 183 := List.mem_filter.mpr ⟨List.mem_of_getElem? (i := 1516) rfl, rfl⟩
set_option maxRecDepth 100000 in
theorem jm_cwm_184 : jm_cwP 184 := List.mem_filter.mpr ⟨List.mem_of_getElem? (i := 1520) rfl, rfl⟩
set_option maxRecDepth 100000 in
theorem jm_cwm_185 : jm_cwP 185 := List.mem_filter.mpr ⟨List.mem_of_getElem? (i := 1524) rfl, rfl⟩
set_option maxRecDepth 100000 in
theorem jm_cwm_186 : jm_cwP 186 := List.mem_filter.mpr ⟨List.mem_of_getElem? (i := 1528) rfl, rfl⟩
set_option maxRecDepth 100000 in
theorem jm_cwm_187 : jm_cwP 187 := List.mem_filter.mpr ⟨List.mem_of_getElem? (i := 1532) rfl, rfl⟩
set_option maxRecDepth 100000 in
theorem jm_cwm_188 : jm_cwP 188 := List.mem_filter.mpr ⟨List.mem_of_getElem? (i := 1536) rfl, rfl⟩
set_option maxRecDepth 100000 in
theorem jm_cwm_189 : jm_cwP 189 := List.mem_filter.mpr ⟨List.mem_of_getElem? (i := 1539) rfl, rfl⟩
set_option maxRecDepth 100000 in
theorem jm_cwm_190 : jm_cwP 190 := List.mem_filter.mpr ⟨List.mem_of_getElem? (i := 1543) rfl, rfl⟩
set_option maxRecDepth 100000 in
theorem jm_cwm_191 : jm_cwP 191 := List.mem_filter.mpr ⟨List.mem_of_getElem? (i := 1547) rfl, rfl⟩
set_option maxRecDepth 100000 in
theorem jm_cwm_192 : jm_cwP 192 := List.mem_filter.mpr ⟨List.mem_of_getElem? (i := 1551) rfl, rfl⟩
set_option maxRecDepth 100000 in
theorem jm_cwm_193 : jm_cwP 193 := List.mem_filter.mpr ⟨List.mem_of_getElem? (i := 1555) rfl, rfl⟩
set_option maxRecDepth 100000 in
theorem jm_cwm_194 : jm_cwP 194 := List.mem_filter.mpr ⟨List.mem_of_getElem? (i := 1559) rfl, rfl⟩
set_option maxRecDepth 100000 in
theorem jm_cwm_195 : jm_cwP 195 := List.mem_filter.mpr ⟨List.mem_of_getElem? (i := 1563) rfl, rfl⟩
set_option maxRecDepth 100000 in
theorem jm_cwm_196 : jm_cwP 196 := List.mem_filter.mpr ⟨List.mem_of_getElem? (i := 1567) rfl, rfl⟩
set_option maxRecDepth 100000 in
theorem jm_cwm_197 : jm_cwP 197 := List.mem_filter.mpr ⟨List.mem_of_getElem? (i := 1571) rfl, rfl⟩
set_option maxRecDepth 100000 in
theorem jm_cwm_198 : jm_cwP 198 := List.mem_filter.mpr ⟨List.mem_of_getElem? (i := 1574) rfl, rfl⟩
set_option maxRecDepth 100000 in
theorem jm_cwm_199 : jm_cwP 199 := List.mem_filter.mpr ⟨List.mem_of_getElem? (i := 1578) rfl, rfl⟩
set_option maxRecDepth 100000 in
theorem jm_cwm_200 : jm_cwP 200 := List.mem_filter.mpr ⟨List.mem_of_getElem? (i := 1582) rfl, rfl⟩
set_option maxRecDepth 100000 in
theorem jm_cwm_201 : jm_cwP 201 := List.mem_filter.mpr ⟨List.mem_of_getElem? (i := 1586) rfl, rfl⟩
set_option maxRecDepth 100000 in
theorem jm_cwm_202 : jm_cwP 202 := List.mem_filter.mpr ⟨List.mem_of_getElem? (i := 1590) rfl, rfl⟩
set_option maxRecDepth 100000 in
theorem jm_cwm_203 : jm_cwP 203 := List.mem_filter.mpr ⟨List.mem_of_getElem? (i := 1594) rfl, rfl⟩
set_option maxRecDepth 100000 in
theorem jm_cwm_204 : jm_cwP 204 := List.mem_filter.mpr ⟨List.mem_of_getElem? (i := 1598) rfl, rfl⟩
set_option maxRecDepth 100000 in
theorem jm_cwm_205 : jm_cwP 205 := List.mem_filter.mpr ⟨List.mem_of_getElem? (i := 1602) rfl, rfl⟩
set_option maxRecDepth 100000 in
theorem jm_cwm_206 : jm_cwP 206 := List.mem_filter.mpr ⟨List.mem_of_getElem? (i := 1606) rfl, rfl⟩
set_option maxRecDepth 100000 in
theorem jm_cwm_207 : jm_cwP 207 := List.mem_filter.mpr ⟨List.mem_of_getElem? (i := 1610) rfl, rfl⟩
set_option maxRecDepth 100000 in
theorem jm_cwm_208 : jm_cwP 208 := List.mem_filter.mpr ⟨List.mem_of_getElem? (i := 1614) rfl, rfl⟩
set_option maxRecDepth 100000 in
theorem jm_cwm_209 : jm_cwP 209 := List.mem_filter.mpr ⟨List.mem_of_getElem? (i := 1618) rfl, rfl⟩
set_option maxRecDepth 100000 in
theorem jm_cwm_210 : jm_cwP 210 := List.mem_filter.mpr ⟨List.mem_of_getElem? (i := 1622) rfl, rfl⟩
set_option maxRecDepth 100000 in
theorem jm_cwm_211 : jm_cwP 211 := List.mem_filter.mpr ⟨List.mem_of_getElem? (i := 1626) rfl, rfl⟩
set_option maxRecDepth 100000 in
theorem jm_cwm_212 : jm_cwP 212 := List.mem_filter.mpr ⟨List.mem_of_getElem? (i := 1630) rfl, rfl⟩
set_option maxRecDepth 100000 in
theorem jm_cwm_213 : jm_cwP 213 := List.mem_filter.mpr ⟨List.mem_of_getElem? (i := 1634) rfl, rfl⟩
set_option maxRecDepth 100000 in
theorem jm_cwm_214 : jm_cwP 214 := List.mem_filter.mpr ⟨List.mem_of_getElem? (i := 1638) rfl, rfl⟩
set_option maxRecDepth 100000 in
theorem jm_cwm_215 : jm_cwP 215 := List.mem_filter.mpr ⟨List.mem_of_getElem? (i := 1642) rfl, rfl⟩
set_option maxRecDepth 100000 in
theorem jm_cwm_216 : jm_cwP 216 := List.mem_filter.mpr ⟨List.mem_of_getElem? (i := 1646) rfl, rfl⟩
set_option maxRecDepth 100000 in
theorem jm_cwm_217 : jm_cwP 217 := List.mem_filter.mpr ⟨List.mem_of_getElem? (i := 1650) rfl, rfl⟩
set_option maxRecDepth 100000 in
theorem jm_cwm_218 : jm_cwP 218 := List.mem_filter.mpr ⟨List.mem_of_getElem? (i := 1654) rfl, rfl⟩
set_option maxRecDepth 100000 in
theorem jm_cwm_219 : jm_cwP 219 := List.mem_filter.mpr ⟨List.mem_of_getElem? (i := 1658) rfl, rfl⟩
set_option maxRecDepth 100000 in
theorem jm_cwm_220 : jm_cwP 220 := List.mem_filter.mpr ⟨List.mem_of_getElem? (i := 1662) rfl, rfl⟩
set_option maxRecDepth 100000 in
theorem jm_cwm_221 : jm_cwP 221 := List.mem_filter.mpr ⟨List.mem_of_getElem? (i := 1666) rfl, rfl⟩
set_option maxRecDepth 100000 in
theorem jm_cwm_222 : jm_cwP 222 := List.mem_filter.mpr ⟨List.mem_of_getElem? (i := 1670) rfl, rfl⟩
set_option maxRecDepth 100000 in
theorem jm_cwm_223 : jm_cwP 223 := List.mem_filter.mpr ⟨List.mem_of_getElem? (i := 1674) rfl, rfl⟩
set_option maxRecDepth 100000 in
theorem jm_cwm_224 : jm_cwP 224 := List.mem_filter.mpr ⟨List.mem_of_getElem? (i := 1678) rfl, rfl⟩
set_option maxRecDepth 100000 in
theorem jm_cwm_225 : jm_cwP 225 := List.mem_filter.mpr ⟨List.mem_of_getElem? (i := 1682) rfl, rfl⟩
set_option maxRecDepth 100000 in
theorem jm_cwm_226 : jm_cwP 226 := List.mem_filter.mpr ⟨List.mem_of_getElem? (i := 1686) rfl, rfl⟩
set_option maxRecDepth 100000 in
theorem jm_cwm_227 : jm_cwP 227 := List.mem_filter.mpr ⟨List.mem_of_getElem? (i := 1690) rfl, rfl⟩
set_option maxRecDepth 100000 in
theorem jm_cwm_228 : jm_cwP 228 := List.mem_filter.mpr ⟨List.mem_of_getElem? (i := 1694) rfl, rfl⟩
set_option maxRecDepth 100000 in
theorem jm_cwm_229 : jm_cwP 229 := List.mem_filter.mpr ⟨List.mem_of_getElem? (i := 1698) rfl, rfl⟩
set_option maxRecDepth 100000 in
theorem jm_cwm_230 : jm_cwP 230 := List.mem_filter.mpr ⟨List.mem_of_getElem? (i := 1702) rfl, rfl⟩
set_option maxRecDepth 100000 in
theorem jm_cwm_231 : jm_cwP 231 := List.mem_filter.mpr ⟨List.mem_of_getElem? (i := 1706) rfl, rfl⟩
set_option maxRecDepth 100000 in
theorem jm_cwm_232 : jm_cwP 232 := List.mem_filter.mpr ⟨List.mem_of_getElem? (i := 1710) rfl, rfl⟩
set_option maxRecDepth 100000 in
theorem jm_cwm_233 : jm_cwP 233 := List.mem_filter.mpr ⟨List.mem_of_getElem? (i := 1714) rfl, rfl⟩
set_option maxRecDepth 100000 in
theorem jm_cwm_234 : jm_cwP 234 := List.mem_filter.mpr ⟨List.mem_of_getElem? (i := 1718) rfl, rfl⟩
set_option maxRecDepth 100000 in
theorem jm_cwm_235 : jm_cwP 235 := List.mem_filter.mpr ⟨List.mem_of_getElem? (i := 1722) rfl, rfl⟩
set_option maxRecDepth 100000 in
theorem jm_cwm_236 : jm_cwP 236 := List.mem_filter.mpr ⟨List.mem_of_getElem? (i := 1726) rfl, rfl⟩
set_option maxRecDepth 100000 in
theorem jm_cwm_237 : jm_cwP 237 := List.mem_filter.mpr ⟨List.mem_of_getElem? (i := 1730) rfl, rfl⟩
set_option maxRecDepth 100000 in
theorem jm_cwm_238 : jm_cwP 238 := List.mem_filter.mpr ⟨List.mem_of_getElem? (i := 1734) rfl, rfl⟩
set_option maxRecDepth 100000 in
theorem jm_cwm_239 : jm_cwP 239 := List.mem_filter.mpr ⟨List.mem_of_getElem? (i := 1738) rfl, rfl⟩
set_option maxRecDepth 100000 in
theorem jm_cwm_240 : jm_cwP 240 := List.mem_filter.mpr ⟨List.mem_of_getElem? (i := 1742) rfl, rfl⟩
set_option maxRecDepth 100000 in
theorem jm_cwm_241 : jm_cwP 241 := List.mem_filter.mpr ⟨List.mem_of_getElem? (i := 1746) rfl, rfl⟩
set_option maxRecDepth 100000 in
theorem jm_cwm_242 : jm_cwP 242 := List.mem_filter.mpr ⟨List.mem_of_getElem? (i := 1750) rfl, rfl⟩
set_option maxRecDepth 100000 in
theorem jm_cwm_243 : jm_cwP 243 := List.mem_filter.mpr ⟨List.mem_of_getElem? (i := 1754) rfl, rfl⟩
set_option maxRecDepth 100000 in
theorem jm_cwm_244 : jm_cwP 244 := List.mem_filter.mpr ⟨List.mem_of_getElem? (i := 1757) rfl, rfl⟩
set_option maxRecDepth 100000 in
theorem jm_cwm_245 : jm_cwP 245 := List.mem_filter.mpr ⟨List.mem_of_getElem? (i := 1761) rfl, rfl⟩
set_option maxRecDepth 100000 in
theorem jm_cwm_246 : jm_cwP 246 := List.mem_filter.mpr ⟨List.mem_of_getElem? (i := 1764) rfl, rfl⟩
set_option maxRecDepth 100000 in
theorem jm_cwm_247 : jm_cwP 247 := List.mem_filter.mpr ⟨List.mem_of_getElem? (i := 1768) rfl, rfl⟩
set_option maxRecDepth 100000 in
theorem jm_cwm_248 : jm_cwP 248 := List.mem_filter.mpr ⟨List.mem_of_getElem? (i := 1772) rfl, rfl⟩
set_option maxRecDepth 100000 in
theorem jm_cwm_249 : jm_cwP 249 := List.mem_filter.mpr ⟨List.mem_of_getElem? (i := 1776) rfl, rfl⟩
set_option maxRecDepth 100000 in
theorem jm_cwm_250 : jm_cwP 250 := List.mem_filter.mpr ⟨List.mem_of_getElem? (i := 1780) rfl, rfl⟩
set_option maxRecDepth 100000 in
theorem jm_cwm_251 : jm_cwP 251 := List.mem_filter.mpr ⟨List.mem_of_getElem? (i := 1784) rfl, rfl⟩
set_option maxRecDepth 100000 in
theorem jm_cwm_252 : jm_cwP 252 := List.mem_filter.mpr ⟨List.mem_of_getElem? (i := 1789) rfl, rfl⟩
set_option maxRecDepth 100000 in
theorem jm_cwm_253 : jm_cwP 253 := List.mem_filter.mpr ⟨List.mem_of_getElem? (i := 1793) rfl, rfl⟩
set_option maxRecDepth 100000 in
theorem jm_cwm_254 : jm_cwP 254 := List.mem_filter.mpr ⟨List.mem_of_getElem? (i := 1799) rfl, rfl⟩
set_option maxRecDepth 100000 in
theorem jm_cwm_255 : jm_cwP 255 := List.mem_filter.mpr ⟨List.mem_of_getElem? (i := 1803) rfl, rfl⟩
set_option maxRecDepth 100000 in
theorem jm_cwm_256 : jm_cwP 256 := List.mem_filter.mpr ⟨List.mem_of_getElem? (i := 1807) rfl, rfl⟩
set_option maxRecDepth 100000 in
theorem jm_cwm_257 : jm_cwP 257 := List.mem_filter.mpr ⟨List.mem_of_getElem? (i := 1811) rfl, rfl⟩
set_option maxRecDepth 100000 in
theorem jm_cwm_258 : jm_cwP 258 := List.mem_filter.mpr ⟨List.mem_of_getElem? (i := 1815) rfl, rfl⟩
set_option maxRecDepth 100000 in
theorem jm_cwm_259 : jm_cwP 259 := List.mem_filter.mpr ⟨List.mem_of_getElem? (i := 1820) rfl, rfl⟩
set_option maxRecDepth 100000 in
theorem jm_cwm_260 : jm_cwP 260 := List.mem_filter.mpr ⟨List.mem_of_getElem? (i := 1824) rfl, rfl⟩
set_option maxRecDepth 100000 in
theorem jm_cwm_261 : jm_cwP 261 := List.mem_filter.mpr ⟨List.mem_of_getElem? (i := 1828) rfl, rfl⟩
set_option maxRecDepth 100000 in
theorem jm_cwm_262 : jm_cwP 262 := List.mem_filter.mpr ⟨List.mem_of_getElem? (i := 1832) rfl, rfl⟩
set_option maxRecDepth 100000 in
theorem jm_cwm_263 : jm_cwP 263 := List.mem_filter.mpr ⟨List.mem_of_getElem? (i := 1836) rfl, rfl⟩
set_option maxRecDepth 100000 in
theorem jm_cwm_264 : jm_cwP 264 := List.mem_filter.mpr ⟨List.mem_of_getElem? (i := 1840) rfl, rfl⟩
set_option maxRecDepth 100000 in
theorem jm_cwm_265 : jm_cwP 265 := List.mem_filter.mpr ⟨List.mem_of_getElem? (i := 1844) rfl, rfl⟩
set_option maxRecDepth 100000 in
theorem jm_cwm_266 : jm_cwP 266 := List.mem_filter.mpr ⟨List.mem_of_getElem? (i := 1848) rfl, rfl⟩
set_option maxRecDepth 100000 in
theorem jm_cwm_267 : jm_cwP 267 := List.mem_filter.mpr ⟨List.mem_of_getElem? (i := 1852) rfl, rfl⟩
set_option maxRecDepth 100000 in
theorem jm_cwm_268 : jm_cwP 268 := List.mem_filter.mpr ⟨List.mem_of_getElem? (i := 1856) rfl, rfl⟩
set_option maxRecDepth 100000 in
theorem jm_cwm_269 : jm_cwP 269 := List.mem_filter.mpr ⟨List.mem_of_getElem? (i := 1860) rfl, rfl⟩
set_option maxRecDepth 100000 in
theorem jm_cwm_270 : jm_cwP 270 := List.mem_filter.mpr ⟨List.mem_of_getElem? (i := 1864) rfl, rfl⟩
set_option maxRecDepth 100000 in
theorem jm_cwm_271 : jm_cwP 271 := List.mem_filter.mpr ⟨List.mem_of_getElem? (i := 1868) rfl, rfl⟩
set_option maxRecDepth 100000 in
theorem jm_cwm_272 : jm_cwP 272 := List.mem_filter.mpr ⟨List.mem_of_getElem? (i := 1872) rfl, rfl⟩
set_option maxRecDepth 100000 in
theorem jm_cwm_273 : jm_cwP 273 := List.mem_filter.mpr ⟨List.mem_of_getElem? (i := 1876) rfl, rfl⟩
set_option maxRecDepth 100000 in
theorem jm_cwm_274 : jm_cwP 274 := List.mem_filter.mpr ⟨List.mem_of_getElem? (i := 1880) rfl, rfl⟩
set_option maxRecDepth 100000 in
theorem jm_cwm_275 : jm_cwP 275 := List.mem_filter.mpr ⟨List.mem_of_getElem? (i := 1884) rfl, rfl⟩
set_option maxRecDepth 100000 in
theorem jm_cwm_276 : jm_cwP 276 := List.mem_filter.mpr ⟨List.mem_of_getElem? (i := 1888) rfl, rfl⟩
theorem jm_mok_of {m : Nat} (h : m < 278) : plainName (g_m m).1.cls = true ∧ ((g_m m).1.cls ≠ "java/lang/invoke/MethodHandle" ∧ (g_m m).1.cls ≠ "java/lang/invoke/VarHandle") ∧ (g_m m).2.2.1 ≤ 30 := by
  have h1 := List.all_eq_true.mp jm_mok_all m (List.mem_range.mpr h)
  simp only [jm_mok, Bool.and_eq_true, decide_eq_true_eq] at h1
  exact ⟨h1.1.1, h1.1.2, h1.2⟩
theorem jm_cwl_0 : ∀ m ∈ [0, 1, 2, 3, 4, 5, 6, 7, 8, 9, 10, 11, 12, 13, 14, 15], jm_cwP m := List.forall_mem_cons.mpr ⟨jm_cwm_0, List.forall_mem_cons.mpr ⟨jm_cwm_1, List.forall_mem_cons.mpr ⟨jm_cwm_2, List.forall_mem_cons.mpr ⟨jm_cwm_3, List.forall_mem_cons.mpr ⟨jm_cwm_4, List.forall_mem_cons.mpr ⟨jm_cwm_5, List.forall_mem_cons.mpr ⟨jm_cwm_6, List.forall_mem_cons.mpr ⟨jm_cwm_7, List.forall_mem_cons.mpr ⟨jm_cwm_8, List.forall_mem_cons.mpr ⟨jm_cwm_9, List.forall_mem_cons.mpr ⟨jm_cwm_10, List.forall_mem_cons.mpr ⟨jm_cwm_11, List.forall_mem_cons.mpr ⟨jm_cwm_12, List.forall_mem_cons.mpr ⟨jm_cwm_13, List.forall_mem_cons.mpr ⟨jm_cwm_14, List.forall_mem_cons.mpr ⟨jm_cwm_15, fun _ h => nomatch h⟩⟩⟩⟩⟩⟩⟩⟩⟩⟩⟩⟩⟩⟩⟩⟩
theorem jm_cwl_16 : ∀ m ∈ [16, 17, 18, 19, 20, 21, 22, 23, 24, 25, 26, 27, 28, 29, 30, 31], jm_cwP m := List.forall_mem_cons.mpr ⟨jm_cwm_16, List.forall_mem_cons.mpr ⟨jm_cwm_17, List.forall_mem_cons.mpr ⟨jm_cwm_18, List.forall_mem_cons.mpr ⟨jm_cwm_19, List.forall_mem_cons.mpr ⟨jm_cwm_20, List.forall_mem_cons.mpr ⟨jm_cwm_21, List.forall_mem_cons.mpr ⟨jm_cwm_22, List.forall_mem_cons.mpr ⟨jm_cwm_23, List.forall_mem_cons.mpr ⟨jm_cwm_24, List.forall_mem_cons.mpr ⟨jm_cwm_25, List.forall_mem_cons.mpr ⟨jm_cwm_26, List.forall_mem_cons.mpr ⟨jm_cwm_27, List.forall_mem_cons.mpr ⟨jm_cwm_28, List.forall_mem_cons.mpr ⟨jm_cwm_29, List.forall_mem_cons.mpr ⟨jm_cwm_30, List.forall_mem_cons.mpr ⟨jm_cwm_31, fun _ h => nomatch h⟩⟩⟩⟩⟩⟩⟩⟩⟩⟩⟩⟩⟩⟩⟩⟩
theorem jm_cwl_32 : ∀ m ∈ [32, 33, 34, 35, 36, 37, 38, 39, 40, 41, 42, 43, 44, 45, 46, 47], jm_cwP m := List.forall_mem_cons.mpr ⟨jm_cwm_32, List.forall_mem_cons.mpr ⟨jm_cwm_33, List.forall_mem_cons.mpr ⟨jm_cwm_34, List.forall_mem_cons.mpr ⟨jm_cwm_35, List.forall_mem_cons.mpr ⟨jm_cwm_36, List.forall_mem_cons.mpr ⟨jm_cwm_37, List.forall_mem_cons.mpr ⟨jm_cwm_38, List.forall_mem_cons.mpr ⟨jm_cwm_39, List.forall_mem_cons.mpr ⟨jm_cwm_40, List.forall_mem_cons.mpr ⟨jm_cwm_41, List.forall_mem_cons.mpr ⟨jm_cwm_42, List.forall_mem_cons.mpr ⟨jm_cwm_43, List.forall_mem_cons.mpr ⟨jm_cwm_44, List.forall_mem_cons.mpr ⟨jm_cwm_45, List.forall_mem_cons.mpr ⟨jm_cwm_46, List.forall_mem_cons.mpr ⟨jm_cwm_47, fun _ h => nomatch h⟩⟩⟩⟩⟩⟩⟩⟩⟩⟩⟩⟩⟩⟩⟩⟩
theorem jm_cwl_48 : ∀ m ∈ [48, 49, 50, 51, 52, 53, 54, 55, 56, 57, 58, 59, 60, 61, 62, 63], jm_cwP m := List.forall_mem_cons.mpr ⟨jm_cwm_48, List.forall_mem_cons.mpr ⟨jm_cwm_49, List.forall_mem_cons.mpr ⟨jm_cwm_50, List.forall_mem_cons.mpr ⟨jm_cwm_51, List.forall_mem_cons.mpr ⟨jm_cwm_52, List.forall_mem_cons.mpr ⟨jm_cwm_53, List.forall_mem_cons.mpr ⟨jm_cwm_54, List.forall_mem_cons.mpr ⟨jm_cwm_55, List.forall_mem_cons.mpr ⟨jm_cwm_56, List.forall_mem_cons.mpr ⟨jm_cwm_57, List.forall_mem_cons.mpr ⟨jm_cwm_58, List.forall_mem_cons.mpr ⟨jm_cwm_59, List.forall_mem_cons.mpr ⟨jm_cwm_60, List.forall_mem_cons.mpr ⟨jm_cwm_61, List.forall_mem_cons.mpr ⟨jm_cwm_62, List.forall_mem_cons.mpr ⟨jm_cwm_63, fun _ h => nomatch h⟩⟩⟩⟩⟩⟩⟩⟩⟩⟩⟩⟩⟩⟩⟩⟩
theorem jm_cwl_64 : ∀ m ∈ [64, 65, 66, 67, 68, 69, 70, 71, 72, 73, 74, 75, 76, 77, 78, 79], jm_cwP m := List.forall_mem_cons.mpr ⟨jm_cwm_64, List.forall_mem_cons.mpr ⟨jm_cwm_65, List.forall_mem_cons.mpr ⟨jm_cwm_66, List.forall_mem_cons.mpr ⟨jm_cwm_67, List.forall_mem_cons.mpr ⟨jm_cwm_68, List.forall_mem_cons.mpr ⟨jm_cwm_69, List.forall_mem_cons.mpr ⟨jm_cwm_70, List.forall_mem_cons.mpr ⟨jm_cwm_71, List.forall_mem_cons.mpr ⟨jm_cwm_72, List.forall_mem_cons.mpr ⟨jm_cwm_73, List.forall_mem_cons.mpr ⟨jm_cwm_74, List.forall_mem_cons.mpr ⟨jm_cwm_75, List.forall_mem_cons.mpr ⟨jm_cwm_76, List.forall_mem_cons.mpr ⟨jm_cwm_77, List.forall_mem_cons.mpr ⟨jm_cwm_78, List.forall_mem_cons.mpr ⟨jm_cwm_79, fun _ h => nomatch h⟩⟩⟩⟩⟩⟩⟩⟩⟩⟩⟩⟩⟩⟩⟩⟩
theorem jm_cwl_80 : ∀ m ∈ [80, 81, 82, 83, 84, 85, 86, 87, 88, 89, 90, 91, 92, 93, 94, 95], jm_cwP m := List.forall_mem_cons.mpr ⟨jm_cwm_80, List.forall_mem_cons.mpr ⟨jm_cwm_81, List.forall_mem_cons.mpr ⟨jm_cwm_82, List.forall_mem_cons.mpr ⟨jm_cwm_83, List.forall_mem_cons.mpr ⟨jm_cwm_84, List.forall_mem_cons.mpr ⟨jm_cwm_85, List.forall_mem_cons.mpr ⟨jm_cwm_86, List.forall_mem_cons.mpr ⟨jm_cwm_87, List.forall_mem_cons.mpr ⟨jm_cwm_88, List.forall_mem_cons.mpr ⟨jm_cwm_89, List.forall_mem_cons.mpr ⟨jm_cwm_90, List.forall_mem_cons.mpr ⟨jm_cwm_91, List.forall_mem_cons.mpr ⟨jm_cwm_92, List.forall_mem_cons.mpr ⟨jm_cwm_93, List.forall_mem_cons.mpr ⟨jm_cwm_94, List.forall_mem_cons.mpr ⟨jm_cwm_95, fun _ h => nomatch h⟩⟩⟩⟩⟩⟩⟩⟩⟩⟩⟩⟩⟩⟩⟩⟩
theorem jm_cwl_96 : ∀ m ∈ [96, 97, 98, 99, 100, 101, 102, 103, 104, 105, 106, 107, 108, 109, 110, 111], jm_cwP m := List.forall_mem_cons.mpr ⟨jm_cwm_96, List.forall_mem_cons.mpr ⟨jm_cwm_97, List.forall_mem_cons.mpr ⟨jm_cwm_98, List.forall_mem_cons.mpr ⟨jm_cwm_99, List.forall_mem_cons.mpr ⟨jm_cwm_100, List.forall_mem_cons.mpr ⟨jm_cwm_101, List.forall_mem_cons.mpr ⟨jm_cwm_102, List.forall_mem_cons.mpr ⟨jm_cwm_103, List.forall_mem_cons.mpr ⟨jm_cwm_104, List.forall_mem_cons.mpr ⟨jm_cwm_105, List.forall_mem_cons.mpr ⟨jm_cwm_106, List.forall_mem_cons.mpr ⟨jm_cwm_107, List.forall_mem_cons.mpr ⟨jm_cwm_108, List.forall_mem_cons.mpr ⟨jm_cwm_109, List.forall_mem_cons.mpr ⟨jm_cwm_110, List.forall_mem_cons.mpr ⟨jm_cwm_111, fun _ h => nomatch h⟩⟩⟩⟩⟩⟩⟩⟩⟩⟩⟩⟩⟩⟩⟩⟩
theorem jm_cwl_112 : ∀ m ∈ [112, 113, 114, 115, 116, 117, 118, 119, 120, 121, 122, 123, 124, 125, 126, 127], jm_cwP m := List.forall_mem_cons.mpr ⟨jm_cwm_112, List.forall_mem_cons.mpr ⟨jm_cwm_113, List.forall_mem_cons.mpr ⟨jm_cwm_114, List.forall_mem_cons.mpr ⟨jm_cwm_115, List.forall_mem_cons.mpr ⟨jm_cwm_116, List.forall_mem_cons.mpr ⟨jm_cwm_117, List.forall_mem_cons.mpr ⟨jm_cwm_118, List.forall_mem_cons.mpr ⟨jm_cwm_119, List.forall_mem_cons.mpr ⟨jm_cwm_120, List.forall_mem_cons.mpr ⟨jm_cwm_121, List.forall_mem_cons.mpr ⟨jm_cwm_122, List.forall_mem_cons.mpr ⟨jm_cwm_123, List.forall_mem_cons.mpr ⟨jm_cwm_124, List.forall_mem_cons.mpr ⟨jm_cwm_125, List.forall_mem_cons.mpr ⟨jm_cwm_126, List.forall_mem_cons.mpr ⟨jm_cwm_127, fun _ h => nomatch h⟩⟩⟩⟩⟩⟩⟩⟩⟩⟩⟩⟩⟩⟩⟩⟩
theorem jm_cwl_128 : ∀ m ∈ [128, 129, 130, 131, 132, 133, 134, 135, 136, 137, 138, 139, 140, 141, 142, 143], jm_cwP m := List.forall_mem_cons.mpr ⟨jm_cwm_128, List.forall_mem_cons.mpr ⟨jm_cwm_129, List.forall_mem_cons.mpr ⟨jm_cwm_130, List.forall_mem_cons.mpr ⟨jm_cwm_131, List.forall_mem_cons.mpr ⟨jm_cwm_132, List.forall_mem_cons.mpr ⟨jm_cwm_133, List.forall_mem_cons.mpr ⟨jm_cwm_134, List.forall_mem_cons.mpr ⟨jm_cwm_135, List.forall_mem_cons.mpr ⟨jm_cwm_136, List.forall_mem_cons.mpr ⟨jm_cwm_137, List.forall_mem_cons.mpr ⟨jm_cwm_138, List.forall_mem_cons.mpr ⟨jm_cwm_139, List.forall_mem_cons.mpr ⟨jm_cwm_140, List.forall_mem_cons.mpr ⟨jm_cwm_141, List.forall_mem_cons.mpr ⟨jm_cwm_142, List.forall_mem_cons.mpr ⟨jm_cwm_143, fun _ h => nomatch h⟩⟩⟩⟩⟩⟩⟩⟩⟩⟩⟩⟩⟩⟩⟩⟩
theorem jm_cwl_144 : ∀ m ∈ [144, 145, 146, 147, 148, 149, 150, 151, 152, 153, 154, 155, 156, 157, 158, 160], jm_cwP m := List.forall_mem_cons.mpr ⟨jm_cwm_144, List.forall_mem_cons.mpr ⟨jm_cwm_145, List.forall_mem_cons.mpr ⟨jm_cwm_146, List.forall_mem_cons.mpr ⟨jm_cwm_147, List.forall_mem_cons.mpr ⟨jm_cwm_148, List.forall_mem_cons.mpr ⟨jm_cwm_149, List.forall_mem_cons.mpr ⟨jm_cwm_150, List.forall_mem_cons.mpr ⟨jm_cwm_151, List.forall_mem_cons.mpr ⟨jm_cwm_152, List.forall_mem_cons.mpr ⟨jm_cwm_153, List.forall_mem_cons.mpr ⟨jm_cwm_154, List.forall_mem_cons.mpr ⟨jm_cwm_155, List.forall_mem_cons.mpr ⟨jm_cwm_156, List.forall_mem_cons.mpr ⟨jm_cwm_157, List.forall_mem_cons.mpr ⟨jm_cwm_158, List.forall_mem_cons.mpr ⟨jm_cwm_160, fun _ h => nomatch h⟩⟩⟩⟩⟩⟩⟩⟩⟩⟩⟩⟩⟩⟩⟩⟩
theorem jm_cwl_162 : ∀ m ∈ [162, 163, 164, 165, 167, 168, 169, 170, 171, 172, 173, 174, 175, 176, 177, 178], jm_cwP m := List.forall_mem_cons.mpr ⟨jm_cwm_162, List.forall_mem_cons.mpr ⟨jm_cwm_163, List.forall_mem_cons.mpr ⟨jm_cwm_164, List.forall_mem_cons.mpr ⟨jm_cwm_165, List.forall_mem_cons.mpr ⟨jm_cwm_167, List.forall_mem_cons.mpr ⟨jm_cwm_168, List.forall_mem_cons.mpr ⟨jm_cwm_169, List.forall_mem_cons.mpr ⟨jm_cwm_170, List.forall_mem_cons.mpr ⟨jm_cwm_171, List.forall_mem_cons.mpr ⟨jm_cwm_172, List.forall_mem_cons.mpr ⟨jm_cwm_173, List.forall_mem_cons.mpr ⟨jm_cwm_174, List.forall_mem_cons.mpr ⟨jm_cwm_175, List.forall_mem_cons.mpr ⟨jm_cwm_176, List.forall_mem_cons.mpr ⟨jm_cwm_177, List.forall_mem_cons.mpr ⟨jm_cwm_178, fun _ h => nomatch h⟩⟩⟩⟩⟩⟩⟩⟩⟩⟩⟩⟩⟩⟩⟩⟩
theorem jm_cwl_179 : ∀ m ∈ [179, 180, 181, 182, 183, 184, 185, 186, 187, 188, 189, 190, 191, 192, 193, 194], jm_cwP m := List.forall_mem_cons.mpr ⟨jm_cwm_179, List.forall_mem_cons.mpr ⟨jm_cwm_180, List.forall_mem_cons.mpr ⟨jm_cwm_181, List.forall_mem_cons.mpr ⟨jm_cwm_182, List.forall_mem_cons.mpr ⟨jm_cwm_183, List.forall_mem_cons.mpr ⟨jm_cwm_184, List.forall_mem_cons.mpr ⟨jm_cwm_185, List.forall_mem_cons.mpr ⟨jm_cwm_186, List.forall_mem_cons.mpr ⟨jm_cwm_187, List.forall_mem_cons.mpr ⟨jm_cwm_188, List.forall_mem_cons.mpr ⟨jm_cwm_189, List.forall_mem_cons.mpr ⟨jm_cwm_190, List.forall_mem_cons.mpr ⟨jm_cwm_191, List.forall_mem_cons.mpr ⟨jm_cwm_192, List.forall_mem_cons.mpr ⟨jm_cwm_193, List.forall_mem_cons.mpr ⟨jm_cwm_194, fun _ h => nomatch h⟩⟩⟩⟩⟩⟩⟩⟩⟩⟩⟩⟩⟩⟩⟩⟩
theorem jm_cwl_195 : ∀ m ∈ [195, 196, 197, 198, 199, 200, 201, 202, 203, 204, 205, 206, 207, 208, 209, 210], jm_cwP m := List.forall_mem_cons.mpr ⟨jm_cwm_195, List.forall_mem_cons.mpr ⟨jm_cwm_196, List.forall_mem_cons.mpr ⟨jm_cwm_197, List.forall_mem_cons.mpr ⟨jm_cwm_198, List.forall_mem_cons.mpr ⟨jm_cwm_199, List.forall_mem_cons.mpr ⟨jm_cwm_200, List.forall_mem_cons.mpr ⟨jm_cwm_201, List.forall_mem_cons.mpr ⟨jm_cwm_202, List.forall_mem_cons.mpr ⟨jm_cwm_203, List.forall_mem_cons.mpr ⟨jm_cwm_204, List.forall_mem_cons.mpr ⟨jm_cwm_205, List.forall_mem_cons.mpr ⟨jm_cwm_206, List.forall_mem_cons.mpr ⟨jm_cwm_207, List.forall_mem_cons.mpr ⟨jm_cwm_208, List.forall_mem_cons.mpr ⟨jm_cwm_209, List.forall_mem_cons.mpr ⟨jm_cwm_210, fun _ h => nomatch h⟩⟩⟩⟩⟩⟩⟩⟩⟩⟩⟩⟩⟩⟩⟩⟩
theorem jm_cwl_211 : ∀ m ∈ [211, 212, 213, 214, 215, 216, 217, 218, 219, 220, 221, 222, 223, 224, 225, 226], jm_cwP m := List.forall_mem_cons.mpr ⟨jm_cwm_211, List.forall_mem_cons.mpr ⟨jm_cwm_212, List.forall_mem_cons.mpr ⟨jm_cwm_213, List.forall_mem_cons.mpr ⟨jm_cwm_214, List.forall_mem_cons.mpr ⟨jm_cwm_215, List.forall_mem_cons.mpr ⟨jm_cwm_216, List.forall_mem_cons.mpr ⟨jm_cwm_217, List.forall_mem_cons.mpr ⟨jm_cwm_218, List.forall_mem_cons.mpr ⟨jm_cwm_219, List.forall_mem_cons.mpr ⟨jm_cwm_220, List.forall_mem_cons.mpr ⟨jm_cwm_221, List.forall_mem_cons.mpr ⟨jm_cwm_222, List.forall_mem_cons.mpr ⟨jm_cwm_223, List.forall_mem_cons.mpr ⟨jm_cwm_224, List.forall_mem_cons.mpr ⟨jm_cwm_225, List.forall_mem_cons.mpr ⟨jm_cwm_226, fun _ h => nomatch h⟩⟩⟩⟩⟩⟩⟩⟩⟩⟩⟩⟩⟩⟩⟩⟩
theorem jm_cwl_227 : ∀ m ∈ [227, 228, 229, 230, 231, 232, 233, 234, 235, 236, 237, 238, 239, 240, 241, 242], jm_cwP m := List.forall_mem_cons.mpr ⟨jm_cwm_227, List.forall_mem_cons.mpr ⟨jm_cwm_228, List.forall_mem_cons.mpr ⟨jm_cwm_229, List.forall_mem_cons.mpr ⟨jm_cwm_230, List.forall_mem_cons.mpr ⟨jm_cwm_231, List.forall_mem_cons.mpr ⟨jm_cwm_232, List.forall_mem_cons.mpr ⟨jm_cwm_233, List.forall_mem_cons.mpr ⟨jm_cwm_234, List.forall_mem_cons.mpr ⟨jm_cwm_235, List.forall_mem_cons.mpr ⟨jm_cwm_236, List.forall_mem_cons.mpr ⟨jm_cwm_237, List.forall_mem_cons.mpr ⟨jm_cwm_238, List.forall_mem_cons.mpr ⟨jm_cwm_239, List.forall_mem_cons.mpr ⟨jm_cwm_240, List.forall_mem_cons.mpr ⟨jm_cwm_241, List.forall_mem_cons.mpr ⟨jm_cwm_242, fun _ h => nomatch h⟩⟩⟩⟩⟩⟩⟩⟩⟩⟩⟩⟩⟩⟩⟩⟩
theorem jm_cwl_243 : ∀ m ∈ [243, 244, 245, 246, 247, 248, 249, 250, 251, 252, 253, 254, 255, 256, 257, 258], jm_cwP m := List.forall_mem_cons.mpr ⟨jm_cwm_243, List.forall_mem_cons.mpr ⟨jm_cwm_244, List.forall_mem_cons.mpr ⟨jm_cwm_245, List.forall_mem_cons.mpr ⟨jm_cwm_246, List.forall_mem_cons.mpr ⟨jm_cwm_247, List.forall_mem_cons.mpr ⟨jm_cwm_248, List.forall_mem_cons.mpr ⟨jm_cwm_249, List.forall_mem_cons.mpr ⟨jm_cwm_250, List.forall_mem_cons.mpr ⟨jm_cwm_251, List.forall_mem_cons.mpr ⟨jm_cwm_252, List.forall_mem_cons.mpr ⟨jm_cwm_253, List.forall_mem_cons.mpr ⟨jm_cwm_254, List.forall_mem_cons.mpr ⟨jm_cwm_255, List.forall_mem_cons.mpr ⟨jm_cwm_256, List.forall_mem_cons.mpr ⟨jm_cwm_257, List.forall_mem_cons.mpr ⟨jm_cwm_258, fun _ h => nomatch h⟩⟩⟩⟩⟩⟩⟩⟩⟩⟩⟩⟩⟩⟩⟩⟩
theorem jm_cwl_259 : ∀ m ∈ [259, 260, 261, 262, 263, 264, 265, 266, 267, 268, 269, 270, 271, 272, 273, 274], jm_cwP m := List.forall_mem_cons.mpr ⟨jm_cwm_259, List.forall_mem_cons.mpr ⟨jm_cwm_260, List.forall_mem_cons.mpr ⟨jm_cwm_261, List.forall_mem_cons.mpr ⟨jm_cwm_262, List.forall_mem_cons.mpr ⟨jm_cwm_263, List.forall_mem_cons.mpr ⟨jm_cwm_264, List.forall_mem_cons.mpr ⟨jm_cwm_265, List.forall_mem_cons.mpr ⟨jm_cwm_266, List.forall_mem_cons.mpr ⟨jm_cwm_267, List.forall_mem_cons.mpr ⟨jm_cwm_268, List.forall_mem_cons.mpr ⟨jm_cwm_269, List.forall_mem_cons.mpr ⟨jm_cwm_270, List.forall_mem_cons.mpr ⟨jm_cwm_271, List.forall_mem_cons.mpr ⟨jm_cwm_272, List.forall_mem_cons.mpr ⟨jm_cwm_273, List.forall_mem_cons.mpr ⟨jm_cwm_274, fun _ h => nomatch h⟩⟩⟩⟩⟩⟩⟩⟩⟩⟩⟩⟩⟩⟩⟩⟩
theorem jm_cwl_275 : ∀ m ∈ [275, 276], jm_cwP m := List.forall_mem_cons.mpr ⟨jm_cwm_275, List.forall_mem_cons.mpr ⟨jm_cwm_276, fun _ h => nomatch h⟩⟩
theorem jm_cw_of {m : Nat} (h : m < 278) (hw : g_wr.contains m = false) : jm_cwP m := by
  by_cases h_0 : m ∈ [0, 1, 2, 3, 4, 5, 6, 7, 8, 9, 10, 11, 12, 13, 14, 15]
  · exact jm_cwl_0 m h_0
  by_cases h_16 : m ∈ [16, 17, 18, 19, 20, 21, 22, 23, 24, 25, 26, 27, 28, 29, 30, 31]
  · exact jm_cwl_16 m h_16
  by_cases h_32 : m ∈ [32, 33, 34, 35, 36, 37, 38, 39, 40, 41, 42, 43, 44, 45, 46, 47]
  · exact jm_cwl_32 m h_32
  by_cases h_48 : m ∈ [48, 49, 50, 51, 52, 53, 54, 55, 56, 57, 58, 59, 60, 61, 62, 63]
  · exact jm_cwl_48 m h_48
  by_cases h_64 : m ∈ [64, 65, 66, 67, 68, 69, 70, 71, 72, 73, 74, 75, 76, 77, 78, 79]
  · exact jm_cwl_64 m h_64
  by_cases h_80 : m ∈ [80, 81, 82, 83, 84, 85, 86, 87, 88, 89, 90, 91, 92, 93, 94, 95]
  · exact jm_cwl_80 m h_80
  by_cases h_96 : m ∈ [96, 97, 98, 99, 100, 101, 102, 103, 104, 105, 106, 107, 108, 109, 110, 111]
  · exact jm_cwl_96 m h_96
  by_cases h_112 : m ∈ [112, 113, 114, 115, 116, 117, 118, 119, 120, 121, 122, 123, 124, 125, 126, 127]
  · exact jm_cwl_112 m h_112
  by_cases h_128 : m ∈ [128, 129, 130, 131, 132, 133, 134, 135, 136, 137, 138, 139, 140, 141, 142, 143]
  · exact jm_cwl_128 m h_128
  by_cases h_144 : m ∈ [144, 145, 146, 147, 148, 149, 150, 151, 152, 153, 154, 155, 156, 157, 158, 160]
  · exact jm_cwl_144 m h_144
  by_cases h_162 : m ∈ [162, 163, 164, 165, 167, 168, 169, 170, 171, 172, 173, 174, 175, 176, 177, 178]
  · exact jm_cwl_162 m h_162
  by_cases h_179 : m ∈ [179, 180, 181, 182, 183, 184, 185, 186, 187, 188, 189, 190, 191, 192, 193, 194]
  · exact jm_cwl_179 m h_179
  by_cases h_195 : m ∈ [195, 196, 197, 198, 199, 200, 201, 202, 203, 204, 205, 206, 207, 208, 209, 210]
  · exact jm_cwl_195 m h_195
  by_cases h_211 : m ∈ [211, 212, 213, 214, 215, 216, 217, 218, 219, 220, 221, 222, 223, 224, 225, 226]
  · exact jm_cwl_211 m h_211
  by_cases h_227 : m ∈ [227, 228, 229, 230, 231, 232, 233, 234, 235, 236, 237, 238, 239, 240, 241, 242]
  · exact jm_cwl_227 m h_227
  by_cases h_243 : m ∈ [243, 244, 245, 246, 247, 248, 249, 250, 251, 252, 253, 254, 255, 256, 257, 258]
  · exact jm_cwl_243 m h_243
  by_cases h_259 : m ∈ [259, 260, 261, 262, 263, 264, 265, 266, 267, 268, 269, 270, 271, 272, 273, 274]
  · exact jm_cwl_259 m h_259
  have h_9 : m ∈ [275, 276] := by
    simp only [List.mem_cons, List.not_mem_nil, or_false] at *
    simp only [g_wr, List.contains_cons, List.contains_nil, Bool.or_eq_false_iff, beq_eq_false_iff_ne] at hw
    omega
  exact jm_cwl_275 m h_9
end
section
section VXA
/-- where a method has thrown q: the class by its name, the cell, what was written, the world -/
def vx_T (XC : String → State → State → Prop) (st : State) (q : Addr) (t : State) (mc ms : Nat) (free : Addr → Prop) : Prop :=
  ∃ (E : String) (ce : Cell) (L : List Loc), XC E st t ∧ t.heap[q]? = some ce ∧ ce.vm = .none ∧ st.vm.findClass E = some ce.cls ∧ st.WarmedH t.vm ∧ st.sameButNew ({ t with vm := st.vm } : State) L mc ms ∧ ∀ z ∈ L, free z.base
def vx_Q (Qc : Array Value → State → Outcome → State → Prop) (XC : String → State → State → Prop) (mc ms : Nat) (free : Addr → Prop) : Array Value → State → Outcome → State → Prop := fun a st o t =>
  (Qc a st o t ∧ ∃ L, FrameEnd st o t L mc ms ∧ ∀ q ∈ L, free q.base) ∨ ∃ q, o = .threw q ∧ vx_T XC st q t mc ms free
/-- a callee that returns or throws -/
def vx_Met (l : Launch) (y : MethodName) (ws : List Cond) (rm : Room) (Pc : Array Value → State → Prop) (Qc : Array Value → State → Outcome → State → Prop) (XC : String → State → State → Prop) (mc ms : Nat) (free : Addr → Prop) : Prop :=
  MetFree l y (headSpec ws rm) Pc (fun _ _ _ _ _ => True) (vx_Q Qc XC mc ms free)
def vx_Post (XC : String → State → State → Prop) (mc ms : Nat) (free : Addr → Prop) : Pt → Array Value → Addr → Pt → Prop := fun A a q B =>
  ∃ (g : JFrame) (mk : MethodId) (t : State) (L : List Loc) (E : String) (ce : Cell), B.U.heap = t.heap ∧ B.U.vm = t.vm ∧ XC E (A.U.calling g mk a) t ∧ t.heap[q]? = some ce ∧ ce.vm = .none ∧ A.U.vm.findClass E = some ce.cls ∧ B.locs = A.locs ++ L ∧ (∀ z ∈ L, free z.base) ∧ B.cells = A.cells + mc ∧ B.slots = A.slots + ms
def vx_Back (l : Launch) (R : Room) (p : Program) (e : Env) (below : List Frame) (s : State) (sargs : Array Value) (y : MethodName) (len W9 : Nat)
    (Pre : Pt → Array Value → Prop) (Post : Pt → Array Value → Option Value → Pt → Prop) (PostX : Pt → Array Value → Addr → Pt → Prop) : Prop :=
  ∀ (m : MethodId) (meth : Method) (c : Code) (A : Pt) (g : JFrame) (ig : Instr) (mk : MethodId) (a : Array Value),
    Stand p l e R s m sargs below meth c A.U A.locs A.cells A.slots → g.method = m → g.locals.size = c.maxLocals → decode c.code g.pc = .ok (ig, len) →
    2 * g.monitorRoom + (g.stack.map fun v => v.category).sum ≤ W9 → A.U.methodNamed? y = some mk → Pre A a →
    (∃ (v : Option Value) (B : Pt), Stand p l e R s m sargs below meth c B.U B.locs B.cells B.slots ∧ Post A a v B ∧
      Steps p.tables e below (doInvoke e (A.U.setTop g) [] mk a).1 (B.U.setTop { g with pc := g.pc + len, stack := v.toList ++ g.stack })) ∨
    (∃ (q : Addr) (B : Pt), Stand p l e R s m sargs below meth c B.U B.locs B.cells B.slots ∧ PostX A a q B ∧
      Steps p.tables e below (doInvoke e (A.U.setTop g) [] mk a).1 ((B.U.setTop g).pushFrame (.throwing q)))
section Payer
variable {l : Launch} {R : Room} {p : Program} {e : Env} {below : List Frame} {s : State} {sargs : Array Value} {y : MethodName} {len W9 : Nat}
theorem vx_back {ws : List Cond} {rm : Room} {Pc : Array Value → State → Prop} {Qc : Array Value → State → Outcome → State → Prop} {XC : String → State → State → Prop} {mc ms : Nat} {free : Addr → Prop} {bytes : ByteArray} {maxL : Nat} {ret : Option FieldType}
    (hM : vx_Met l y ws rm Pc Qc XC mc ms free) (hblind : FrameBlind Pc) (hrc : rm.cells = mc) (hrs : rm.slots = ms)
    (hframes : rm.frames + 1 ≤ R.frames) (hlocals : W9 + (maxL + 11) + rm.locals ≤ R.locals)
    (hws : ∀ w ∈ ws, ∀ a' U, s.WarmedH U.vm → w.before a' U = true) (hcode : Cond.code y bytes maxL ret ∈ ws) (hinit : ∀ a' U, s.WarmedH U.vm → (Cond.initialized y.cls).before a' U = true) :
    vx_Back l R p e below s sargs y len W9 (PreOf R mc ms Pc) (PostOf Qc mc ms free) (vx_Post XC mc ms free) := by
  intro m meth c A g ig mk a X hg hsize hdg hW hn hp
  have h1 : (headSpec ws rm).pre.before a A.U = true := atoms_intro fun w hw => hws w hw _ _ X.warmed
  have h2 : (Cond.code y bytes maxL ret).before a A.U = true := hws _ hcode _ _ X.warmed
  have h3 : (Cond.initialized y.cls).before a A.U = true := hinit _ _ X.warmed
  have h4 : A.cells + (headSpec ws rm).room.cells ≤ R.cells := by rw [show (headSpec ws rm).room.cells = mc from hrc]; exact hp.1
  have h5 : A.slots + (headSpec ws rm).room.slots ≤ R.slots := by rw [show (headSpec ws rm).room.slots = ms from hrs]; exact hp.2.1
  have hPc : Pc a (A.U.calling g mk a) := hblind _ _ _ _ hp.2.2
  obtain ⟨U, Ls, c0, s0⟩ := A
  dsimp only [Pt.U, Pt.locs, Pt.cells, Pt.slots] at h1 h2 h3 h4 h5 X hn hPc ⊢
  obtain ⟨methY, cY, hmY, hcY, -, hlY, -, -, -, -⟩ := Cond.code_spec hn h2
  obtain ⟨kY, hkY, -⟩ := className_of_methodNamed hn
  have hinitY : kY.init = .initialized := Cond.initialized_spec (findClass_of_methodNamed hn) hkY h3
  have h : At U g.method c below := by rw [hg]; exact X.here
  have hlocals9 : W9 + (maxL + 11) + (headSpec ws rm).room.locals ≤ R.locals := hlocals
  have happ : (headSpec ws rm).appliesLoose y e.platform (U.calling g mk a) = true :=
    Spec.appliesLoose_calling (g := g) h hdg hn hkY hinitY
      (X.room_calling (g := g) (R' := (headSpec ws rm).room) hsize hmY hcY hframes (by rw [hlY]; omega) h4 h5) h1
  obtain ⟨mid, hmid⟩ := h.above
  have hfr : (U.setTop g).frames = (.java g :: mid) ++ below := by rw [State.frames_setTop' g h.top, hmid]; rfl
  obtain ⟨o, s₂, hsteps, -, hend, hq⟩ := Steps.callFree hM p X.admits X.cas X.clock (acts := []) hfr happ hPc trivial
  have hq' : vx_Q Qc XC mc ms free a (U.calling g mk a) o s₂ := hq
  rw [State.frames_setTop' g h.top] at hend
  obtain ⟨g₀, hg0⟩ := Option.isSome_iff_exists.mp h.top
  obtain ⟨r, hr⟩ := State.topJava?_eq_some.mp hg0
  have hr' : (({ U with heap := s₂.heap, slotsUsed := s₂.slotsUsed } : State).setVm s₂.vm).frames = .java g₀ :: r := hr
  rcases hq' with ⟨hqc, L, hfe, hL⟩ | ⟨q, rfl, E, ce, L, hx, hce, hcv, hcl, hW₂, hsm, hL⟩
  · obtain ⟨⟨v, rfl⟩, hW₂, e2, q2, q3, q4, q5, q6⟩ := id hfe
    have e3 : s₂ = ({ (U.calling g mk a).setFrames s₂.frames with heap := s₂.heap, slotsUsed := s₂.slotsUsed } : State).setVm s₂.vm := by
      have : s₂ = ({ s₂ with vm := (U.calling g mk a).vm } : State).setVm s₂.vm := rfl
      rw [e2] at this
      exact this
    obtain ⟨c₂, i₂, len₂, hc₂, hd₂, hf₂⟩ := hend
    have hW' : U.WarmedH s₂.vm := hW₂
    have hcc : c₂ = c := by
      have h1 : s₂.code? g.method = U.code? g.method := by
        rw [State.code?_eq, State.code?_eq, hW'.alike.method?]
      exact Option.some.inj (hc₂.symm.trans (h1.trans h.code))
    subst hcc
    have hlen : len₂ = len := by rw [hdg] at hd₂; cases hd₂; rfl
    subst hlen
    have hs₂ : s₂ = (({ U with heap := s₂.heap, slotsUsed := s₂.slotsUsed } : State).setVm s₂.vm).setTop { g with pc := g.pc + len₂, stack := v.toList ++ g.stack } := by
      refine e3.trans ?_
      rw [hf₂, State.calling_eq h.top, State.setFrames_setFrames, State.setTop_of_frames _ hr', hr]
      rfl
    have hsame : U.sameButNew ({ U with heap := s₂.heap, slotsUsed := s₂.slotsUsed } : State) L mc ms := by
      refine ⟨?_, q2, q3, q4, q5, q6⟩
      obtain ⟨t, ht, -⟩ := State.frames_cons hr
      show ({ U with heap := s₂.heap, slotsUsed := s₂.slotsUsed } : State) = { U.setFrames U.frames with heap := s₂.heap, slotsUsed := s₂.slotsUsed }
      rw [State.setFrames_self ht]
    subst hg
    refine Or.inl ⟨v, ⟨(({ U with heap := s₂.heap, slotsUsed := s₂.slotsUsed } : State).setVm s₂.vm), Ls ++ L, c0 + mc, s0 + ms⟩,
      ⟨X.admits, X.cas, X.clock, X.frames, X.room, X.hears, X.method, X.code, (X.here.setHeapUsed s₂.heap s₂.slotsUsed).setVm hW'.alike, X.tail, State.WarmedH.trans X.warmed hW', X.limits, X.bytes, X.same.trans (hsame.setVm s.vm)⟩,
      ⟨g, mk, s₂, L, rfl, rfl, hqc, rfl, hL, rfl, rfl⟩, ?_⟩
    show Steps p.tables e below _ ((({ U with heap := s₂.heap, slotsUsed := s₂.slotsUsed } : State).setVm s₂.vm).setTop { g with pc := g.pc + len₂, stack := v.toList ++ g.stack })
    rw [← hs₂]
    exact hsteps
  · obtain ⟨e2, q2, q3, q4, q5, q6⟩ := id hsm
    have e3 : s₂ = ({ (U.calling g mk a).setFrames s₂.frames with heap := s₂.heap, slotsUsed := s₂.slotsUsed } : State).setVm s₂.vm := by
      have : s₂ = ({ s₂ with vm := (U.calling g mk a).vm } : State).setVm s₂.vm := rfl
      rw [e2] at this
      exact this
    have hf₂ : s₂.frames = .throwing q :: .java g :: U.frames.tail := hend
    have hW' : U.WarmedH s₂.vm := hW₂
    have hs₂ : s₂ = ((({ U with heap := s₂.heap, slotsUsed := s₂.slotsUsed } : State).setVm s₂.vm).setTop g).pushFrame (.throwing q) := by
      refine e3.trans ?_
      rw [hf₂, State.calling_eq h.top, State.setFrames_setFrames, State.pushFrame, State.frames_setTop _ hr', State.setTop_of_frames _ hr', State.setFrames_setFrames, hr]
      rfl
    have hsame : U.sameButNew ({ U with heap := s₂.heap, slotsUsed := s₂.slotsUsed } : State) L mc ms := by
      refine ⟨?_, q2, q3, q4, q5, q6⟩
      obtain ⟨t, ht, -⟩ := State.frames_cons hr
      show ({ U with heap := s₂.heap, slotsUsed := s₂.slotsUsed } : State) = { U.setFrames U.frames with heap := s₂.heap, slotsUsed := s₂.slotsUsed }
      rw [State.setFrames_self ht]
    subst hg
    refine Or.inr ⟨q, ⟨(({ U with heap := s₂.heap, slotsUsed := s₂.slotsUsed } : State).setVm s₂.vm), Ls ++ L, c0 + mc, s0 + ms⟩,
      ⟨X.admits, X.cas, X.clock, X.frames, X.room, X.hears, X.method, X.code, (X.here.setHeapUsed s₂.heap s₂.slotsUsed).setVm hW'.alike, X.tail, State.WarmedH.trans X.warmed hW', X.limits, X.bytes, X.same.trans (hsame.setVm s.vm)⟩,
      ⟨g, mk, s₂, L, E, ce, rfl, rfl, hx, hce, hcv, hcl, rfl, hL, rfl, rfl⟩, ?_⟩
    show Steps p.tables e below _ (((({ U with heap := s₂.heap, slotsUsed := s₂.slotsUsed } : State).setVm s₂.vm).setTop g).pushFrame (.throwing q))
    rw [← hs₂]
    exact hsteps
end Payer
section Calls
variable {p : Program} {l : Launch} {e : Env} {R : Room} {s : State} {m : MethodId} {args : Array Value} {below : List Frame} {meth : Method} {c : Code} {T : State} {locs : List Loc} {cells slots : Nat}
theorem vx_callV (X : Stand p l e R s m args below meth c T locs cells slots) (hexec : p.tables.exec = Jvm.exec) {own C : String} {index : Nat} {y : MethodName} {bytes : ByteArray} {maxL : Nat} {ret : Option FieldType}
    (hown : s.vm.findClass own = some m.cls) (hlink : (Cond.methodLink own index y).before args s = true) (hinst : (Cond.instanceMethod y).before args s = true) (hsel : (Cond.selects C y y).before args s = true)
    (hcode : (Cond.code y bytes maxL ret).before args s = true) (hy : y.cls ≠ "java/lang/invoke/MethodHandle" ∧ y.cls ≠ "java/lang/invoke/VarHandle")
    {W9 : Nat} {Pre : Pt → Array Value → Prop} {Post : Pt → Array Value → Option Value → Pt → Prop} {PostX : Pt → Array Value → Addr → Pt → Prop} (hK : vx_Back l R p e below s args y 3 W9 Pre Post PostX)
    {b : Addr} {cellB : Cell} (hcell : T.heap[b]? = some cellB) (hobj : cellB.vm.isStatics = false) (hcls : s.vm.findClass C = some cellB.cls)
    {g : JFrame} (hg : g.method = m) (hsize : g.locals.size = c.maxLocals) {argsL rest : List Value} (hlen : ∀ sig, parseMethodDescriptor y.desc = some sig → argsL.length = sig.parameters.length)
    (hstack : g.stack = argsL.reverse ++ .ref b :: rest) (hW : 2 * g.monitorRoom + (rest.map fun v => v.category).sum ≤ W9) (hdg : decode c.code g.pc = .ok (.invokevirtual index, 3))
    (hpre : ∀ vm₁, s.WarmedH vm₁ → Pre ⟨T.setVm vm₁, locs, cells, slots⟩ (Value.ref b :: argsL).toArray) :
    (∃ (v : Option Value) (vm₁ : Vm) (B : Pt), s.WarmedH vm₁ ∧ Stand p l e R s m args below meth c B.U B.locs B.cells B.slots ∧ Post ⟨T.setVm vm₁, locs, cells, slots⟩ (Value.ref b :: argsL).toArray v B ∧
      ∀ target, Steps p.tables e below (B.U.setTop { g with pc := g.pc + 3, stack := v.toList ++ rest }) target → Steps p.tables e below (T.setTop g) target) ∨
    (∃ (q : Addr) (vm₁ : Vm) (B : Pt), s.WarmedH vm₁ ∧ Stand p l e R s m args below meth c B.U B.locs B.cells B.slots ∧ PostX ⟨T.setVm vm₁, locs, cells, slots⟩ (Value.ref b :: argsL).toArray q B ∧
      Steps p.tables e below (T.setTop g) ((B.U.setTop { g with stack := rest }).pushFrame (.throwing q))) := by
  obtain ⟨mk, methM, hnamed, hmethM, hstM, habM⟩ := Cond.instanceMethod_spec hinst
  obtain ⟨methM', cM, hmethM', -, -, -, -, -, -, hsigM⟩ := Cond.code_spec hnamed hcode
  cases hmethM.symm.trans hmethM'
  obtain ⟨c2, r2, m2, q1, q2, q3, q4, kP, hkP, hkPi⟩ := Cond.selects_spec hsel
  cases hcls.symm.trans q1
  cases (State.methodFound?_of_named hnamed hy).symm.trans q2
  cases hnamed.symm.trans q3
  have hselP : selectMethod e.platform s.vm cellB.cls mk = .method mk := by rw [Launch.admits_selectMethod X.admits]; exact q4
  obtain ⟨vm₁, X₁, hstep₁⟩ := X.invokevirtual hexec hown hlink hnamed hmethM hstM hkP hkPi hy (a := b) (cell := cellB) hcell
    (fun z h => by rw [h] at hobj; cases hobj) hselP hmethM habM hkP hkPi (g := g) hg (argsL := argsL) (rest := rest) (hlen _ hsigM) hstack hdg
  rcases hK m meth c ⟨T.setVm vm₁, locs, cells, slots⟩ { g with stack := rest } (.invokevirtual index) mk (Value.ref b :: argsL).toArray X₁ hg hsize hdg hW (X₁.named hnamed) (hpre vm₁ X₁.warmed) with ⟨v, B, X', hpost, hsteps⟩ | ⟨q, B, X', hpost, hsteps⟩
  · exact Or.inl ⟨v, vm₁, B, X₁.warmed, X', hpost, fun target h => hstep₁ _ fun acts => by rw [doInvoke_state]; exact hsteps.trans h⟩
  · exact Or.inr ⟨q, vm₁, B, X₁.warmed, X', hpost, hstep₁ _ fun acts => by rw [doInvoke_state]; exact hsteps⟩
theorem vx_callS (X : Stand p l e R s m args below meth c T locs cells slots) (hexec : p.tables.exec = Jvm.exec) {own : String} {index : Nat} {y : MethodName} {bytes : ByteArray} {maxL : Nat} {ret : Option FieldType}
    (hown : s.vm.findClass own = some m.cls) (hlink : (Cond.methodLink own index y).before args s = true) (hstat : (Cond.static y).before args s = true) (hinit : (Cond.initialized y.cls).before args s = true)
    (hcode : (Cond.code y bytes maxL ret).before args s = true) (hy : y.cls ≠ "java/lang/invoke/MethodHandle" ∧ y.cls ≠ "java/lang/invoke/VarHandle")
    {W9 : Nat} {Pre : Pt → Array Value → Prop} {Post : Pt → Array Value → Option Value → Pt → Prop} {PostX : Pt → Array Value → Addr → Pt → Prop} (hK : vx_Back l R p e below s args y 3 W9 Pre Post PostX)
    {g : JFrame} (hg : g.method = m) (hsize : g.locals.size = c.maxLocals) {argsL rest : List Value} (hlen : ∀ sig, parseMethodDescriptor y.desc = some sig → argsL.length = sig.parameters.length)
    (hstack : g.stack = argsL.reverse ++ rest) (hW : 2 * g.monitorRoom + (rest.map fun v => v.category).sum ≤ W9) (hdg : decode c.code g.pc = .ok (.invokestatic index, 3))
    (hpre : ∀ vm₁, s.WarmedH vm₁ → Pre ⟨T.setVm vm₁, locs, cells, slots⟩ argsL.toArray) :
    (∃ (v : Option Value) (vm₁ : Vm) (B : Pt), s.WarmedH vm₁ ∧ Stand p l e R s m args below meth c B.U B.locs B.cells B.slots ∧ Post ⟨T.setVm vm₁, locs, cells, slots⟩ argsL.toArray v B ∧
      ∀ target, Steps p.tables e below (B.U.setTop { g with pc := g.pc + 3, stack := v.toList ++ rest }) target → Steps p.tables e below (T.setTop g) target) ∨
    (∃ (q : Addr) (vm₁ : Vm) (B : Pt), s.WarmedH vm₁ ∧ Stand p l e R s m args below meth c B.U B.locs B.cells B.slots ∧ PostX ⟨T.setVm vm₁, locs, cells, slots⟩ argsL.toArray q B ∧
      Steps p.tables e below (T.setTop g) ((B.U.setTop { g with stack := rest }).pushFrame (.throwing q))) := by
  obtain ⟨mk, hnamed⟩ := Cond.code_named hcode
  obtain ⟨methM, cM, hmethM, -, -, -, -, -, -, hsigM⟩ := Cond.code_spec hnamed hcode
  have hstatic : methM.isStatic = true := Cond.static_spec hnamed hmethM hstat
  obtain ⟨kP, hkP, -⟩ := className_of_methodNamed hnamed
  have hinitP : kP.init = .initialized := Cond.initialized_spec (findClass_of_methodNamed hnamed) hkP hinit
  obtain ⟨vm₁, X₁, hstep₁⟩ := X.invokestatic hexec hown hlink hnamed hmethM hstatic hkP hinitP hy (g := g) hg (argsL := argsL) (rest := rest) (hlen _ hsigM) hstack hdg
  rcases hK m meth c ⟨T.setVm vm₁, locs, cells, slots⟩ { g with stack := rest } (.invokestatic index) mk argsL.toArray X₁ hg hsize hdg hW (X₁.named hnamed) (hpre vm₁ X₁.warmed) with ⟨v, B, X', hpost, hsteps⟩ | ⟨q, B, X', hpost, hsteps⟩
  · exact Or.inl ⟨v, vm₁, B, X₁.warmed, X', hpost, fun target h => hstep₁ _ fun acts => by rw [doInvoke_state]; exact hsteps.trans h⟩
  · exact Or.inr ⟨q, vm₁, B, X₁.warmed, X', hpost, hstep₁ _ fun acts => by rw [doInvoke_state]; exact hsteps⟩
end Calls
theorem vx_cls {s : State} {T : State} {vm₁ : Vm} {E : String} {k : ClassId} (hW : s.WarmedH vm₁) (h : (T.setVm vm₁).vm.findClass E = some k) : s.vm.findClass E = some k := by
  have h1 : vm₁.findClass E = some k := h
  rw [hW.alike.findClass] at h1
  exact h1
/-- the method's frame g, with q thrown over it -/
def vx_W (p : Program) (l : Launch) (e : Env) (R : Room) (s : State) (m : MethodId) (args : Array Value) (below : List Frame) (meth : Method) (c : Code) (H : Heap) (locs : List Loc) (cells slots : Nat) (Q : State → Prop) (g : JFrame) (q : Addr) : Prop :=
  ∀ T : State, T.heap = H → Stand p l e R s m args below meth c T locs cells slots → ∃ t, Steps p.tables e below ((T.setTop g).pushFrame (.throwing q)) t ∧ Q t
def vx_Run (p : Program) (l : Launch) (e : Env) (R : Room) (s : State) (m : MethodId) (args : Array Value) (below : List Frame) (meth : Method) (c : Code) (H : Heap) (locs : List Loc) (cells slots mc ms : Nat) (g : JFrame) (rest : List Value) (Qa : State → Outcome → State → Prop) (XC : String → State → State → Prop) (free : Addr → Prop) : Prop :=
  ∀ T : State, T.heap = H → Stand p l e R s m args below meth c T locs cells slots →
    (∃ (v : Option Value) (st₀ t T' : State) (L : List Loc), st₀.heap = H ∧ Stand p l e R s m args below meth c T' (locs ++ L) (cells + mc) (slots + ms) ∧ (∀ q ∈ L, free q.base) ∧ T'.heap = t.heap ∧ T'.vm = t.vm ∧ Qa st₀ (.returned v) t ∧
      Goes p e below T g T' { g with pc := g.pc + 3, stack := v.toList ++ rest }) ∨
    (∃ (q : Addr) (st₀ t T' : State) (L : List Loc) (E : String) (ce : Cell), st₀.heap = H ∧ Stand p l e R s m args below meth c T' (locs ++ L) (cells + mc) (slots + ms) ∧ (∀ z ∈ L, free z.base) ∧ T'.heap = t.heap ∧ T'.vm = t.vm ∧ XC E st₀ t ∧ t.heap[q]? = some ce ∧ ce.vm = .none ∧ s.vm.findClass E = some ce.cls ∧
      Steps p.tables e below (T.setTop g) ((T'.setTop { g with stack := rest }).pushFrame (.throwing q)))
def vx_X {S : Type} (px : S → Prop) (B : String → S → State → Prop) (A : Nat → Prop) : String → State → State → Prop := fun E st t => ∃ u : S, px u ∧ B E u t ∧ va_F A st t
section Runs
variable {p : Program} {l : Launch} {e : Env} {R : Room} {s : State} {m : MethodId} {args : Array Value} {below : List Frame} {meth : Method} {c : Code} {H : Heap} {locs : List Loc} {cells slots : Nat}
variable {y : MethodName} {bytes cc : ByteArray} {maxL nL mc ms n index : Nat} {ret : Option FieldType} {ws : List Cond} {rm : Room} {Pc : Array Value → State → Prop} {Qc : Array Value → State → Outcome → State → Prop} {XC : String → State → State → Prop} {free : Addr → Prop} {Ts : List Cond} {own C : String} {b : Addr} {As rest : List Value} {g : JFrame}
theorem vx_callBack (cb : CallB R s args own index y bytes maxL ret ws rm mc ms n) (hM : vx_Met l y ws rm Pc Qc XC mc ms free) (hbl : FrameBlind Pc) : vx_Back l R p e below s args y 3 8 (PreOf R mc ms Pc) (PostOf Qc mc ms free) (vx_Post XC mc ms free) := by
  obtain ⟨hrc, hrs, hfr, hlo, hws, hcw, -, hini, -⟩ := cb
  exact vx_back (bytes := bytes) (maxL := maxL) (ret := ret) hM hbl hrc hrs hfr hlo hws hcw (fun a' U hW => word_at hW (Or.inl (by first | rfl | simp [Cond.onTables, Cond.keeps, Cond.steady])) hini)
theorem vx_runV (S : CallFix p m c cc nL s args Ts own) (hM : vx_Met l y ws rm Pc Qc XC mc ms free) (cw : CallW R s args own C index y bytes maxL ret ws rm mc ms n) (hp : PreV s H C b Pc As)
    (hg : g.method = m) (hn : As.length = n) (hsize : g.locals.size = nL) (hstack : g.stack = As.reverse ++ .ref b :: rest) (hW : 2 * g.monitorRoom + (rest.map fun v => v.category).sum ≤ 8) (hdg : decode cc g.pc = .ok (.invokevirtual index, 3)) (hf : cells + mc ≤ R.cells ∧ slots + ms ≤ R.slots) :
    vx_Run p l e R s m args below meth c H locs cells slots mc ms g rest (Qc (Value.ref b :: As).toArray) XC free := by
  have hK : vx_Back l R p e below s args y 3 8 (PreOf R mc ms Pc) (PostOf Qc mc ms free) (vx_Post XC mc ms free) := vx_callBack cw.1 hM hp.1
  obtain ⟨⟨-, -, -, -, -, -, hcode, -, hy, hlen, hl⟩, hin, hse⟩ := cw
  obtain ⟨hx, hb, hml, ho, -⟩ := S
  obtain ⟨-, ⟨cellB, hcB, hoB, hclB⟩, hPc⟩ := hp
  intro T hT X
  rcases vx_callV X hx (C := C) (bytes := bytes) (maxL := maxL) (ret := ret) ho hl hin hse hcode hy hK (by rw [hT]; exact hcB) hoB hclB hg (hsize.trans hml.symm) (argsL := As) (rest := rest) (fun sig h => hn.trans (hlen sig h)) hstack hW (by rw [hb]; exact hdg)
    (fun vm₁ hW₁ => ⟨hf.1, hf.2, hPc (T.setVm vm₁) hT hW₁⟩) with ⟨v, vm₁, ⟨U', l2, c2, s2⟩, hW₁, X', ⟨g', mk, t, L, e1, e2, hq, h1, hL, h2, h3⟩, st⟩ | ⟨q, vm₁, ⟨U', l2, c2, s2⟩, hW₁, X', ⟨g', mk, t, L, E, ce, e1, e2, hq, hce, hcv, hcl, h1, hL, h2, h3⟩, st⟩
  · dsimp only [Pt.U, Pt.locs, Pt.cells, Pt.slots] at X' e1 e2 h1 h2 h3 st
    subst h1; subst h2; subst h3
    exact Or.inl ⟨v, (T.setVm vm₁).calling g' mk (Value.ref b :: As).toArray, t, U', L, hT, X', hL, e1, e2, hq, st⟩
  · dsimp only [Pt.U, Pt.locs, Pt.cells, Pt.slots] at X' e1 e2 h1 h2 h3 st hcl
    subst h1; subst h2; subst h3
    exact Or.inr ⟨q, (T.setVm vm₁).calling g' mk (Value.ref b :: As).toArray, t, U', L, E, ce, hT, X', hL, e1, e2, hq, hce, hcv, vx_cls hW₁ hcl, st⟩
theorem vx_runS (S : CallFix p m c cc nL s args Ts own) (hM : vx_Met l y ws rm Pc Qc XC mc ms free) (cw : CallB R s args own index y bytes maxL ret ws rm mc ms n ∧ (Cond.static y).before args s = true) (hp : PreS s H Pc As)
    (hg : g.method = m) (hn : As.length = n) (hsize : g.locals.size = nL) (hstack : g.stack = As.reverse ++ rest) (hW : 2 * g.monitorRoom + (rest.map fun v => v.category).sum ≤ 8) (hdg : decode cc g.pc = .ok (.invokestatic index, 3)) (hf : cells + mc ≤ R.cells ∧ slots + ms ≤ R.slots) :
    vx_Run p l e R s m args below meth c H locs cells slots mc ms g rest (Qc As.toArray) XC free := by
  have hK : vx_Back l R p e below s args y 3 8 (PreOf R mc ms Pc) (PostOf Qc mc ms free) (vx_Post XC mc ms free) := vx_callBack cw.1 hM hp.1
  obtain ⟨⟨-, -, -, -, -, -, hcode, hini, hy, hlen, hl⟩, hstt⟩ := cw
  obtain ⟨hx, hb, hml, ho, -⟩ := S
  intro T hT X
  rcases vx_callS X hx (bytes := bytes) (maxL := maxL) (ret := ret) ho hl hstt hini hcode hy hK hg (hsize.trans hml.symm) (argsL := As) (rest := rest) (fun sig h => hn.trans (hlen sig h)) hstack hW (by rw [hb]; exact hdg)
    (fun vm₁ hW₁ => ⟨hf.1, hf.2, hp.2 (T.setVm vm₁) hT hW₁⟩) with ⟨v, vm₁, ⟨U', l2, c2, s2⟩, hW₁, X', ⟨g', mk, t, L, e1, e2, hq, h1, hL, h2, h3⟩, st⟩ | ⟨q, vm₁, ⟨U', l2, c2, s2⟩, hW₁, X', ⟨g', mk, t, L, E, ce, e1, e2, hq, hce, hcv, hcl, h1, hL, h2, h3⟩, st⟩
  · dsimp only [Pt.U, Pt.locs, Pt.cells, Pt.slots] at X' e1 e2 h1 h2 h3 st
    subst h1; subst h2; subst h3
    exact Or.inl ⟨v, (T.setVm vm₁).calling g' mk As.toArray, t, U', L, hT, X', hL, e1, e2, hq, st⟩
  · dsimp only [Pt.U, Pt.locs, Pt.cells, Pt.slots] at X' e1 e2 h1 h2 h3 st hcl
    subst h1; subst h2; subst h3
    exact Or.inr ⟨q, (T.setVm vm₁).calling g' mk As.toArray, t, U', L, E, ce, hT, X', hL, e1, e2, hq, hce, hcv, vx_cls hW₁ hcl, st⟩
end Runs
section Rows
variable {p : Program} {l : Launch} {e : Env} {R : Room} {s : State} {m : MethodId} {args : Array Value} {below : List Frame} {meth : Method} {c : Code} {H : Heap} {locs : List Loc} {cells slots : Nat} {Q : State → Prop}
variable {mc ms : Nat} {free : Addr → Prop} {A0 A1 : Nat → Prop} {H0 : Heap} {a : Array Value} {pc : Nat} {ls : Array Slot} {st0 rest : List Value}
theorem vx_keep {st₀ t T' : State} {L : List Loc} (h0 : st₀.heap = H) (e1 : T'.heap = t.heap) (hS : va_S A0 H0 H locs) (hA : ∀ q, q < H.size → A1 q → A0 q) (hf : ∀ q, free q → A0 q) (hL : ∀ q ∈ L, free q.base) (hF : va_F A1 st₀ t) :
    H.size ≤ T'.heap.size ∧ (∀ q : Nat, q < H.size → ¬ A1 q → T'.heap[q]? = H[q]?) ∧ va_S A0 H0 T'.heap (locs ++ L) := by
  obtain ⟨hz, hk⟩ := hF
  rw [h0] at hz hk
  exact ⟨by rw [e1]; exact hz, fun q h1 h2 => by rw [e1]; exact hk q h1 h2,
    ⟨Nat.le_trans hS.1 (by rw [e1]; exact hz), fun q h1 h2 => by rw [e1, hk q (Nat.lt_of_lt_of_le h1 hS.1) (fun z => h2 (hA q (Nat.lt_of_lt_of_le h1 hS.1) z))]; exact hS.2.1 q h1 h2, fun q hq => by
      rcases List.mem_append.mp hq with h | h
      · exact hS.2.2 q h
      · exact hf _ (hL q h)⟩⟩
theorem vx_calli {S SX : Type} {post : Int32 → S → Prop} {px : SX → Prop} {B : S → State → Prop} {BX : String → SX → State → Prop} {AX : Nat → Prop} (hr : vx_Run p l e R s m args below meth c H locs cells slots mc ms (F0 m pc ls st0) rest (va_Qi post B A1 a) (vx_X px BX AX) free) (hS : va_S A0 H0 H locs) (hA : ∀ q, q < H.size → A1 q → A0 q) (hf : ∀ q, free q → A0 q) (hAX : ∀ q, q < H.size → AX q → A0 q)
    (kx : ∀ (E : String) (ce : Cell) (q9 : Addr) (u : SX) (t : State) (H1 : Heap) (locs1 : List Loc), t.heap = H1 → s.vm.Alike t.vm → px u → BX E u t → H.size ≤ H1.size → (∀ q : Nat, q < H.size → ¬ AX q → H1[q]? = H[q]?) → va_S A0 H0 H1 locs1 → H1[q9]? = some ce → ce.vm = .none → s.vm.findClass E = some ce.cls → vx_W p l e R s m args below meth c H1 locs1 (cells + mc) (slots + ms) Q (F0 m pc ls rest) q9)
    (kk : ∀ (r : Int32) (u : S) (t : State) (H1 : Heap) (locs1 : List Loc), t.heap = H1 → s.vm.Alike t.vm → post r u → B u t → H.size ≤ H1.size → (∀ q : Nat, q < H.size → ¬ A1 q → H1[q]? = H[q]?) → va_S A0 H0 H1 locs1 → W p l e R s m args below meth c H1 locs1 (cells + mc) (slots + ms) Q (F0 m (pc + 3) ls (.int r :: rest))) : W p l e R s m args below meth c H locs cells slots Q (F0 m pc ls st0) := by
  intro T hT X
  rcases hr T hT X with ⟨v, st₀, t, T', L, h0, X', hL, e1, e2, ⟨⟨r, u, hv, hp, hb⟩, hF⟩, st⟩ | ⟨q, st₀, t, T', L, E, ce, h0, X', hL, e1, e2, ⟨u, hp, hb, hF⟩, hce, hcv, hcl, st⟩
  · cases hv
    obtain ⟨k1, k2, k3⟩ := vx_keep h0 e1 hS hA hf hL hF
    obtain ⟨t2, a1, b1⟩ := kk r u t T'.heap (locs ++ L) e1.symm (by rw [← e2]; exact X'.warmed.alike) hp hb k1 k2 k3 T' rfl X'
    exact ⟨t2, st t2 a1, b1⟩
  · obtain ⟨k1, k2, k3⟩ := vx_keep h0 e1 hS hAX hf hL hF
    obtain ⟨t2, a1, b1⟩ := kx E ce q u t T'.heap (locs ++ L) e1.symm (by rw [← e2]; exact X'.warmed.alike) hp hb k1 k2 k3 (by rw [e1]; exact hce) hcv hcl T' rfl X'
    exact ⟨t2, st.trans a1, b1⟩
theorem vx_calll {S SX : Type} {post : Int64 → S → Prop} {px : SX → Prop} {B : S → State → Prop} {BX : String → SX → State → Prop} {AX : Nat → Prop} (hr : vx_Run p l e R s m args below meth c H locs cells slots mc ms (F0 m pc ls st0) rest (va_Ql post B A1 a) (vx_X px BX AX) free) (hS : va_S A0 H0 H locs) (hA : ∀ q, q < H.size → A1 q → A0 q) (hf : ∀ q, free q → A0 q) (hAX : ∀ q, q < H.size → AX q → A0 q)
    (kx : ∀ (E : String) (ce : Cell) (q9 : Addr) (u : SX) (t : State) (H1 : Heap) (locs1 : List Loc), t.heap = H1 → s.vm.Alike t.vm → px u → BX E u t → H.size ≤ H1.size → (∀ q : Nat, q < H.size → ¬ AX q → H1[q]? = H[q]?) → va_S A0 H0 H1 locs1 → H1[q9]? = some ce → ce.vm = .none → s.vm.findClass E = some ce.cls → vx_W p l e R s m args below meth c H1 locs1 (cells + mc) (slots + ms) Q (F0 m pc ls rest) q9)
    (kk : ∀ (r : Int64) (u : S) (t : State) (H1 : Heap) (locs1 : List Loc), t.heap = H1 → s.vm.Alike t.vm → post r u → B u t → H.size ≤ H1.size → (∀ q : Nat, q < H.size → ¬ A1 q → H1[q]? = H[q]?) → va_S A0 H0 H1 locs1 → W p l e R s m args below meth c H1 locs1 (cells + mc) (slots + ms) Q (F0 m (pc + 3) ls (.long r :: rest))) : W p l e R s m args below meth c H locs cells slots Q (F0 m pc ls st0) := by
  intro T hT X
  rcases hr T hT X with ⟨v, st₀, t, T', L, h0, X', hL, e1, e2, ⟨⟨r, u, hv, hp, hb⟩, hF⟩, st⟩ | ⟨q, st₀, t, T', L, E, ce, h0, X', hL, e1, e2, ⟨u, hp, hb, hF⟩, hce, hcv, hcl, st⟩
  · cases hv
    obtain ⟨k1, k2, k3⟩ := vx_keep h0 e1 hS hA hf hL hF
    obtain ⟨t2, a1, b1⟩ := kk r u t T'.heap (locs ++ L) e1.symm (by rw [← e2]; exact X'.warmed.alike) hp hb k1 k2 k3 T' rfl X'
    exact ⟨t2, st t2 a1, b1⟩
  · obtain ⟨k1, k2, k3⟩ := vx_keep h0 e1 hS hAX hf hL hF
    obtain ⟨t2, a1, b1⟩ := kx E ce q u t T'.heap (locs ++ L) e1.symm (by rw [← e2]; exact X'.warmed.alike) hp hb k1 k2 k3 (by rw [e1]; exact hce) hcv hcl T' rfl X'
    exact ⟨t2, st.trans a1, b1⟩
theorem vx_callf {S SX : Type} {post : UInt32 → S → Prop} {px : SX → Prop} {B : S → State → Prop} {BX : String → SX → State → Prop} {AX : Nat → Prop} (hr : vx_Run p l e R s m args below meth c H locs cells slots mc ms (F0 m pc ls st0) rest (va_Qf post B A1 a) (vx_X px BX AX) free) (hS : va_S A0 H0 H locs) (hA : ∀ q, q < H.size → A1 q → A0 q) (hf : ∀ q, free q → A0 q) (hAX : ∀ q, q < H.size → AX q → A0 q)
    (kx : ∀ (E : String) (ce : Cell) (q9 : Addr) (u : SX) (t : State) (H1 : Heap) (locs1 : List Loc), t.heap = H1 → s.vm.Alike t.vm → px u → BX E u t → H.size ≤ H1.size → (∀ q : Nat, q < H.size → ¬ AX q → H1[q]? = H[q]?) → va_S A0 H0 H1 locs1 → H1[q9]? = some ce → ce.vm = .none → s.vm.findClass E = some ce.cls → vx_W p l e R s m args below meth c H1 locs1 (cells + mc) (slots + ms) Q (F0 m pc ls rest) q9)
    (kk : ∀ (r : UInt32) (u : S) (t : State) (H1 : Heap) (locs1 : List Loc), t.heap = H1 → s.vm.Alike t.vm → post r u → B u t → H.size ≤ H1.size → (∀ q : Nat, q < H.size → ¬ A1 q → H1[q]? = H[q]?) → va_S A0 H0 H1 locs1 → W p l e R s m args below meth c H1 locs1 (cells + mc) (slots + ms) Q (F0 m (pc + 3) ls (.float r :: rest))) : W p l e R s m args below meth c H locs cells slots Q (F0 m pc ls st0) := by
  intro T hT X
  rcases hr T hT X with ⟨v, st₀, t, T', L, h0, X', hL, e1, e2, ⟨⟨r, u, hv, hp, hb⟩, hF⟩, st⟩ | ⟨q, st₀, t, T', L, E, ce, h0, X', hL, e1, e2, ⟨u, hp, hb, hF⟩, hce, hcv, hcl, st⟩
  · cases hv
    obtain ⟨k1, k2, k3⟩ := vx_keep h0 e1 hS hA hf hL hF
    obtain ⟨t2, a1, b1⟩ := kk r u t T'.heap (locs ++ L) e1.symm (by rw [← e2]; exact X'.warmed.alike) hp hb k1 k2 k3 T' rfl X'
    exact ⟨t2, st t2 a1, b1⟩
  · obtain ⟨k1, k2, k3⟩ := vx_keep h0 e1 hS hAX hf hL hF
    obtain ⟨t2, a1, b1⟩ := kx E ce q u t T'.heap (locs ++ L) e1.symm (by rw [← e2]; exact X'.warmed.alike) hp hb k1 k2 k3 (by rw [e1]; exact hce) hcv hcl T' rfl X'
    exact ⟨t2, st.trans a1, b1⟩
theorem vx_calld {S SX : Type} {post : UInt64 → S → Prop} {px : SX → Prop} {B : S → State → Prop} {BX : String → SX → State → Prop} {AX : Nat → Prop} (hr : vx_Run p l e R s m args below meth c H locs cells slots mc ms (F0 m pc ls st0) rest (va_Qd post B A1 a) (vx_X px BX AX) free) (hS : va_S A0 H0 H locs) (hA : ∀ q, q < H.size → A1 q → A0 q) (hf : ∀ q, free q → A0 q) (hAX : ∀ q, q < H.size → AX q → A0 q)
    (kx : ∀ (E : String) (ce : Cell) (q9 : Addr) (u : SX) (t : State) (H1 : Heap) (locs1 : List Loc), t.heap = H1 → s.vm.Alike t.vm → px u → BX E u t → H.size ≤ H1.size → (∀ q : Nat, q < H.size → ¬ AX q → H1[q]? = H[q]?) → va_S A0 H0 H1 locs1 → H1[q9]? = some ce → ce.vm = .none → s.vm.findClass E = some ce.cls → vx_W p l e R s m args below meth c H1 locs1 (cells + mc) (slots + ms) Q (F0 m pc ls rest) q9)
    (kk : ∀ (r : UInt64) (u : S) (t : State) (H1 : Heap) (locs1 : List Loc), t.heap = H1 → s.vm.Alike t.vm → post r u → B u t → H.size ≤ H1.size → (∀ q : Nat, q < H.size → ¬ A1 q → H1[q]? = H[q]?) → va_S A0 H0 H1 locs1 → W p l e R s m args below meth c H1 locs1 (cells + mc) (slots + ms) Q (F0 m (pc + 3) ls (.double r :: rest))) : W p l e R s m args below meth c H locs cells slots Q (F0 m pc ls st0) := by
  intro T hT X
  rcases hr T hT X with ⟨v, st₀, t, T', L, h0, X', hL, e1, e2, ⟨⟨r, u, hv, hp, hb⟩, hF⟩, st⟩ | ⟨q, st₀, t, T', L, E, ce, h0, X', hL, e1, e2, ⟨u, hp, hb, hF⟩, hce, hcv, hcl, st⟩
  · cases hv
    obtain ⟨k1, k2, k3⟩ := vx_keep h0 e1 hS hA hf hL hF
    obtain ⟨t2, a1, b1⟩ := kk r u t T'.heap (locs ++ L) e1.symm (by rw [← e2]; exact X'.warmed.alike) hp hb k1 k2 k3 T' rfl X'
    exact ⟨t2, st t2 a1, b1⟩
  · obtain ⟨k1, k2, k3⟩ := vx_keep h0 e1 hS hAX hf hL hF
    obtain ⟨t2, a1, b1⟩ := kx E ce q u t T'.heap (locs ++ L) e1.symm (by rw [← e2]; exact X'.warmed.alike) hp hb k1 k2 k3 (by rw [e1]; exact hce) hcv hcl T' rfl X'
    exact ⟨t2, st.trans a1, b1⟩
theorem vx_callv {S SX : Type} {post : S → Prop} {px : SX → Prop} {B : S → State → Prop} {BX : String → SX → State → Prop} {AX : Nat → Prop} (hr : vx_Run p l e R s m args below meth c H locs cells slots mc ms (F0 m pc ls st0) rest (va_Qv post B A1 a) (vx_X px BX AX) free) (hS : va_S A0 H0 H locs) (hA : ∀ q, q < H.size → A1 q → A0 q) (hf : ∀ q, free q → A0 q) (hAX : ∀ q, q < H.size → AX q → A0 q)
    (kx : ∀ (E : String) (ce : Cell) (q9 : Addr) (u : SX) (t : State) (H1 : Heap) (locs1 : List Loc), t.heap = H1 → s.vm.Alike t.vm → px u → BX E u t → H.size ≤ H1.size → (∀ q : Nat, q < H.size → ¬ AX q → H1[q]? = H[q]?) → va_S A0 H0 H1 locs1 → H1[q9]? = some ce → ce.vm = .none → s.vm.findClass E = some ce.cls → vx_W p l e R s m args below meth c H1 locs1 (cells + mc) (slots + ms) Q (F0 m pc ls rest) q9)
    (kk : ∀ (u : S) (t : State) (H1 : Heap) (locs1 : List Loc), t.heap = H1 → s.vm.Alike t.vm → post u → B u t → H.size ≤ H1.size → (∀ q : Nat, q < H.size → ¬ A1 q → H1[q]? = H[q]?) → va_S A0 H0 H1 locs1 → W p l e R s m args below meth c H1 locs1 (cells + mc) (slots + ms) Q (F0 m (pc + 3) ls (rest))) : W p l e R s m args below meth c H locs cells slots Q (F0 m pc ls st0) := by
  intro T hT X
  rcases hr T hT X with ⟨v, st₀, t, T', L, h0, X', hL, e1, e2, ⟨⟨u, hv, hp, hb⟩, hF⟩, st⟩ | ⟨q, st₀, t, T', L, E, ce, h0, X', hL, e1, e2, ⟨u, hp, hb, hF⟩, hce, hcv, hcl, st⟩
  · cases hv
    obtain ⟨k1, k2, k3⟩ := vx_keep h0 e1 hS hA hf hL hF
    obtain ⟨t2, a1, b1⟩ := kk u t T'.heap (locs ++ L) e1.symm (by rw [← e2]; exact X'.warmed.alike) hp hb k1 k2 k3 T' rfl X'
    exact ⟨t2, st t2 a1, b1⟩
  · obtain ⟨k1, k2, k3⟩ := vx_keep h0 e1 hS hAX hf hL hF
    obtain ⟨t2, a1, b1⟩ := kx E ce q u t T'.heap (locs ++ L) e1.symm (by rw [← e2]; exact X'.warmed.alike) hp hb k1 k2 k3 (by rw [e1]; exact hce) hcv hcl T' rfl X'
    exact ⟨t2, st.trans a1, b1⟩
/-- caught by the row x of this method's table; the rows ahead don't take it -/
theorem vx_catch {own name : String} {E : String} {ce : Cell} {q : Addr} (hown : s.vm.findClass own = some m.cls) (pre : List ExceptionTableEntry) (x : ExceptionTableEntry) (suf : List ExceptionTableEntry) (hsplit : c.exceptionTable.toList = pre ++ x :: suf)
    (hpass : ∀ z ∈ pre, covers z pc = false ∨ (z.catchType ≠ 0 ∧ ∃ nm : String, (Cond.classLink own z.catchType nm).before args s = true ∧ va_Nc E nm s)) (hx : covers x pc = true) (h0 : x.catchType ≠ 0)
    (hlink : (Cond.classLink own x.catchType name).before args s = true) (hcast : (Cond.castable E name).before args s = true) (hcell : H[q]? = some ce) (hv : ce.vm = .none) (hcl : s.vm.findClass E = some ce.cls)
    (kk : W p l e R s m args below meth c H locs cells slots Q (F0 m x.handlerPc ls [.ref q])) : vx_W p l e R s m args below meth c H locs cells slots Q (F0 m pc ls rest) q := by
  intro T hT X
  have hpl : e.platform.magicAccessors = ({} : Platform).magicAccessors := by rw [X.admits.platform]
  obtain ⟨c3, c4, hc3, hc4, hasg⟩ := Cond.castable_spec hcast
  cases Option.some.inj (hc3.symm.trans hcl)
  obtain ⟨c5, hc5, hcl5⟩ := Cond.classLink_spec hown hlink e.platform hpl
  cases Option.some.inj (hc4.symm.trans hc5)
  obtain ⟨vm', X', st⟩ := Stand.thenCaughtThrough X q (g := F0 m pc ls rest) rfl (Steps.refl _) (by rw [hT]; exact hcell) (by rw [hv]; rfl) (by obtain ⟨k9, h9, -⟩ := Vm.findClass_spec hcl; exact ⟨k9, h9⟩) pre x suf hsplit
    (fun z hz => by
      rcases hpass z hz with h | ⟨hz0, nm, hl1, hn1⟩
      · exact Or.inl h
      · obtain ⟨c6, hc6, hcl6⟩ := Cond.classLink_spec hown hl1 e.platform hpl
        obtain ⟨a8, b8, h1, h2, h3⟩ := hn1
        cases Option.some.inj (h1.symm.trans hcl)
        cases Option.some.inj (h2.symm.trans hc6)
        exact Or.inr ⟨hz0, _, hcl6, h3⟩) hx (Or.inr ⟨h0, c4, hcl5, hasg⟩)
  obtain ⟨t, a1, b1⟩ := kk (T.setVm vm') hT X'
  exact ⟨t, st.trans a1, b1⟩
end Rows
section Ends
variable {p : Program} {l : Launch} {e : Env} {R : Room} {s : State} {m : MethodId} {args : Array Value} {below : List Frame} {meth : Method} {c : Code} {H : Heap} {locs : List Loc} {cells slots : Nat} {Q : State → Prop}
variable {mc ms : Nat} {free : Addr → Prop} {A0 A1 : Nat → Prop} {H0 : Heap} {a : Array Value} {ls : Array Slot} {st0 rest : List Value}
variable {Qc : Array Value → State → Outcome → State → Prop} {XC : String → State → State → Prop}
/-- what a body that may throw owes at its end -/
def vx_MQ (below : List Frame) (Qc : Array Value → State → Outcome → State → Prop) (XC : String → State → State → Prop) (a : Array Value) (s : State) (mc ms : Nat) (free : Addr → Prop) : State → Prop := fun t =>
  ∃ o, t.status = .running ∧ Ended t below o ∧ vx_Q Qc XC mc ms free a s o t
theorem vx_ret {g : JFrame} {mc ms : Nat} (k : W p l e R s m args below meth c H locs cells slots (MQ below Qc args s mc ms free) g) : W p l e R s m args below meth c H locs cells slots (vx_MQ below Qc XC args s mc ms free) g := by
  intro T hT X
  obtain ⟨t, a1, o, b1, b2, b3, b4⟩ := k T hT X
  exact ⟨t, a1, o, b1, b2, Or.inl ⟨b3, b4⟩⟩
/-- not caught here: it goes on to the caller -/
theorem vx_widen {g : JFrame} {q : Addr} {k n : Nat} (h1 : cells ≤ k) (h2 : slots ≤ n) (kk : vx_W p l e R s m args below meth c H locs k n Q g q) : vx_W p l e R s m args below meth c H locs cells slots Q g q := fun T hT X => kk T hT (stand_widen X h1 h2)
theorem vx_out {pc : Nat} {E : String} {ce : Cell} {q : Addr} {mc ms : Nat} (hout : ∀ x ∈ c.exceptionTable.toList, covers x pc = false) (hlocks : meth.locks = false) (hcell : H[q]? = some ce) (hv : ce.vm = .none) (hcl : s.vm.findClass E = some ce.cls)
    (hx : ∀ t : State, t.heap = H → s.vm.Alike t.vm → XC E s t) (hf : ∀ z ∈ locs, free z.base) (hc : cells ≤ mc) (hs : slots ≤ ms) :
    vx_W p l e R s m args below meth c H locs cells slots (vx_MQ below Qc XC args s mc ms free) (F0 m pc ls rest) q := by
  intro T hT X
  obtain ⟨st1, hrun, hend, hW, hsm⟩ := X.leaveThrown q (g := F0 m pc ls rest) rfl rfl rfl hout hlocks
  have hcell9 : (T.setFrames (.throwing q :: below)).heap[q]? = some ce := by
    show T.heap[q]? = some ce
    rw [hT]; exact hcell
  exact ⟨_, st1, .threw q, hrun, hend, Or.inr ⟨q, rfl, E, ce, locs, hx _ hT hW.alike, hcell9, hv, hcl, hW, hsm.mono hc hs, hf⟩⟩
theorem vx_frame {U : State} {k n : Nat} (h : s.sameButNew ({ U with vm := s.vm } : State) locs k n) : s.heap.size ≤ U.heap.size ∧ ∀ q : Nat, q < s.heap.size → (∀ z ∈ locs, z.base ≠ q) → U.heap[q]? = s.heap[q]? := by
  obtain ⟨-, h2, -, -, -, h6⟩ := h
  refine ⟨h2, fun q hq hz => ?_⟩
  obtain ⟨c9, e1, e2, e3, e4⟩ := h6 q _ (Array.getElem?_eq_getElem hq)
  have hs : c9.slots = (s.heap[q]).slots := Array.ext_getElem? fun i => e4 i fun hm => hz _ hm rfl
  have h9 : c9 = s.heap[q] := by
    rw [hs] at e2
    exact e2
  have e5 : U.heap[q]? = some c9 := e1
  rw [e5, h9, Array.getElem?_eq_getElem hq]
/-- the words of a throw but the four that speak of the heap -/
def vx_no (w : Cond) : Bool := decide (w ≠ .isRef (.static Bundle.tN "UNASSIGNED_STACK" Bundle.steD)) && decide (w ≠ .isRef (.static Bundle.tN "SUPPRESSED_SENTINEL" Bundle.listD)) && decide (w ≠ .laysStatic Bundle.tN "UNASSIGNED_STACK" Bundle.steD) && decide (w ≠ .laysStatic Bundle.tN "SUPPRESSED_SENTINEL" Bundle.listD)
def vx_at0 (own : String) (ic : Nat) (X : String) (names : List String) : List Cond := (Bundle.ownAtoms0 own ic X names).filter vx_no
def vx_atS (own : String) (ic : Nat) (X : String) (names : List String) : List Cond := (Bundle.ownAtoms own ic X names).filter vx_no
/-- a word that the tables alone decide, or a good one -/
def vx_ot (w : Cond) : Bool := w.onTables || goodWord w
theorem vx_ot_at {args a' : Array Value} {s U : State} {w : Cond} (hW : s.WarmedH U.vm) (hvm : s.vm = U.vm) (hg : vx_ot w = true) (h : w.before args s = true) : w.before a' U = true := by
  simp only [vx_ot, Bool.or_eq_true] at hg
  rcases hg with hg | hg
  · exact va_tabs hg hvm h
  · exact word_at hW (good_of_word hg) h
/-- a list's words: the good ones out of the method's own list, the others by premises of their own -/
theorem vx_hat {args : Array Value} {s : State} {L B : List Cond} (h1 : ∀ w ∈ L.filter goodWord, w.before args s = true) (h2 : ∀ w ∈ L.filter (fun w => !goodWord w), w ∈ B) (h3 : ∀ w ∈ B, w.before args s = true) : ∀ w ∈ L, w.before args s = true := by
  intro w hw
  by_cases g : goodWord w = true
  · exact h1 w (List.mem_filter.mpr ⟨hw, g⟩)
  · refine h3 w (h2 w (List.mem_filter.mpr ⟨hw, ?_⟩))
    show (!goodWord w) = true
    cases hgw : goodWord w
    · rfl
    · exact absurd hgw g
theorem vx_c {args : Array Value} {s : State} {w : Cond} {B : List Cond} (h : w.before args s = true) (t : ∀ w ∈ B, w.before args s = true) : ∀ w' ∈ w :: B, w'.before args s = true := fun w' h' => (List.mem_cons.mp h').elim (fun e => by rw [e]; exact h) (t w')
theorem vx_n {args : Array Value} {s : State} : ∀ w ∈ ([] : List Cond), w.before args s = true := fun _ h => nomatch h
theorem vx_own {args : Array Value} {s : State} {L : List Cond} (h1 : ∀ w ∈ L.filter vx_no, w.before args s = true)
    (hU : (Cond.isRef (.static Bundle.tN "UNASSIGNED_STACK" Bundle.steD)).before args s = true) (hN : (Cond.isRef (.static Bundle.tN "SUPPRESSED_SENTINEL" Bundle.listD)).before args s = true)
    (lU : (Cond.laysStatic Bundle.tN "UNASSIGNED_STACK" Bundle.steD).before args s = true) (lN : (Cond.laysStatic Bundle.tN "SUPPRESSED_SENTINEL" Bundle.listD).before args s = true) : ∀ w ∈ L, w.before args s = true := by
  intro w hw
  by_cases e1 : w = .isRef (.static Bundle.tN "UNASSIGNED_STACK" Bundle.steD)
  · rw [e1]; exact hU
  · by_cases e2 : w = .isRef (.static Bundle.tN "SUPPRESSED_SENTINEL" Bundle.listD)
    · rw [e2]; exact hN
    · by_cases e3 : w = .laysStatic Bundle.tN "UNASSIGNED_STACK" Bundle.steD
      · rw [e3]; exact lU
      · by_cases e4 : w = .laysStatic Bundle.tN "SUPPRESSED_SENTINEL" Bundle.listD
        · rw [e4]; exact lN
        · exact h1 w (List.mem_filter.mpr ⟨hw, by unfold vx_no; rw [decide_eq_true e1, decide_eq_true e2, decide_eq_true e3, decide_eq_true e4]; rfl⟩)
/-- where a static field lies, its class's statics cell in H -/
def vx_L (C n d : String) (A : Nat → Prop) (U : State) (H : Heap) : Prop := ∃ (c : ClassId) (k : Class) (i : Nat) (f : Field) (a : Nat) (cell : Cell), U.vm.findClass C = some c ∧ U.fieldFound? C n d = some (c, k, i, f) ∧ f.isStatic = true ∧ k.statics = some a ∧ H[a]? = some cell ∧ cell.vm.isStatics = true ∧ cell.cls = c ∧ f.slot < cell.slots.size ∧ k.staticTypes[f.slot]? = some f.type ∧ ¬ A a
theorem vx_L.moved {C n d : String} {A : Nat → Prop} {u U : State} {H : Heap} (hvm : u.vm.Alike U.vm) (h : vx_L C n d A u H) : vx_L C n d A U H := by
  obtain ⟨c, k, i, f, a, cell, h1, h2, h3, h4, h5, h6, h7, h8, h9, h10⟩ := h
  obtain ⟨k', hi', he⟩ := State.fieldFound?_setVm hvm h2
  exact ⟨c, k', i, f, a, cell, by rw [hvm.findClass]; exact h1, hi', h3, by rw [he]; exact h4, h5, h6, h7, h8, by rw [he]; exact h9, h10⟩
theorem vx_L.kept {C n d : String} {A : Nat → Prop} {U : State} {H H1 : Heap} (h : vx_L C n d A U H) (hq : ∀ a : Nat, a < H.size → ¬ A a → H1[a]? = H[a]?) : vx_L C n d A U H1 := by
  obtain ⟨c, k, i, f, a, cell, h1, h2, h3, h4, h5, h6, h7, h8, h9, h10⟩ := h
  exact ⟨c, k, i, f, a, cell, h1, h2, h3, h4, by rw [hq a (Array.getElem?_eq_some_iff.mp h5).1 h10]; exact h5, h6, h7, h8, h9, h10⟩
theorem vx_L.narrow {C n d : String} {A B : Nat → Prop} {U : State} {H : Heap} (h : vx_L C n d A U H) (hAB : ∀ q, B q → A q) : vx_L C n d B U H := by
  obtain ⟨c, k, i, f, a, cell, h1, h2, h3, h4, h5, h6, h7, h8, h9, h10⟩ := h
  exact ⟨c, k, i, f, a, cell, h1, h2, h3, h4, h5, h6, h7, h8, h9, fun z => h10 (hAB _ z)⟩
theorem vx_L.word {C n d : String} {A : Nat → Prop} {s : State} {args : Array Value} (h : vx_L C n d A s s.heap) : (Cond.laysStatic C n d).before args s = true := by
  obtain ⟨c, k, i, f, a, cell, h1, h2, h3, h4, h5, h6, h7, h8, h9, -⟩ := h
  show (Cond.laysStatic C n d).holds args s none s [] = true
  exact Cond.laysStatic_of h1 h2 h3 h4 h5 h6 h7 h8 h9
/-- .. and what it holds: null or some reference -/
def vx_Zq (C n d : String) (A : Nat → Prop) (U : State) (H : Heap) : Prop := va_Zq C n d A U H ∧ vx_L C n d A U H
theorem vx_Zq.moved {C n d : String} {A : Nat → Prop} {u U : State} {H : Heap} (hvm : u.vm.Alike U.vm) (h : vx_Zq C n d A u H) : vx_Zq C n d A U H := ⟨va_Zq.moved hvm h.1, vx_L.moved hvm h.2⟩
theorem vx_Zq.kept {C n d : String} {A : Nat → Prop} {U : State} {H H1 : Heap} (h : vx_Zq C n d A U H) (hq : ∀ a : Nat, a < H.size → ¬ A a → H1[a]? = H[a]?) : vx_Zq C n d A U H1 := ⟨va_Zq.kept h.1 hq, vx_L.kept h.2 hq⟩
theorem vx_Zq.narrow {C n d : String} {A B : Nat → Prop} {U : State} {H : Heap} (h : vx_Zq C n d A U H) (hAB : ∀ q, B q → A q) : vx_Zq C n d B U H := ⟨va_Zq.narrow h.1 hAB, vx_L.narrow h.2 hAB⟩
theorem vx_Zqof {args : Array Value} {s : State} {C n d : String} {A : Nat → Prop} (hl : (Cond.laysStatic C n d).before args s = true) (hini : (Cond.initialized C).before args s = true) (h : (Cond.isRef (.static C n d)).before args s = true) (hA : ∀ a : Nat, a < s.heap.size → ¬ A a) : vx_Zq C n d A s s.heap := by
  refine ⟨va_Zqof hl hini h hA, ?_⟩
  obtain ⟨c, k, i, f, a, cell, h1, h2, h3, h4, h5, h6, h7, h8, h9⟩ := Cond.laysStatic_spec hl
  exact ⟨c, k, i, f, a, cell, h1, h2, h3, h4, h5, h6, h7, h8, h9, hA a (Array.getElem?_eq_some_iff.mp h5).1⟩
theorem vx_isRef {C n d : String} {v : Value} {A : Nat → Prop} {s : State} {args : Array Value} (h : va_Z C n d v A s s.heap) (hv : v.isRef = true) : (Cond.isRef (.static C n d)).before args s = true := by
  obtain ⟨cf, kf, fi, f, a, cell, h1, h2, h3, h4, h5, h6, h7, -⟩ := h
  have he : (Term.static C n d).eval args s none [] s = some v := by
    simp [Term.eval, State.fieldNamed?, h1, h2, h4, h5, h6, h7]
  simp only [Cond.before, Cond.holds, Cond.value, he]
  cases v <;> simp_all [Value.isRef]
theorem vx_isRefq {C n d : String} {A : Nat → Prop} {s : State} {args : Array Value} (h : va_Zq C n d A s s.heap) : (Cond.isRef (.static C n d)).before args s = true := by
  rcases h with h | ⟨t, h⟩
  · exact vx_isRef h rfl
  · exact vx_isRef h rfl
/-- the same frame, seen from here: as if the method were called anew in this heap -/
theorem vx_rebase {T : State} (X : Stand p l e R s m args below meth c T locs cells slots) {R' : Room} (hf : R'.frames ≤ R.frames) (hl : R'.locals ≤ R.locals) (hc : cells + R'.cells ≤ R.cells) (hs : slots + R'.slots ≤ R.slots) :
    Stand p l e R' ((T.setVm s.vm).setFrames (.invoking m args :: below)) m args below meth c T [] 0 0 := by
  have htop : (T.setVm s.vm).topJava?.isSome := X.here.top
  have hF : ((T.setVm s.vm).setFrames (.invoking m args :: below)).frames = .invoking m args :: below := State.frames_setFrames _ (State.cur_lt_of_top htop)
  obtain ⟨g₀, hg0⟩ := Option.isSome_iff_exists.mp htop
  obtain ⟨r, hr⟩ := State.topJava?_eq_some.mp hg0
  have hl9 : e.platform.stackLimits (T.setVm s.vm).me = e.platform.stackLimits s.me := X.limits
  have hb9 : (T.setVm s.vm).me.stackBytes = s.me.stackBytes := X.bytes
  refine ⟨X.admits, X.cas, X.clock, hF, ?_, X.hears, X.method, X.code, X.here, X.tail, X.warmed, ?_, ?_, ?_⟩
  · have h := X.room
    have hU : ((T.setVm s.vm).setFrames (.invoking m args :: below)).localsInUse = s.localsInUse := by
      rw [State.localsInUse_invoking hF (meth := meth) (c := c) X.method X.code, State.localsInUse_invoking X.frames X.method X.code]
    simp only [State.hasRoom, Bool.and_eq_true, decide_eq_true_eq] at h ⊢
    obtain ⟨⟨⟨⟨h1, h2, h3, h4, h5, h6⟩, h7⟩, h8⟩, h9⟩ := h
    rw [X.frames, List.length_cons] at h2 h3
    have q1 := X.heapSize
    have q2 := X.used
    simp only [hF, hU, List.length_cons, State.stackLimits_setFrames, State.stackBytes_setFrames, hl9, hb9]
    refine ⟨⟨⟨⟨by omega, by omega, by omega, by omega, by omega, h6⟩, ?_⟩, ?_⟩, X.book⟩
    · show T.heap.size + R'.cells ≤ e.platform.maxCells
      omega
    · show T.slotsUsed + R'.slots ≤ e.platform.maxSlots
      omega
  · rw [State.stackLimits_setFrames]; rfl
  · rw [State.stackBytes_setFrames]; rfl
  · refine ⟨?_, Nat.le_refl _, Nat.le_refl _, ?_, ?_, fun a c9 h9 => ⟨c9, h9, rfl, rfl, fun _ _ => rfl⟩⟩
    · obtain ⟨t, ht, -⟩ := State.frames_cons hr
      show T.setVm s.vm = { ((T.setVm s.vm).setFrames (.invoking m args :: below)).setFrames (T.setVm s.vm).frames with heap := T.heap, slotsUsed := T.slotsUsed }
      rw [State.setFrames_setFrames, State.setFrames_self ht]
      rfl
    · show T.slotsUsed = T.slotsUsed + ((T.heap.toList.drop T.heap.size).map (·.slots.size)).sum
      rw [List.drop_eq_nil_of_le (Nat.le_of_eq Array.length_toList)]
      rfl
    · show ((T.heap.toList.drop T.heap.size).map (·.slots.size)).sum ≤ 0
      rw [List.drop_eq_nil_of_le (Nat.le_of_eq Array.length_toList)]
      exact Nat.le_refl _
/-- 'throw new E()': new; dup; invokespecial; athrow -/
theorem vx_throw0 {cc : ByteArray} {pc : Nat} (hexec : p.tables.exec = Jvm.exec) (hb : c.code = cc) (hl : l.stackTraces = false) {own cls : String} {names : List String} {ik ic mc ms : Nat} {A : Nat → Prop}
    (hown : s.vm.findClass own = some m.cls) (hcls : Bundle.fit cls = true) (hnames : ∀ n ∈ names, Bundle.fit n = true)
    (hk : (Cond.classLink own ik cls).before args s = true) (hini : (Cond.initialized cls).before args s = true) (hat : ∀ w ∈ vx_at0 own ic cls names, w.before args s = true)
    (hgood : ∀ w ∈ Cond.classLink own ik cls :: Cond.initialized cls :: vx_at0 own ic cls names, vx_ot w = true)
    (hU : vx_Zq Bundle.tN "UNASSIGNED_STACK" Bundle.steD A s s.heap) (hN : vx_Zq Bundle.tN "SUPPRESSED_SENTINEL" Bundle.listD A s s.heap) (hS : va_S A s.heap H locs) (hsize : ls.size = c.maxLocals)
    (d0 : decode cc pc = .ok (.new ik, 3)) (d3 : decode cc (pc + 3) = .ok (.dup, 1)) (d4 : decode cc (pc + 4) = .ok (.invokespecial ic, 3)) (d7 : decode cc (pc + 7) = .ok (.athrow, 1))
    (hout : ∀ x ∈ c.exceptionTable.toList, covers x (pc + 7) = false)
    (hRframes : names.length + 3 < R.frames) (hRlocals : (rest.map fun v => v.category).sum + (13 * (names.length + 1) + 42) ≤ R.locals) (hRcells : cells + 1 ≤ R.cells) (hRslots : slots + 6 ≤ R.slots) (hlocks : meth.locks = false)
    (hx : ∀ t : State, s.vm.Alike t.vm → H.size ≤ t.heap.size → (∀ q : Nat, q < H.size → t.heap[q]? = H[q]?) → XC cls s t)
    (hf : ∀ z ∈ locs, free z.base) (hc : cells + 1 ≤ mc) (hs : slots + 6 ≤ ms) :
    W p l e R s m args below meth c H locs cells slots (vx_MQ below Qc XC args s mc ms free) (F0 m pc ls rest) := by
  intro T hT X
  have htr : e.platform.stackTraces = false := (show e.platform.stackTraces = l.stackTraces by rw [X.admits.platform]).trans hl
  have Y := vx_rebase X (R' := { frames := R.frames, locals := R.locals, cells := 1, slots := 6 }) (Nat.le_refl _) (Nat.le_refl _) hRcells hRslots
  obtain ⟨s', hA⟩ : ∃ z, z = (T.setVm s.vm).setFrames (.invoking m args :: below) := ⟨_, rfl⟩
  rw [← hA] at Y
  have hvm : s'.vm = s.vm := by rw [hA]; rfl
  have hhp : s'.heap = H := by rw [hA]; exact hT
  have hW0 : s.WarmedH s'.vm := by rw [hvm]; exact State.WarmedH.refl s
  have hat' : ∀ w ∈ vx_at0 own ic cls names, w.before args s' = true := fun w hw => vx_ot_at hW0 hvm.symm (hgood w (List.mem_cons_of_mem _ (List.mem_cons_of_mem _ hw))) (hat w hw)
  have hk' : (Cond.classLink own ik cls).before args s' = true := vx_ot_at hW0 hvm.symm (hgood _ List.mem_cons_self) hk
  have hini' : (Cond.initialized cls).before args s' = true := vx_ot_at hW0 hvm.symm (hgood _ (List.mem_cons_of_mem _ List.mem_cons_self)) hini
  have hU' : vx_Zq Bundle.tN "UNASSIGNED_STACK" Bundle.steD A s' s'.heap := by rw [hhp]; exact vx_Zq.moved hW0.alike (hU.kept hS.2.1)
  have hN' : vx_Zq Bundle.tN "SUPPRESSED_SENTINEL" Bundle.listD A s' s'.heap := by rw [hhp]; exact vx_Zq.moved hW0.alike (hN.kept hS.2.1)
  have h : ∀ w ∈ Bundle.ownAtoms0 own ic cls names, w.before args s' = true := vx_own hat' (vx_isRefq hU'.1) (vx_isRefq hN'.1) hU'.2.word hN'.2.word
  have hown' : s'.vm.findClass own = some m.cls := by rw [hvm]; exact hown
  have hins : (Cond.instantiable cls 6).before args s' = true := h _ (by simp [Bundle.ownAtoms0])
  obtain ⟨vm₁, cX, kX, hfX, hkX, -, -, X₁, st1⟩ := Y.newCold hexec (own := own) (C := cls) (index := ik) (n := 6) hown' hk' hins hini'
    (g := F0 m pc ls rest) rfl (by rw [hb]; exact d0) (Nat.le_refl _) (Nat.le_refl _)
  generalize hT1 : (T.setVm vm₁).pushCell { cls := cX, slots := kX.instanceTypes.map defaultValue, vm := .none } = T1 at X₁ st1
  have hcat : (Value.ref T.heap.size).category = 1 := rfl
  have hcellA : T1.heap[T.heap.size]? = some (freshCell cX kX) := by rw [← hT1]; exact State.heap_pushCell_size _ _
  have d3' : decode c.code (pc + 3) = .ok (.dup, 1) := by rw [hb]; exact d3
  obtain ⟨U, hsteps, hrun, hend, hW, hsame, ce, hce, hO⟩ := X₁.ctorThrow0 hexec htr (own := own) (cls := cls) (names := names) (ic := ic) hown' hcls hnames h (fun x hx => nomatch hx) hfX hkX hcellA (by rw [hhp, hT]; exact Nat.le_refl _)
    (g := { method := m, pc := pc + 4, locals := ls, stack := .ref T.heap.size :: .ref T.heap.size :: rest, locked := none }) rfl hsize rfl rfl (rest := rest) rfl
    (by rw [hb]; exact d4) (by rw [hb]; exact d7) hout hRframes (by simp only [List.map_cons, List.sum_cons, hcat]; omega) hlocks
  obtain ⟨f1, f2⟩ := vx_frame hsame
  rw [hhp] at f1 f2
  have hWs : s.WarmedH U.vm := State.WarmedH.trans hW0 hW
  have hcl : s.vm.findClass cls = some ce.cls := by
    have h9 := hO.cls
    rw [hvm] at h9
    exact h9
  have hall : s.sameButNew ({ U with vm := s.vm } : State) locs mc ms := by
    subst hA
    obtain ⟨e1, e2⟩ := hsame
    rw [State.setFrames_setFrames] at e1
    have h2 : (T.setVm s.vm).sameButNew ({ U with vm := s.vm } : State) [] (0 + 1) (0 + 6) := ⟨e1, e2⟩
    have h3 := X.same.trans h2
    rw [List.append_nil] at h3
    exact h3.mono hc hs
  refine ⟨U, ?_, .threw T.heap.size, hrun, hend, Or.inr ⟨T.heap.size, rfl, cls, ce, locs, hx U hWs.alike f1 (fun q hq => f2 q hq (fun z hz => nomatch hz)), hce, hO.vm, hcl, hWs, hall, hf⟩⟩
  refine st1 _ ?_
  show Steps p.tables e below (T1.setTop { method := m, pc := pc + 3, locals := ls, stack := .ref T.heap.size :: rest, locked := none }) _
  jvm_step X₁.here [X₁.here.top, hexec, d3', Value.category]
  exact hsteps
/-- 'throw new E("text")': new; dup; ldc; invokespecial; athrow -/
theorem vx_throwS {cc : ByteArray} {pc : Nat} (hexec : p.tables.exec = Jvm.exec) (hb : c.code = cc) (hl : l.stackTraces = false) {own cls text : String} {names : List String} {ik is ic mc ms sa : Nat} {A : Nat → Prop}
    (hown : s.vm.findClass own = some m.cls) (hcls : Bundle.fit cls = true) (hnames : ∀ n ∈ names, Bundle.fit n = true)
    (hk : (Cond.classLink own ik cls).before args s = true) (hini : (Cond.initialized cls).before args s = true) (hstr : vk_R own is text sa s) (hat : ∀ w ∈ vx_atS own ic cls names, w.before args s = true)
    (hgood : ∀ w ∈ Cond.classLink own ik cls :: Cond.initialized cls :: vx_atS own ic cls names, vx_ot w = true)
    (hU : vx_Zq Bundle.tN "UNASSIGNED_STACK" Bundle.steD A s s.heap) (hN : vx_Zq Bundle.tN "SUPPRESSED_SENTINEL" Bundle.listD A s s.heap) (hS : va_S A s.heap H locs) (hsize : ls.size = c.maxLocals)
    (d0 : decode cc pc = .ok (.new ik, 3)) (d3 : decode cc (pc + 3) = .ok (.dup, 1)) (d4 : decode cc (pc + 4) = .ok (.ldc is, 2)) (d6 : decode cc (pc + 6) = .ok (.invokespecial ic, 3)) (d9 : decode cc (pc + 9) = .ok (.athrow, 1))
    (hout : ∀ x ∈ c.exceptionTable.toList, covers x (pc + 9) = false)
    (hRframes : names.length + 3 < R.frames) (hRlocals : (rest.map fun v => v.category).sum + (13 * (names.length + 1) + 43) ≤ R.locals) (hRcells : cells + 1 ≤ R.cells) (hRslots : slots + 6 ≤ R.slots) (hlocks : meth.locks = false)
    (hx : ∀ t : State, s.vm.Alike t.vm → H.size ≤ t.heap.size → (∀ q : Nat, q < H.size → t.heap[q]? = H[q]?) → XC cls s t)
    (hf : ∀ z ∈ locs, free z.base) (hc : cells + 1 ≤ mc) (hs : slots + 6 ≤ ms) :
    W p l e R s m args below meth c H locs cells slots (vx_MQ below Qc XC args s mc ms free) (F0 m pc ls rest) := by
  intro T hT X
  have htr : e.platform.stackTraces = false := (show e.platform.stackTraces = l.stackTraces by rw [X.admits.platform]).trans hl
  have Y := vx_rebase X (R' := { frames := R.frames, locals := R.locals, cells := 1, slots := 6 }) (Nat.le_refl _) (Nat.le_refl _) hRcells hRslots
  obtain ⟨s', hA⟩ : ∃ z, z = (T.setVm s.vm).setFrames (.invoking m args :: below) := ⟨_, rfl⟩
  rw [← hA] at Y
  have hvm : s'.vm = s.vm := by rw [hA]; rfl
  have hhp : s'.heap = H := by rw [hA]; exact hT
  have hW0 : s.WarmedH s'.vm := by rw [hvm]; exact State.WarmedH.refl s
  have hat' : ∀ w ∈ vx_atS own ic cls names, w.before args s' = true := fun w hw => vx_ot_at hW0 hvm.symm (hgood w (List.mem_cons_of_mem _ (List.mem_cons_of_mem _ hw))) (hat w hw)
  have hk' : (Cond.classLink own ik cls).before args s' = true := vx_ot_at hW0 hvm.symm (hgood _ List.mem_cons_self) hk
  have hini' : (Cond.initialized cls).before args s' = true := vx_ot_at hW0 hvm.symm (hgood _ (List.mem_cons_of_mem _ List.mem_cons_self)) hini
  have hU' : vx_Zq Bundle.tN "UNASSIGNED_STACK" Bundle.steD A s' s'.heap := by rw [hhp]; exact vx_Zq.moved hW0.alike (hU.kept hS.2.1)
  have hN' : vx_Zq Bundle.tN "SUPPRESSED_SENTINEL" Bundle.listD A s' s'.heap := by rw [hhp]; exact vx_Zq.moved hW0.alike (hN.kept hS.2.1)
  have h : ∀ w ∈ Bundle.ownAtoms own ic cls names, w.before args s' = true := vx_own hat' (vx_isRefq hU'.1) (vx_isRefq hN'.1) hU'.2.word hN'.2.word
  have hown' : s'.vm.findClass own = some m.cls := by rw [hvm]; exact hown
  have hins : (Cond.instantiable cls 6).before args s' = true := h _ (by simp [Bundle.ownAtoms])
  obtain ⟨vm₁, cX, kX, hfX, hkX, -, -, X₁, st1⟩ := Y.newCold hexec (own := own) (C := cls) (index := ik) (n := 6) hown' hk' hins hini'
    (g := F0 m pc ls rest) rfl (by rw [hb]; exact d0) (Nat.le_refl _) (Nat.le_refl _)
  generalize hT1 : (T.setVm vm₁).pushCell { cls := cX, slots := kX.instanceTypes.map defaultValue, vm := .none } = T1 at X₁ st1
  have hcat : (Value.ref T.heap.size).category = 1 := rfl
  have hcellA : T1.heap[T.heap.size]? = some (freshCell cX kX) := by rw [← hT1]; exact State.heap_pushCell_size _ _
  have d3' : decode c.code (pc + 3) = .ok (.dup, 1) := by rw [hb]; exact d3
  have d4' : decode c.code (pc + 4) = .ok (.ldc is, 2) := by rw [hb]; exact d4
  have hstr' : vk_R own is text sa s' := vk_R.warm hW0 hstr
  obtain ⟨U, hsteps, hrun, hend, hW, hsame, ce, hce, hO⟩ := X₁.ctorThrowS hexec htr (own := own) (cls := cls) (names := names) (ic := ic) hown' hcls hnames h (fun x hx => nomatch hx) hfX hkX hcellA (by rw [hhp, hT]; exact Nat.le_refl _) (msg := .ref sa) rfl
    (g := { method := m, pc := pc + 6, locals := ls, stack := .ref sa :: .ref T.heap.size :: .ref T.heap.size :: rest, locked := none }) rfl hsize rfl rfl (rest := rest) rfl
    (by rw [hb]; exact d6) (by rw [hb]; exact d9) hout hRframes (by simp only [List.map_cons, List.sum_cons, hcat]; omega) hlocks
  obtain ⟨f1, f2⟩ := vx_frame hsame
  rw [hhp] at f1 f2
  have hWs : s.WarmedH U.vm := State.WarmedH.trans hW0 hW
  have hcl : s.vm.findClass cls = some ce.cls := by
    have h9 := hO.cls
    rw [hvm] at h9
    exact h9
  have hall : s.sameButNew ({ U with vm := s.vm } : State) locs mc ms := by
    subst hA
    obtain ⟨e1, e2⟩ := hsame
    rw [State.setFrames_setFrames] at e1
    have h2 : (T.setVm s.vm).sameButNew ({ U with vm := s.vm } : State) [] (0 + 1) (0 + 6) := ⟨e1, e2⟩
    have h3 := X.same.trans h2
    rw [List.append_nil] at h3
    exact h3.mono hc hs
  refine ⟨U, ?_, .threw T.heap.size, hrun, hend, Or.inr ⟨T.heap.size, rfl, cls, ce, locs, hx U hWs.alike f1 (fun q hq => f2 q hq (fun z hz => nomatch hz)), hce, hO.vm, hcl, hWs, hall, hf⟩⟩
  refine st1 _ ?_
  show Steps p.tables e below (T1.setTop { method := m, pc := pc + 3, locals := ls, stack := .ref T.heap.size :: rest, locked := none }) _
  jvm_step X₁.here [X₁.here.top, hexec, d3', Value.category]
  exact X₁.ldcString hexec (own := own) (text := text) (index := is) (a := sa) hown' hstr'.1 hstr'.2
    (g := { method := m, pc := pc + 4, locals := ls, stack := .ref T.heap.size :: .ref T.heap.size :: rest, locked := none }) rfl d4' _ hsteps
/-- 'throw new E("text")', the text by a wide index -/
theorem vx_throwSW {cc : ByteArray} {pc : Nat} (hexec : p.tables.exec = Jvm.exec) (hb : c.code = cc) (hl : l.stackTraces = false) {own cls text : String} {names : List String} {ik is ic mc ms sa : Nat} {A : Nat → Prop}
    (hown : s.vm.findClass own = some m.cls) (hcls : Bundle.fit cls = true) (hnames : ∀ n ∈ names, Bundle.fit n = true)
    (hk : (Cond.classLink own ik cls).before args s = true) (hini : (Cond.initialized cls).before args s = true) (hstr : vk_R own is text sa s) (hat : ∀ w ∈ vx_atS own ic cls names, w.before args s = true)
    (hgood : ∀ w ∈ Cond.classLink own ik cls :: Cond.initialized cls :: vx_atS own ic cls names, vx_ot w = true)
    (hU : vx_Zq Bundle.tN "UNASSIGNED_STACK" Bundle.steD A s s.heap) (hN : vx_Zq Bundle.tN "SUPPRESSED_SENTINEL" Bundle.listD A s s.heap) (hS : va_S A s.heap H locs) (hsize : ls.size = c.maxLocals)
    (d0 : decode cc pc = .ok (.new ik, 3)) (d3 : decode cc (pc + 3) = .ok (.dup, 1)) (d4 : decode cc (pc + 4) = .ok (.ldc_w is, 3)) (d7 : decode cc (pc + 7) = .ok (.invokespecial ic, 3)) (d10 : decode cc (pc + 10) = .ok (.athrow, 1))
    (hout : ∀ x ∈ c.exceptionTable.toList, covers x (pc + 10) = false)
    (hRframes : names.length + 3 < R.frames) (hRlocals : (rest.map fun v => v.category).sum + (13 * (names.length + 1) + 43) ≤ R.locals) (hRcells : cells + 1 ≤ R.cells) (hRslots : slots + 6 ≤ R.slots) (hlocks : meth.locks = false)
    (hx : ∀ t : State, s.vm.Alike t.vm → H.size ≤ t.heap.size → (∀ q : Nat, q < H.size → t.heap[q]? = H[q]?) → XC cls s t)
    (hf : ∀ z ∈ locs, free z.base) (hc : cells + 1 ≤ mc) (hs : slots + 6 ≤ ms) :
    W p l e R s m args below meth c H locs cells slots (vx_MQ below Qc XC args s mc ms free) (F0 m pc ls rest) := by
  intro T hT X
  have htr : e.platform.stackTraces = false := (show e.platform.stackTraces = l.stackTraces by rw [X.admits.platform]).trans hl
  have Y := vx_rebase X (R' := { frames := R.frames, locals := R.locals, cells := 1, slots := 6 }) (Nat.le_refl _) (Nat.le_refl _) hRcells hRslots
  obtain ⟨s', hA⟩ : ∃ z, z = (T.setVm s.vm).setFrames (.invoking m args :: below) := ⟨_, rfl⟩
  rw [← hA] at Y
  have hvm : s'.vm = s.vm := by rw [hA]; rfl
  have hhp : s'.heap = H := by rw [hA]; exact hT
  have hW0 : s.WarmedH s'.vm := by rw [hvm]; exact State.WarmedH.refl s
  have hat' : ∀ w ∈ vx_atS own ic cls names, w.before args s' = true := fun w hw => vx_ot_at hW0 hvm.symm (hgood w (List.mem_cons_of_mem _ (List.mem_cons_of_mem _ hw))) (hat w hw)
  have hk' : (Cond.classLink own ik cls).before args s' = true := vx_ot_at hW0 hvm.symm (hgood _ List.mem_cons_self) hk
  have hini' : (Cond.initialized cls).before args s' = true := vx_ot_at hW0 hvm.symm (hgood _ (List.mem_cons_of_mem _ List.mem_cons_self)) hini
  have hU' : vx_Zq Bundle.tN "UNASSIGNED_STACK" Bundle.steD A s' s'.heap := by rw [hhp]; exact vx_Zq.moved hW0.alike (hU.kept hS.2.1)
  have hN' : vx_Zq Bundle.tN "SUPPRESSED_SENTINEL" Bundle.listD A s' s'.heap := by rw [hhp]; exact vx_Zq.moved hW0.alike (hN.kept hS.2.1)
  have h : ∀ w ∈ Bundle.ownAtoms own ic cls names, w.before args s' = true := vx_own hat' (vx_isRefq hU'.1) (vx_isRefq hN'.1) hU'.2.word hN'.2.word
  have hown' : s'.vm.findClass own = some m.cls := by rw [hvm]; exact hown
  have hins : (Cond.instantiable cls 6).before args s' = true := h _ (by simp [Bundle.ownAtoms])
  obtain ⟨vm₁, cX, kX, hfX, hkX, -, -, X₁, st1⟩ := Y.newCold hexec (own := own) (C := cls) (index := ik) (n := 6) hown' hk' hins hini'
    (g := F0 m pc ls rest) rfl (by rw [hb]; exact d0) (Nat.le_refl _) (Nat.le_refl _)
  generalize hT1 : (T.setVm vm₁).pushCell { cls := cX, slots := kX.instanceTypes.map defaultValue, vm := .none } = T1 at X₁ st1
  have hcat : (Value.ref T.heap.size).category = 1 := rfl
  have hcellA : T1.heap[T.heap.size]? = some (freshCell cX kX) := by rw [← hT1]; exact State.heap_pushCell_size _ _
  have d3' : decode c.code (pc + 3) = .ok (.dup, 1) := by rw [hb]; exact d3
  have d4' : decode c.code (pc + 4) = .ok (.ldc_w is, 3) := by rw [hb]; exact d4
  have hstr' : vk_R own is text sa s' := vk_R.warm hW0 hstr
  obtain ⟨U, hsteps, hrun, hend, hW, hsame, ce, hce, hO⟩ := X₁.ctorThrowS hexec htr (own := own) (cls := cls) (names := names) (ic := ic) hown' hcls hnames h (fun x hx => nomatch hx) hfX hkX hcellA (by rw [hhp, hT]; exact Nat.le_refl _) (msg := .ref sa) rfl
    (g := { method := m, pc := pc + 7, locals := ls, stack := .ref sa :: .ref T.heap.size :: .ref T.heap.size :: rest, locked := none }) rfl hsize rfl rfl (rest := rest) rfl
    (by rw [hb]; exact d7) (by rw [hb]; exact d10) hout hRframes (by simp only [List.map_cons, List.sum_cons, hcat]; omega) hlocks
  obtain ⟨f1, f2⟩ := vx_frame hsame
  rw [hhp] at f1 f2
  have hWs : s.WarmedH U.vm := State.WarmedH.trans hW0 hW
  have hcl : s.vm.findClass cls = some ce.cls := by
    have h9 := hO.cls
    rw [hvm] at h9
    exact h9
  have hall : s.sameButNew ({ U with vm := s.vm } : State) locs mc ms := by
    subst hA
    obtain ⟨e1, e2⟩ := hsame
    rw [State.setFrames_setFrames] at e1
    have h2 : (T.setVm s.vm).sameButNew ({ U with vm := s.vm } : State) [] (0 + 1) (0 + 6) := ⟨e1, e2⟩
    have h3 := X.same.trans h2
    rw [List.append_nil] at h3
    exact h3.mono hc hs
  refine ⟨U, ?_, .threw T.heap.size, hrun, hend, Or.inr ⟨T.heap.size, rfl, cls, ce, locs, hx U hWs.alike f1 (fun q hq => f2 q hq (fun z hz => nomatch hz)), hce, hO.vm, hcl, hWs, hall, hf⟩⟩
  refine st1 _ ?_
  show Steps p.tables e below (T1.setTop { method := m, pc := pc + 3, locals := ls, stack := .ref T.heap.size :: rest, locked := none }) _
  jvm_step X₁.here [X₁.here.top, hexec, d3', Value.category]
  exact X₁.ldcStringW hexec (own := own) (text := text) (index := is) (a := sa) hown' hstr'.1 hstr'.2
    (g := { method := m, pc := pc + 4, locals := ls, stack := .ref T.heap.size :: .ref T.heap.size :: rest, locked := none }) rfl d4' _ hsteps
end Ends
section Bodies
variable {l : Launch}
theorem vx_ofW {y : MethodName} {ws ws' : List Cond} {rm : Room} {Pc : Array Value → State → Prop} {Qc : Array Value → State → Outcome → State → Prop} {XC : String → State → State → Prop} {mc ms : Nat} {free : Addr → Prop} {cc : ByteArray} {maxL : Nat} {ret : Option FieldType}
    (hy : plainName y.cls = true) (hw : ws = Cond.code y cc maxL ret :: ws')
    (body : ∀ p e s m args below meth c s₁, BodyLoose p l y (headSpec ws rm) cc maxL ret e s m args below meth c s₁ → c.maxLocals = maxL → (∀ x ∈ c.exceptionTable.toList, False) → Pc args s →
      W p l e (headSpec ws rm).room s m args below meth c s.heap [] 0 0 (vx_MQ below Qc XC args s mc ms free) (entryFrame m args maxL)) : vx_Met l y ws rm Pc Qc XC mc ms free := by
  refine MetFree.of_bodyS (code := cc) (maxLocals := maxL) (ret := ret) hy ?_ ?_
  · intro args s m h hn
    obtain ⟨meth, c, h1, h2, h3, h4, h5, h6, -, -⟩ := Cond.code_spec hn (atoms_spec (ws := ws) h _ (by rw [hw]; exact List.mem_cons_self))
    exact ⟨meth, c, h1, h2, h3, h4, h5, h6⟩
  · intro p e s m args below meth c s₁ B hml hP _
    have hh0 : s₁.heap = s.heap := by rw [B.state]; rfl
    have ht : ∀ x ∈ c.exceptionTable.toList, False := by
      obtain ⟨meth9, c9, h1, h2, -, -, -, -, h7, -⟩ := Cond.code_spec B.named (atoms_spec (ws := ws) B.pre _ (by rw [hw]; exact List.mem_cons_self))
      cases Option.some.inj (h1.symm.trans B.method)
      cases Option.some.inj (h2.symm.trans (Stand.of_body B).code)
      intro x hx
      rw [Array.isEmpty_iff.mp h7] at hx
      cases hx
    obtain ⟨t, a1, o, b1, b2, b3⟩ := body p e s m args below meth c s₁ B hml ht hP s₁ hh0 (Stand.of_body B)
    exact ⟨t, o, a1, b1, b2, b3⟩
/-- the table of a body with handlers -/
theorem vx_table {p : Program} {x y : MethodName} {S : Spec} {cc bytes : ByteArray} {maxL maxL' : Nat} {ret ret' : Option FieldType} {e : Env} {s s₁ : State} {m : MethodId} {args : Array Value} {below : List Frame} {meth : Method} {c : Code} {hh : List (Nat × Nat × Nat × Nat)}
    (B : BodyLoose p l y S cc maxL ret e s m args below meth c s₁) (h : (Cond.codeWith y bytes maxL' ret' hh).before args s = true) : c.exceptionTable.toList = tableOf hh := by
  obtain ⟨m9, meth9, c9, hn9, h1, h2, -, -, h6, -⟩ := Cond.codeWith_spec h
  cases Option.some.inj (hn9.symm.trans B.named)
  cases Option.some.inj (h1.symm.trans B.method)
  cases Option.some.inj (h2.symm.trans (Stand.of_body B).code)
  rw [← h6, table_eq]
end Bodies
end VXA
section VXS
variable {p : Program} {l : Launch} {e : Env} {R : Room} {s : State} {m : MethodId} {args : Array Value} {below : List Frame} {meth : Method} {c : Code} {T : State} {H : Heap} {locs : List Loc} {cells slots : Nat}
abbrev vx_CSW (R : Room) (s : State) (args : Array Value) (own : String) (index : Nat) (y : MethodName) (bytes : ByteArray) (maxL : Nat) (ret : Option FieldType) (hh : List (Nat × Nat × Nat × Nat)) (ws : List Cond) (rm : Room) (mc ms n : Nat) : Prop :=
  (rm.cells = mc ∧ rm.slots = ms ∧ rm.frames + 1 ≤ R.frames ∧ 8 + (maxL + 11) + rm.locals ≤ R.locals ∧ (∀ w ∈ ws, ∀ (a' : Array Value) (U : State), s.WarmedH U.vm → w.before a' U = true) ∧ Cond.codeWith y bytes maxL ret hh ∈ ws) ∧
  (Cond.codeWith y bytes maxL ret hh).before args s = true ∧ (Cond.initialized y.cls).before args s = true ∧ (y.cls ≠ "java/lang/invoke/MethodHandle" ∧ y.cls ≠ "java/lang/invoke/VarHandle") ∧
  (∀ sig, parseMethodDescriptor y.desc = some sig → n = sig.parameters.length) ∧ (Cond.methodLink own index y).before args s = true ∧ (Cond.static y).before args s = true
theorem vx_cwSW {own : String} {index maxL mc ms : Nat} {y : MethodName} {bytes : ByteArray} {ret : Option FieldType} {hh : List (Nat × Nat × Nat × Nat)} {Ts ws ws' : List Cond} {rm : Room} (n : Nat) (ht : ∀ w ∈ Ts, w.before args s = true) (hT : GoodIn Ts (va_wsS own index y ws)) (hw : ws = Cond.codeWith y bytes maxL ret hh :: ws') (hrc : rm.cells = mc) (hrs : rm.slots = ms)
    (hd : y.cls ≠ "java/lang/invoke/MethodHandle" ∧ y.cls ≠ "java/lang/invoke/VarHandle" ∧ (parseMethodDescriptor y.desc).map (fun d => d.parameters.length) = some n) (hR : rm.frames + 1 ≤ R.frames ∧ 8 + (maxL + 11) + rm.locals ≤ R.locals) :
    vx_CSW R s args own index y bytes maxL ret hh ws rm mc ms n := by
  have ok : ∀ w ∈ va_wsS own index y ws, w.before args s = true := fun w h => ht w (hT w h).1
  have hG : GoodIn Ts ws := fun w h => hT w (by unfold va_wsS; exact List.mem_append_right _ h)
  have hc : Cond.codeWith y bytes maxL ret hh ∈ ws := by rw [hw]; exact List.mem_cons_self
  refine ⟨⟨hrc, hrs, hR.1, hR.2, pay_in ht hG, hc⟩, ht _ (hG _ hc).1, ok _ (by simp [va_wsS]), ⟨hd.1, hd.2.1⟩, fun sig h => ?_, ok _ (by simp [va_wsS]), ok _ (by simp [va_wsS])⟩
  have h2 := hd.2.2
  rw [h] at h2
  exact (Option.some.inj h2).symm
theorem vx_callSW (X : Stand p l e R s m args below meth c T locs cells slots) (hexec : p.tables.exec = Jvm.exec) {own : String} {index : Nat} {y : MethodName} {bytes : ByteArray} {maxL : Nat} {ret : Option FieldType} {hh : List (Nat × Nat × Nat × Nat)}
    (hown : s.vm.findClass own = some m.cls) (hlink : (Cond.methodLink own index y).before args s = true) (hstat : (Cond.static y).before args s = true) (hinit : (Cond.initialized y.cls).before args s = true)
    (hcode : (Cond.codeWith y bytes maxL ret hh).before args s = true) (hy : y.cls ≠ "java/lang/invoke/MethodHandle" ∧ y.cls ≠ "java/lang/invoke/VarHandle")
    {W9 : Nat} {Pre : Pt → Array Value → Prop} {Post : Pt → Array Value → Option Value → Pt → Prop} (hK : Back l R p e below s args y 3 W9 Pre Post)
    {g : JFrame} (hg : g.method = m) (hsize : g.locals.size = c.maxLocals) {argsL rest : List Value} (hlen : ∀ sig, parseMethodDescriptor y.desc = some sig → argsL.length = sig.parameters.length)
    (hstack : g.stack = argsL.reverse ++ rest) (hW : 2 * g.monitorRoom + (rest.map fun v => v.category).sum ≤ W9) (hdg : decode c.code g.pc = .ok (.invokestatic index, 3))
    (hpre : ∀ vm₁, s.WarmedH vm₁ → Pre ⟨T.setVm vm₁, locs, cells, slots⟩ argsL.toArray) :
    ∃ (v : Option Value) (vm₁ : Vm) (B : Pt), s.WarmedH vm₁ ∧ Stand p l e R s m args below meth c B.U B.locs B.cells B.slots ∧ Post ⟨T.setVm vm₁, locs, cells, slots⟩ argsL.toArray v B ∧
      ∀ target, Steps p.tables e below (B.U.setTop { g with pc := g.pc + 3, stack := v.toList ++ rest }) target → Steps p.tables e below (T.setTop g) target := by
  obtain ⟨mk, methM, cM, hnamed, hmethM, -, -, -, -, -, -, hsigM⟩ := Cond.codeWith_spec hcode
  have hstatic : methM.isStatic = true := Cond.static_spec hnamed hmethM hstat
  obtain ⟨kP, hkP, -⟩ := className_of_methodNamed hnamed
  have hinitP : kP.init = .initialized := Cond.initialized_spec (findClass_of_methodNamed hnamed) hkP hinit
  obtain ⟨vm₁, X₁, hstep₁⟩ := X.invokestatic hexec hown hlink hnamed hmethM hstatic hkP hinitP hy (g := g) hg (argsL := argsL) (rest := rest) (hlen _ hsigM) hstack hdg
  obtain ⟨v, B, X', hpost, hsteps⟩ := hK m meth c ⟨T.setVm vm₁, locs, cells, slots⟩ { g with stack := rest } (.invokestatic index) mk argsL.toArray X₁ hg hsize hdg hW (X₁.named hnamed) (hpre vm₁ X₁.warmed)
  exact ⟨v, vm₁, B, X₁.warmed, X', hpost, fun target h => hstep₁ _ fun acts => by rw [doInvoke_state]; exact hsteps.trans h⟩
theorem vx_runSW {y : MethodName} {bytes cc : ByteArray} {maxL nL mc ms n index : Nat} {ret : Option FieldType} {hh : List (Nat × Nat × Nat × Nat)} {ws : List Cond} {rm : Room} {Pc : Array Value → State → Prop} {Qc : Array Value → State → Outcome → State → Prop} {free : Addr → Prop} {Ts : List Cond} {own : String} {As rest : List Value} {g : JFrame}
    (S : CallFix p m c cc nL s args Ts own) (hM : Met l y ws rm Pc Qc mc ms free) (cw : vx_CSW R s args own index y bytes maxL ret hh ws rm mc ms n) (hp : PreS s H Pc As)
    (hg : g.method = m) (hn : As.length = n) (hsize : g.locals.size = nL) (hstack : g.stack = As.reverse ++ rest) (hW : 2 * g.monitorRoom + (rest.map fun v => v.category).sum ≤ 8) (hdg : decode cc g.pc = .ok (.invokestatic index, 3)) (hf : cells + mc ≤ R.cells ∧ slots + ms ≤ R.slots) :
    va_Run p l e R s m args below meth c H locs cells slots mc ms g rest (Qc As.toArray) (free) := by
  obtain ⟨⟨hrc, hrs, hfr, hlo, hws, hcw⟩, hcode, hini, hy, hlen, hl, hstt⟩ := cw
  have hK : Back l R p e below s args y 3 8 (PreOf R mc ms Pc) (PostOf Qc mc ms free) := va_backW (hh := hh) (bytes := bytes) (maxL := maxL) (ret := ret) hM hp.1 hrc hrs hfr hlo hws hcw (fun a' U hW => word_at hW (Or.inl (by first | rfl | simp [Cond.onTables, Cond.keeps, Cond.steady])) hini)
  obtain ⟨hx, hb, hml, ho, -⟩ := S
  intro T hT X
  obtain ⟨v, vm₁, ⟨U', l2, c2, s2⟩, hW₁, X', ⟨g', mk, t, L, e1, e2, hq, h1, hL, h2, h3⟩, st⟩ := vx_callSW X hx (hh := hh) (bytes := bytes) (maxL := maxL) (ret := ret) ho hl hstt hini hcode hy hK hg (hsize.trans hml.symm) (argsL := As) (rest := rest) (fun sig h => hn.trans (hlen sig h)) hstack hW (by rw [hb]; exact hdg)
    (fun vm₁ hW₁ => ⟨hf.1, hf.2, hp.2 (T.setVm vm₁) hT hW₁⟩)
  dsimp only [Pt.U, Pt.locs, Pt.cells, Pt.slots] at X' e1 e2 h1 h2 h3 st
  subst h1; subst h2; subst h3
  exact ⟨v, (T.setVm vm₁).calling g' mk As.toArray, t, U', L, hT, X', hL, e1, e2, hq, st⟩
/-- a thing of a world lies in the heap -/
theorem vx_lt {D : va_G} {cl : List vw_C} {ws : va_W} {H1 : Heap} (h : va_P D cl ws H1) {k : Nat} {q : Nat × va_E} (hk : ws[k]? = some q) : q.1 < H1.size := (h k q hk).lt
end VXS
end
section
theorem jm_cok_all : (List.range 13).all jm_cok = true := by decide +kernel
end
section
/-! each step of the Int machine is a step of the Java machine -/
def jm_Gx (ad : Nat → Nat) (U : State) (H : Heap) : Prop := vx_Zq Bundle.tN "UNASSIGNED_STACK" Bundle.steD (jm_A ad) U H ∧ vx_Zq Bundle.tN "SUPPRESSED_SENTINEL" Bundle.listD (jm_A ad) U H ∧ (∀ a b : String, Cond.castable a b ∈ lw_tbl → va_Nw (.castable a b) U) ∧ (∀ x : MethodName, Cond.declares x ∈ lw_tbl → va_Nw (.declares x) U)
def jm_G (D : va_G) (aC : Nat → ClassId) (ad : Nat → Nat) (fmt : Value) (sc : List Int) (U : State) (H : Heap) : Prop :=
  va_K D g_cl (jm_tys aC) U ∧
  vk_S g_strs.length (g_str.map List.length) (g_str.map (List.map Int32.ofInt)) (fun k => ad (10 + 2 * k)) (fun k => ad (11 + 2 * k)) (jm_A ad) U H ∧
  (∀ k : Nat, k < g_strs.length → vk_R (jm_str k).1 (jm_str k).2.1 (jm_str k).2.2 (ad (10 + 2 * k)) U) ∧
  va_Z "java/lang/String" "COMPACT_STRINGS" "Z" (.int 1) (jm_A ad) U H ∧
  va_Z "jdk/internal/util/Preconditions" "SIOOBE_FORMATTER" "Ljava/util/function/BiFunction;" fmt (jm_A ad) U H ∧
  va_Z "RideLaws$Plan" "MOST_OF" "[I" (.ref (ad 1)) (jm_A ad) U H ∧
  va_T .int (ad 1) g_most.length (fun j => .int (Int32.ofInt (g_most.getD j 0))) (jm_A ad) U H ∧
  va_X (ad 2) sc.length (fun j => Int32.ofInt (sc.getD j 0)) U H ∧ ad 2 < ad 0 ∧ ad 0 ≤ H.size ∧
  (∀ (a : String) (k : Nat) (y : MethodName) (b : String), Cond.methodLinkNest a k y b ∈ lw_tbl → va_Nw (.methodLinkNest a k y b) U) ∧
  (va_AO "RideLaws$State" U ∧ jm_Gx ad U H) ∧ (fmt = .null ∨ ∃ a : Nat, fmt = .ref a)
def jm_Rel (D : va_G) (aC : Nat → ClassId) (ad : Nat → Nat) (fmt : Value) (s : State) (nL c0 s0 x0 : Nat) (L : jm_L) (h : jm_H) (ls : Array Slot) (H : Heap) (locs : List Loc) (cells slots : Nat) : Prop :=
  lv_has ls nL (jm_ls ad fmt L) ∧ va_P D g_cl (jm_ws aC ad fmt h.1) H ∧ va_S (jm_A ad) s.heap H locs ∧ x0 ≤ h.2 ∧ c0 + cells = jm_cn h ∧ s0 + slots = jm_sl h
def jm_hh (m : Nat) : List (Nat × Nat × Nat × Nat) := (g_hh.find? (fun q => q.1 == m)).elim [] (fun q => q.2)
def jm_Cx (p : Program) (R : Room) (s : State) (mi : MethodId) (args : Array Value) (meth : Method) (c : Code) (D : va_G) (aC : Nat → ClassId) (ad : Nat → Nat) (fmt : Value) (sc : List Int) (m c0 x0 : Nat) : Prop :=
  p.tables.exec = Jvm.exec ∧ c.code = (g_m m).2.1 ∧ c.maxLocals = (g_m m).2.2.1 ∧ s.vm.findClass (g_m m).1.cls = some mi.cls ∧ (∀ w ∈ jm_W, w.before args s = true) ∧ jm_G D aC ad fmt sc s s.heap ∧ meth.name = (g_m m).1.name ∧ 1 ≤ R.frames ∧ 60 ≤ R.locals ∧ (x0 = 0 → s.heap.size = ad 0 + c0) ∧ c.exceptionTable.toList = tableOf (jm_hh m)
theorem jm_fc {fmt : Value} (h : fmt = .null ∨ ∃ a : Nat, fmt = .ref a) : fmt.category = 1 := by
  rcases h with rfl | ⟨a, rfl⟩ <;> rfl
section
variable {p : Program} {l : Launch} {e : Env} {R : Room} {s : State} {mi : MethodId} {args : Array Value} {below : List Frame} {meth : Method} {c : Code} {Q : State → Prop}
variable {D : va_G} {aC : Nat → ClassId} {ad : Nat → Nat} {fmt : Value} {sc : List Int} {m c0 s0 x0 : Nat}
variable {pc pc' : Nat} {L L' : jm_L} {S S' : List jm_V} {h h' : jm_H} {ls : Array Slot} {H : Heap} {locs : List Loc} {cells slots : Nat}
def jm_Nx (p : Program) (l : Launch) (e : Env) (R : Room) (s : State) (mi : MethodId) (args : Array Value) (below : List Frame) (meth : Method) (c : Code) (Q : State → Prop) (D : va_G) (aC : Nat → ClassId) (ad : Nat → Nat) (fmt : Value) (nL c0 s0 x0 pc' : Nat) (L' : jm_L) (S' : List jm_V) (h' : jm_H) : Prop :=
  ∀ (ls' : Array Slot) (H' : Heap) (locs' : List Loc) (cells' slots' : Nat), jm_Rel D aC ad fmt s nL c0 s0 x0 L' h' ls' H' locs' cells' slots' → W p l e R s mi args below meth c H' locs' cells' slots' Q (F0 mi pc' ls' (S'.map (jm_cv ad fmt)))
theorem jm_s0 {a : Int} {b d : Nat} (C : jm_Cx p R s mi args meth c D aC ad fmt sc m c0 x0) (rel : jm_Rel D aC ad fmt s (g_m m).2.2.1 c0 s0 x0 L h ls H locs cells slots) (hok : jm_ok1 (g_lnk m pc) (g_m m).1 (g_m m).2.1 (g_m m).2.2.1 pc (0, a, b, d) = true)
    (nx : jm_Nx p l e R s mi args below meth c Q D aC ad fmt (g_m m).2.2.1 c0 s0 x0 (pc + d) L ((0, a) :: S) h) : W p l e R s mi args below meth c H locs cells slots Q (F0 mi pc ls (S.map (jm_cv ad fmt))) := by
  obtain ⟨hx, hb, hml, hown, hts, hG, hnm, hfr, hlo⟩ := C
  match b, hok with
  | 0, hok =>
    simp only [jm_ok1, Bool.and_eq_true, decide_eq_true_eq] at hok
    obtain ⟨h1, rfl⟩ := hok
    exact lv_iconst hx hb (jm_dc_eq h1) rfl (nx ls H locs cells slots rel)
  | 1, hok =>
    simp only [jm_ok1, Bool.and_eq_true, decide_eq_true_eq] at hok
    obtain ⟨⟨h1, rfl⟩, h2⟩ := hok
    exact lv_bipush hx hb (jm_dc_eq h1) h2 (nx ls H locs cells slots rel)
  | 2, hok =>
    simp only [jm_ok1, Bool.and_eq_true, decide_eq_true_eq] at hok
    obtain ⟨⟨h1, rfl⟩, h2⟩ := hok
    exact lv_sipush hx hb (jm_dc_eq h1) h2 (nx ls H locs cells slots rel)
  | 3, hok =>
    simp only [jm_ok1, Bool.and_eq_true, decide_eq_true_eq] at hok
    obtain ⟨⟨h1, rfl⟩, h2⟩ := hok
    exact lv_ldc hx hb hown (hts _ (jm_w_in h2)) (jm_dc_eq h1) (nx ls H locs cells slots rel)
  | b + 4, hok =>
    simp only [jm_ok1, Bool.and_eq_true, decide_eq_true_eq] at hok
    obtain ⟨⟨h1, rfl⟩, h2⟩ := hok
    exact lv_ldcw hx hb hown (hts _ (jm_w_in h2)) (jm_dc_eq h1) (nx ls H locs cells slots rel)
theorem jm_s1 {a : Int} {b d : Nat} (C : jm_Cx p R s mi args meth c D aC ad fmt sc m c0 x0) (rel : jm_Rel D aC ad fmt s (g_m m).2.2.1 c0 s0 x0 L h ls H locs cells slots) (hok : jm_ok1 (g_lnk m pc) (g_m m).1 (g_m m).2.1 (g_m m).2.2.1 pc (1, a, b, d) = true)
    (nx : jm_Nx p l e R s mi args below meth c Q D aC ad fmt (g_m m).2.2.1 c0 s0 x0 (pc + d) L ((1, a) :: S) h) : W p l e R s mi args below meth c H locs cells slots Q (F0 mi pc ls (S.map (jm_cv ad fmt))) := by
  obtain ⟨hx, hb, hml, hown, hts, hG, hnm, hfr, hlo⟩ := C
  match b, hok with
  | 0, hok =>
    simp only [jm_ok1, Bool.and_eq_true, decide_eq_true_eq] at hok
    obtain ⟨h1, rfl⟩ := hok
    split at h1
    · rename_i ha
      subst ha
      exact lv_lconst hx hb (jm_dc_eq h1) rfl (nx ls H locs cells slots rel)
    · simp only [Bool.and_eq_true, decide_eq_true_eq] at h1
      obtain ⟨h1, rfl⟩ := h1
      exact lv_lconst hx hb (jm_dc_eq h1) rfl (nx ls H locs cells slots rel)
  | b + 1, hok =>
    simp only [jm_ok1, Bool.and_eq_true, decide_eq_true_eq] at hok
    obtain ⟨⟨h1, rfl⟩, h2⟩ := hok
    exact lv_ldc2 hx hb hown (hts _ (jm_w_in h2)) (jm_dc_eq h1) (nx ls H locs cells slots rel)
theorem jm_f4_eq {f : Fin 4 → Instr} {bc : ByteArray} {b : Nat} (h : jm_f4 f bc pc b = true) : ∃ k : Fin 4, (k : Nat) = b ∧ decode bc pc = .ok (f k, 1) := by
  unfold jm_f4 at h
  split at h
  · exact ⟨⟨b, by assumption⟩, rfl, jm_dc_eq h⟩
  · cases h
theorem jm_s2 {a : Int} {b d : Nat} (C : jm_Cx p R s mi args meth c D aC ad fmt sc m c0 x0) (rel : jm_Rel D aC ad fmt s (g_m m).2.2.1 c0 s0 x0 L h ls H locs cells slots) (hok : jm_ok1 (g_lnk m pc) (g_m m).1 (g_m m).2.1 (g_m m).2.2.1 pc (2, a, b, d) = true)
    (hst : jm_load (2, a, b, d) pc L S h = some (pc', L', S', h'))
    (nx : jm_Nx p l e R s mi args below meth c Q D aC ad fmt (g_m m).2.2.1 c0 s0 x0 pc' L' S' h') : W p l e R s mi args below meth c H locs cells slots Q (F0 mi pc ls (S.map (jm_cv ad fmt))) := by
  obtain ⟨hx, hb, hml, hown, hts, hG, hnm, hfr, hlo⟩ := C
  have hfm := hG.2.2.2.2.2.2.2.2.2.2.2.2
  unfold jm_load at hst
  dsimp only at hst
  cases hv : jm_get L b with
  | none => rw [hv] at hst; cases hst
  | some v =>
    rw [hv] at hst
    dsimp only at hst
    split at hst
    · rename_i hc
      cases hst
      obtain ⟨k, hk⟩ := jm_getl (ad := ad) (fmt := fmt) hv
      have hv' := lv_at rel.1 k hk
      have nx' := nx ls H locs cells slots rel
      rw [List.map_cons] at nx'
      rcases hc with ⟨rfl, h2⟩ | ⟨rfl, h2⟩ | ⟨rfl, h2⟩
      · rw [jm_cv0 h2] at hv' nx'
        match d, hok, nx' with
        | 0, hok, nx' =>
          obtain ⟨k, hk, hd⟩ := jm_f4_eq (show jm_f4 .iload_n _ pc b = true from hok)
          exact lv_iload_n hx hb hd hk hv' nx'
        | d + 1, hok, nx' =>
          simp only [jm_ok1, Bool.and_eq_true, decide_eq_true_eq] at hok
          obtain ⟨h1, h3⟩ := hok
          cases h1
          exact lv_iload hx hb (jm_dc_eq h3) hv' nx'
      · rw [jm_cv1 h2] at hv' nx'
        match d, hok, nx' with
        | 0, hok, nx' =>
          obtain ⟨k, hk, hd⟩ := jm_f4_eq (show jm_f4 .lload_n _ pc b = true from hok)
          exact lv_lload_n hx hb hd hk hv' nx'
        | d + 1, hok, nx' =>
          simp only [jm_ok1, Bool.and_eq_true, decide_eq_true_eq] at hok
          obtain ⟨h1, h3⟩ := hok
          cases h1
          exact lv_lload hx hb (jm_dc_eq h3) hv' nx'
      · have hr : (∃ q : Nat, jm_cv ad fmt v = .ref q) ∨ jm_cv ad fmt v = .null := by
          rcases h2 with ⟨h2, h3⟩ | h2 | h2
          · exact Or.inl ⟨_, jm_cv2 h2 h3⟩
          · rw [jm_cv3 h2]
            rcases hfm with h | ⟨q, h⟩
            · exact Or.inr h
            · exact Or.inl ⟨q, h⟩
          · exact Or.inl ⟨_, jm_cv4 h2⟩
        rcases hr with ⟨q, hq⟩ | hq
        · rw [hq] at hv' nx'
          match d, hok, nx' with
          | 0, hok, nx' =>
            obtain ⟨k, hk, hd⟩ := jm_f4_eq (show jm_f4 .aload_n _ pc b = true from hok)
            exact lv_aload_n hx hb hd hk hv' nx'
          | d + 1, hok, nx' =>
            simp only [jm_ok1, Bool.and_eq_true, decide_eq_true_eq] at hok
            obtain ⟨h1, h3⟩ := hok
            cases h1
            exact lv_aload hx hb (jm_dc_eq h3) hv' nx'
        · rw [hq] at hv' nx'
          match d, hok, nx' with
          | 0, hok, nx' =>
            obtain ⟨k, hk, hd⟩ := jm_f4_eq (show jm_f4 .aload_n _ pc b = true from hok)
            exact lv_aload_nN hx hb hd hk hv' nx'
          | d + 1, hok, nx' =>
            simp only [jm_ok1, Bool.and_eq_true, decide_eq_true_eq] at hok
            obtain ⟨h1, h3⟩ := hok
            cases h1
            exact lv_aloadN hx hb (jm_dc_eq h3) hv' nx'
    · cases hst
theorem jm_store_inv {a : Int} {b d : Nat} (hst : jm_store (3, a, b, d) pc L S h = some (pc', L', S', h')) : ∃ (v : jm_V) (r : List jm_V), S = v :: r ∧ S' = r ∧ h' = h ∧ pc' = pc + 1 + d ∧ ((a = 0 ∧ v.1 = 0 ∧ L' = jm_st1 L b v) ∨ (a = 1 ∧ v.1 = 1 ∧ L' = jm_st2 L b v) ∨ (a = 2 ∧ (v.1 = 2 ∧ 0 ≤ v.2) ∧ L' = jm_st1 L b v)) := by
  match S, hst with
  | [], hst' => cases hst'
  | v :: r, hst' =>
    unfold jm_store at hst'
    dsimp only at hst'
    refine ⟨v, r, rfl, ?_⟩
    split at hst'
    · rename_i hc
      cases hst'
      exact ⟨rfl, rfl, rfl, Or.inl ⟨hc.1, hc.2, rfl⟩⟩
    · split at hst'
      · rename_i hc
        cases hst'
        exact ⟨rfl, rfl, rfl, Or.inr (Or.inl ⟨hc.1, hc.2, rfl⟩)⟩
      · split at hst'
        · rename_i hc
          cases hst'
          exact ⟨rfl, rfl, rfl, Or.inr (Or.inr ⟨hc.1, hc.2, rfl⟩)⟩
        · cases hst'
theorem jm_s3 {a : Int} {b d : Nat} (C : jm_Cx p R s mi args meth c D aC ad fmt sc m c0 x0) (rel : jm_Rel D aC ad fmt s (g_m m).2.2.1 c0 s0 x0 L h ls H locs cells slots) (hok : jm_ok1 (g_lnk m pc) (g_m m).1 (g_m m).2.1 (g_m m).2.2.1 pc (3, a, b, d) = true)
    (hst : jm_store (3, a, b, d) pc L S h = some (pc', L', S', h'))
    (nx : jm_Nx p l e R s mi args below meth c Q D aC ad fmt (g_m m).2.2.1 c0 s0 x0 pc' L' S' h') : W p l e R s mi args below meth c H locs cells slots Q (F0 mi pc ls (S.map (jm_cv ad fmt))) := by
  obtain ⟨hx, hb, hml, hown, hts, hG, hnm, hfr, hlo⟩ := C
  have hf := jm_fc hG.2.2.2.2.2.2.2.2.2.2.2.2
  obtain ⟨v, r, rfl, rfl, rfl, rfl, hc⟩ := jm_store_inv hst
  clear hst
  obtain ⟨hl1, hok2⟩ := Bool.and_eq_true_iff.mp hok
  have hlt : b < (g_m m).2.2.1 := of_decide_eq_true hl1
  clear hok hl1
  rw [List.map_cons]
  rcases hc with ⟨rfl, h2, rfl⟩ | ⟨rfl, h2, rfl⟩ | ⟨rfl, h2, rfl⟩
  · rw [jm_cv0 h2]
    have key : ∀ ls' : Array Slot, lv_has ls' (g_m m).2.2.1 (jm_ls ad fmt (jm_st1 L b v)) → W p l e R s mi args below meth c H locs cells slots Q (F0 mi (pc + 1 + d) ls' (S'.map (jm_cv ad fmt))) := fun ls' hl' => nx ls' H locs cells slots ⟨hl', rel.2⟩
    have e1 : (b, Value.int (Int32.ofInt v.2)) :: (jm_ls ad fmt L).filter (fun q => !(q.1 == b) && !(q.1 + 1 == b && q.2.category == 2)) = jm_ls ad fmt (jm_st1 L b v) := by rw [← jm_lst1 hf, jm_cv0 h2]
    clear nx
    match d, hok2, key with
    | 0, hok3, key3 =>
      obtain ⟨k, hk, hd⟩ := jm_f4_eq (show jm_f4 .istore_n _ pc b = true from hok3)
      exact lv_istore_n hx hb hd hk rel.1 hlt e1 key3
    | d + 1, hok3, key3 =>
      simp only [Bool.and_eq_true, decide_eq_true_eq] at hok3
      obtain ⟨h1, h3⟩ := hok3
      cases h1
      exact lv_istore hx hb (jm_dc_eq h3) rel.1 hlt e1 key3
  · rw [jm_cv1 h2]
    have key : ∀ ls' : Array Slot, lv_has ls' (g_m m).2.2.1 (jm_ls ad fmt (jm_st2 L b v)) → W p l e R s mi args below meth c H locs cells slots Q (F0 mi (pc + 1 + d) ls' (S'.map (jm_cv ad fmt))) := fun ls' hl' => nx ls' H locs cells slots ⟨hl', rel.2⟩
    have e1 : (b, Value.long (Int64.ofInt v.2)) :: (jm_ls ad fmt L).filter (fun q => !(q.1 == b) && (!(q.1 == b + 1) && !(q.1 + 1 == b && q.2.category == 2))) = jm_ls ad fmt (jm_st2 L b v) := by rw [← jm_lst2 hf, jm_cv1 h2]
    clear nx
    match d, hok2, key with
    | 0, hok3, key3 =>
      have hok4 := Bool.and_eq_true_iff.mp (show (decide (b + 1 < (g_m m).2.2.1) && jm_f4 .lstore_n _ pc b) = true from hok3)
      obtain ⟨k, hk, hd⟩ := jm_f4_eq hok4.2
      exact lv_lstore_n hx hb hd hk rel.1 (of_decide_eq_true hok4.1) e1 key3
    | d + 1, hok3, key3 =>
      simp only [Bool.and_eq_true, decide_eq_true_eq] at hok3
      obtain ⟨h1, h3⟩ := hok3
      cases h1
      have h4 := Bool.and_eq_true_iff.mp (show (decide (b + 1 < (g_m m).2.2.1) && jm_dc _ pc (.lstore b) 2) = true from h3)
      exact lv_lstore hx hb (jm_dc_eq h4.2) rel.1 (of_decide_eq_true h4.1) e1 key3
  · rw [jm_cv2 h2.1 h2.2]
    have key : ∀ ls' : Array Slot, lv_has ls' (g_m m).2.2.1 (jm_ls ad fmt (jm_st1 L b v)) → W p l e R s mi args below meth c H locs cells slots Q (F0 mi (pc + 1 + d) ls' (S'.map (jm_cv ad fmt))) := fun ls' hl' => nx ls' H locs cells slots ⟨hl', rel.2⟩
    have e1 : (b, Value.ref (ad 0 + v.2.toNat)) :: (jm_ls ad fmt L).filter (fun q => !(q.1 == b) && !(q.1 + 1 == b && q.2.category == 2)) = jm_ls ad fmt (jm_st1 L b v) := by rw [← jm_lst1 hf, jm_cv2 h2.1 h2.2]
    clear nx
    match d, hok2, key with
    | 0, hok3, key3 =>
      obtain ⟨k, hk, hd⟩ := jm_f4_eq (show jm_f4 .astore_n _ pc b = true from hok3)
      exact lv_astore_n hx hb hd hk rel.1 hlt e1 key3
    | d + 1, hok3, key3 =>
      simp only [Bool.and_eq_true, decide_eq_true_eq] at hok3
      obtain ⟨h1, h3⟩ := hok3
      cases h1
      exact lv_astore hx hb (jm_dc_eq h3) rel.1 hlt e1 key3
theorem jm_s4 {a : Int} {b d : Nat} (C : jm_Cx p R s mi args meth c D aC ad fmt sc m c0 x0) (rel : jm_Rel D aC ad fmt s (g_m m).2.2.1 c0 s0 x0 L h ls H locs cells slots) (hok : jm_ok1 (g_lnk m pc) (g_m m).1 (g_m m).2.1 (g_m m).2.2.1 pc (4, a, b, d) = true)
    (hst : jm_inc (4, a, b, d) pc L S h = some (pc', L', S', h'))
    (nx : jm_Nx p l e R s mi args below meth c Q D aC ad fmt (g_m m).2.2.1 c0 s0 x0 pc' L' S' h') : W p l e R s mi args below meth c H locs cells slots Q (F0 mi pc ls (S.map (jm_cv ad fmt))) := by
  obtain ⟨hx, hb, hml, hown, hts, hG, hnm, hfr, hlo⟩ := C
  have hf := jm_fc hG.2.2.2.2.2.2.2.2.2.2.2.2
  unfold jm_inc at hst
  dsimp only at hst
  simp only [jm_ok1, Bool.and_eq_true, decide_eq_true_eq] at hok
  cases hv : jm_get L b with
  | none => rw [hv] at hst; cases hst
  | some v =>
    rw [hv] at hst
    dsimp only at hst
    split at hst
    · rename_i hc
      cases hst
      obtain ⟨k, hk⟩ := jm_getl (ad := ad) (fmt := fmt) hv
      rw [jm_cv0 hc] at hk
      refine lv_iinc hx hb (jm_dc_eq hok.2) rel.1 hk (v := Int32.ofInt (v.2 + a)) (by rw [Int32.ofInt_add]) hok.1 ?_ (fun ls' hl' => nx ls' H locs cells slots ⟨hl', rel.2⟩)
      rw [← jm_lst1 hf]
      rfl
    · cases hst
end
end
section
section
variable {p : Program} {l : Launch} {e : Env} {R : Room} {s : State} {mi : MethodId} {args : Array Value} {below : List Frame} {meth : Method} {c : Code} {Q : State → Prop}
variable {D : va_G} {aC : Nat → ClassId} {ad : Nat → Nat} {fmt : Value} {sc : List Int} {m c0 s0 x0 : Nat}
variable {pc pc' : Nat} {L L' : jm_L} {S S' : List jm_V} {h h' : jm_H} {ls : Array Slot} {H : Heap} {locs : List Loc} {cells slots : Nat}
theorem jm_of32 (x : Int32) : Int32.ofInt x.toInt = x := Int32.ofInt_toInt x
theorem jm_of64 (x : Int64) : Int64.ofInt x.toInt = x := Int64.ofInt_toInt x
theorem jm_n0 {y : Int} (hy : ¬ jm_n y = 0) : ¬ Int32.ofInt y = 0 := fun q => hy (by unfold jm_n; rw [q]; rfl)
theorem jm_div (x y : Int) : Int32.ofInt ((jm_n x).tdiv (jm_n y)) = Int32.ofInt x / Int32.ofInt y := by
  apply Int32.toInt_inj.mp
  rw [Int32.toInt_div, Int32.toInt_ofInt]
  rfl
theorem jm_rem (x y : Int) : Int32.ofInt ((jm_n x).tmod (jm_n y)) = Int32.ofInt x - Int32.ofInt x / Int32.ofInt y * Int32.ofInt y := by
  rw [Int.tmod_def, Int32.ofInt_sub, Int32.ofInt_mul, jm_div, Int32.mul_comm]
  unfold jm_n
  rw [jm_of32, jm_of32]
theorem jm_s5 {a : Int} {b d : Nat} (C : jm_Cx p R s mi args meth c D aC ad fmt sc m c0 x0) (rel : jm_Rel D aC ad fmt s (g_m m).2.2.1 c0 s0 x0 L h ls H locs cells slots) (hok : jm_ok1 (g_lnk m pc) (g_m m).1 (g_m m).2.1 (g_m m).2.2.1 pc (5, a, b, d) = true)
    (hst : jm_arith (5, a, b, d) pc L S h = some (pc', L', S', h'))
    (nx : jm_Nx p l e R s mi args below meth c Q D aC ad fmt (g_m m).2.2.1 c0 s0 x0 pc' L' S' h') : W p l e R s mi args below meth c H locs cells slots Q (F0 mi pc ls (S.map (jm_cv ad fmt))) := by
  obtain ⟨hx, hb, hml, hown, hts, hG, hnm, hfr, hlo⟩ := C
  have hd := jm_dc_eq (show jm_dc _ pc (jm_bi b) 1 = true from hok)
  match S, hst with
  | [], hst => cases hst
  | [_], hst => cases hst
  | y :: x :: r, hst =>
    unfold jm_arith at hst
    dsimp only at hst
    split at hst
    · rename_i hc
      cases hz : jm_bin b x.2 y.2 with
      | none => rw [hz] at hst; cases hst
      | some z =>
        rw [hz] at hst
        cases hst
        have nx' := nx ls H locs cells slots rel
        rw [List.map_cons, jm_cv0 (v := (0, z)) rfl] at nx'
        rw [List.map_cons, List.map_cons, jm_cv0 hc.1, jm_cv0 hc.2]
        match b, hd, hz with
        | 0, hd, hz => cases hz; rw [Int32.ofInt_add] at nx'; exact lv_iadd hx hb hd nx'
        | 1, hd, hz => cases hz; rw [Int32.ofInt_sub] at nx'; exact lv_isub hx hb hd nx'
        | 2, hd, hz => cases hz; rw [Int32.ofInt_mul] at nx'; exact lv_imul hx hb hd nx'
        | 3, hd, hz => cases hz; rw [jm_of32] at nx'; exact lv_iand hx hb hd nx'
        | 4, hd, hz => cases hz; rw [jm_of32] at nx'; exact lv_ior hx hb hd nx'
        | 5, hd, hz => cases hz; rw [jm_of32] at nx'; exact lv_ixor hx hb hd nx'
        | 6, hd, hz => cases hz; rw [jm_of32] at nx'; exact lv_ishl hx hb hd nx'
        | 7, hd, hz => cases hz; rw [jm_of32] at nx'; exact lv_ishr hx hb hd nx'
        | 8, hd, hz => cases hz; rw [jm_of32] at nx'; exact lv_iushr hx hb hd rfl nx'
        | 9, hd, hz =>
          have hz : (if jm_n y.2 = 0 then none else some ((jm_n x.2).tdiv (jm_n y.2))) = some z := hz
          split at hz
          · cases hz
          · rename_i hy
            cases hz
            rw [jm_div] at nx'
            exact lv_idiv hx hb hd (jm_n0 hy) nx'
        | 10, hd, hz =>
          have hz : (if jm_n y.2 = 0 then none else some ((jm_n x.2).tmod (jm_n y.2))) = some z := hz
          split at hz
          · cases hz
          · rename_i hy
            cases hz
            rw [jm_rem] at nx'
            exact lv_irem hx hb hd (jm_n0 hy) nx'
        | b + 11, hd, hz => cases hz
    · cases hst
theorem jm_s6 {a : Int} {b d : Nat} (C : jm_Cx p R s mi args meth c D aC ad fmt sc m c0 x0) (rel : jm_Rel D aC ad fmt s (g_m m).2.2.1 c0 s0 x0 L h ls H locs cells slots) (hok : jm_ok1 (g_lnk m pc) (g_m m).1 (g_m m).2.1 (g_m m).2.2.1 pc (6, a, b, d) = true)
    (hst : jm_larith (6, a, b, d) pc L S h = some (pc', L', S', h'))
    (nx : jm_Nx p l e R s mi args below meth c Q D aC ad fmt (g_m m).2.2.1 c0 s0 x0 pc' L' S' h') : W p l e R s mi args below meth c H locs cells slots Q (F0 mi pc ls (S.map (jm_cv ad fmt))) := by
  obtain ⟨hx, hb, hml, hown, hts, hG, hnm, hfr, hlo⟩ := C
  have hd := jm_dc_eq (show jm_dc _ pc (jm_lbi b) 1 = true from hok)
  match S, hst with
  | [], hst => cases hst
  | [_], hst => cases hst
  | y :: x :: r, hst =>
    unfold jm_larith at hst
    dsimp only at hst
    split at hst
    · rename_i hc
      cases hz : jm_lbin b x.2 y.2 with
      | none => rw [hz] at hst; cases hst
      | some z =>
        rw [hz] at hst
        cases hst
        have nx' := nx ls H locs cells slots rel
        rw [List.map_cons, jm_cv1 (v := (1, z)) rfl] at nx'
        rw [List.map_cons, List.map_cons, jm_cv1 hc.1, jm_cv1 hc.2]
        match b, hd, hz with
        | 0, hd, hz => cases hz; rw [Int64.ofInt_add] at nx'; exact lv_ladd hx hb hd nx'
        | 1, hd, hz => cases hz; rw [Int64.ofInt_mul] at nx'; exact lv_lmul hx hb hd nx'
        | 2, hd, hz => cases hz; rw [jm_of64] at nx'; exact lv_land hx hb hd nx'
        | 3, hd, hz => cases hz; rw [jm_of64] at nx'; exact lv_lor hx hb hd nx'
        | b + 4, hd, hz => cases hz
    · split at hst
      · rename_i hc
        cases hz : jm_lsh b x.2 y.2 with
        | none => rw [hz] at hst; cases hst
        | some z =>
          rw [hz] at hst
          cases hst
          have nx' := nx ls H locs cells slots rel
          rw [List.map_cons, jm_cv1 (v := (1, z)) rfl] at nx'
          rw [List.map_cons, List.map_cons, jm_cv1 hc.1, jm_cv0 hc.2]
          match b, hd, hz with
          | 0, hd, hz => cases hz
          | 1, hd, hz => cases hz
          | 2, hd, hz => cases hz
          | 3, hd, hz => cases hz
          | 4, hd, hz => cases hz; rw [jm_of64] at nx'; exact lv_lshl hx hb hd rfl nx'
          | 5, hd, hz => cases hz; rw [jm_of64] at nx'; exact lv_lshr hx hb hd rfl nx'
          | b + 6, hd, hz => cases hz
      · cases hst
theorem jm_s7 {a : Int} {b d : Nat} (C : jm_Cx p R s mi args meth c D aC ad fmt sc m c0 x0) (rel : jm_Rel D aC ad fmt s (g_m m).2.2.1 c0 s0 x0 L h ls H locs cells slots) (hok : jm_ok1 (g_lnk m pc) (g_m m).1 (g_m m).2.1 (g_m m).2.2.1 pc (7, a, b, d) = true)
    (hst : jm_conv (7, a, b, d) pc L S h = some (pc', L', S', h'))
    (nx : jm_Nx p l e R s mi args below meth c Q D aC ad fmt (g_m m).2.2.1 c0 s0 x0 pc' L' S' h') : W p l e R s mi args below meth c H locs cells slots Q (F0 mi pc ls (S.map (jm_cv ad fmt))) := by
  obtain ⟨hx, hb, hml, hown, hts, hG, hnm, hfr, hlo⟩ := C
  have hd := jm_dc_eq (show jm_dc _ pc (jm_cvi b) 1 = true from hok)
  match S, hst with
  | [], hst' => cases hst'
  | x :: r, hst' =>
    unfold jm_conv at hst'
    dsimp only at hst'
    rw [List.map_cons]
    split at hst'
    · rename_i hc
      obtain ⟨rfl, h2⟩ := hc
      cases hst'
      have nx' := nx ls H locs cells slots rel
      rw [List.map_cons, jm_cv1 (v := (1, _)) rfl, jm_of64] at nx'
      rw [jm_cv0 h2]
      exact lv_i2l hx hb hd rfl nx'
    · split at hst'
      · rename_i hc
        obtain ⟨rfl, h2⟩ := hc
        cases hst'
        have nx' := nx ls H locs cells slots rel
        rw [List.map_cons, jm_cv0 (v := (0, _)) rfl, jm_of32] at nx'
        rw [jm_cv1 h2]
        exact lv_l2i hx hb hd rfl nx'
      · split at hst'
        · rename_i hc
          obtain ⟨rfl, h2⟩ := hc
          cases hst'
          have nx' := nx ls H locs cells slots rel
          rw [List.map_cons, jm_cv0 (v := (0, _)) rfl, jm_of32] at nx'
          rw [jm_cv0 h2]
          exact lv_i2b hx hb hd rfl nx'
        · split at hst'
          · rename_i hc
            obtain ⟨rfl, h2⟩ := hc
            cases hst'
            have nx' := nx ls H locs cells slots rel
            rw [List.map_cons, jm_cv0 (v := (0, _)) rfl, jm_of32] at nx'
            rw [jm_cv0 h2]
            exact lv_i2c hx hb hd rfl nx'
          · cases hst'
theorem jm_s8 {a : Int} {b d : Nat} (C : jm_Cx p R s mi args meth c D aC ad fmt sc m c0 x0) (rel : jm_Rel D aC ad fmt s (g_m m).2.2.1 c0 s0 x0 L h ls H locs cells slots) (hok : jm_ok1 (g_lnk m pc) (g_m m).1 (g_m m).2.1 (g_m m).2.2.1 pc (8, a, b, d) = true)
    (hst : jm_stack (8, a, b, d) pc L S h = some (pc', L', S', h'))
    (nx : jm_Nx p l e R s mi args below meth c Q D aC ad fmt (g_m m).2.2.1 c0 s0 x0 pc' L' S' h') : W p l e R s mi args below meth c H locs cells slots Q (F0 mi pc ls (S.map (jm_cv ad fmt))) := by
  obtain ⟨hx, hb, hml, hown, hts, hG, hnm, hfr, hlo⟩ := C
  have hf := jm_fc hG.2.2.2.2.2.2.2.2.2.2.2.2
  have hd := jm_dc_eq (show jm_dc _ pc (if b = 0 then .dup else if b = 1 then .pop else .dup2) 1 = true from hok)
  match S, hst with
  | [], hst => cases hst
  | x :: r, hst =>
    unfold jm_stack at hst
    dsimp only at hst
    split at hst
    · cases hst
    · rename_i hx1
      have hcx : (jm_cv ad fmt x).category = 1 := by rw [jm_cvc hf, if_neg hx1]
      split at hst
      · rename_i hb0
        cases hst
        rw [if_pos hb0] at hd
        exact lv_dup hx hb hd hcx (nx ls H locs cells slots rel)
      · rename_i hb0
        rw [if_neg hb0] at hd
        split at hst
        · rename_i hb1
          cases hst
          rw [if_pos hb1] at hd
          exact lv_pop hx hb hd hcx (nx ls H locs cells slots rel)
        · rename_i hb1
          rw [if_neg hb1] at hd
          match r, hst with
          | [], hst => cases hst
          | y :: r', hst =>
            dsimp only at hst
            split at hst
            · cases hst
            · rename_i hy1
              cases hst
              have hcy : (jm_cv ad fmt y).category = 1 := by rw [jm_cvc hf, if_neg hy1]
              exact lv_dup2_11 hx hb hd hcx hcy (nx ls H locs cells slots rel)
theorem jm_nn (z : Int) : (Int32.ofInt z).toInt = jm_n z := rfl
theorem jm_eqI (x y : Int) : (Int32.ofInt x = Int32.ofInt y) ↔ jm_n x = jm_n y := ⟨fun q => by unfold jm_n; rw [q], fun q => Int32.toInt_inj.mp q⟩
theorem jm_ltI (x y : Int) : (Int32.ofInt x < Int32.ofInt y) ↔ jm_n x < jm_n y := Int32.lt_iff_toInt_lt
theorem jm_leI (x y : Int) : (Int32.ofInt x ≤ Int32.ofInt y) ↔ jm_n x ≤ jm_n y := Int32.le_iff_toInt_le
theorem jm_s9 {a : Int} {b d : Nat} (C : jm_Cx p R s mi args meth c D aC ad fmt sc m c0 x0) (rel : jm_Rel D aC ad fmt s (g_m m).2.2.1 c0 s0 x0 L h ls H locs cells slots) (hok : jm_ok1 (g_lnk m pc) (g_m m).1 (g_m m).2.1 (g_m m).2.2.1 pc (9, a, b, d) = true)
    (hst : jm_if (9, a, b, d) pc L S h = some (pc', L', S', h'))
    (nx : jm_Nx p l e R s mi args below meth c Q D aC ad fmt (g_m m).2.2.1 c0 s0 x0 pc' L' S' h') : W p l e R s mi args below meth c H locs cells slots Q (F0 mi pc ls (S.map (jm_cv ad fmt))) := by
  obtain ⟨hx, hb, hml, hown, hts, hG, hnm, hfr, hlo⟩ := C
  have hd := jm_dc_eq (show jm_dc _ pc (jm_if1 b ((d : Int) - pc)) 3 = true from hok)
  have ht : (pc : Int) + ((d : Int) - pc) = (d : Int) := by omega
  match S, hst with
  | [], hst => cases hst
  | x :: r, hst =>
    unfold jm_if at hst
    dsimp only at hst
    split at hst
    · rename_i hc
      cases hst
      have nx' := nx ls H locs cells slots rel
      rw [List.map_cons, jm_cv0 hc]
      have e0 : jm_n 0 = 0 := rfl
      have z0 : (0 : Int32) = Int32.ofInt 0 := rfl
      match b, hd, nx' with
      | 0, hd, nx' => exact lv_if_eq hx hb hd ht (fun q => by rw [z0, jm_eqI] at q; simpa [jm_cnd, q] using nx') (fun q => by rw [z0, jm_eqI] at q; simpa [jm_cnd, q] using nx')
      | 1, hd, nx' => exact lv_if_ne hx hb hd ht (fun q => by rw [z0, jm_eqI] at q; simpa [jm_cnd, q] using nx') (fun q => by rw [z0, jm_eqI] at q; simpa [jm_cnd, q] using nx')
      | 2, hd, nx' => exact lv_if_lt hx hb hd ht (fun q => by rw [z0, jm_ltI] at q; simpa [jm_cnd, q] using nx') (fun q => by rw [z0, jm_ltI] at q; simpa [jm_cnd, q] using nx')
      | 3, hd, nx' => exact lv_if_ge hx hb hd ht (fun q => by rw [z0, jm_leI] at q; simpa [jm_cnd, q] using nx') (fun q => by rw [z0, jm_leI] at q; simpa [jm_cnd, q] using nx')
      | 4, hd, nx' => exact lv_if_gt hx hb hd ht (fun q => by rw [z0, jm_ltI] at q; simpa [jm_cnd, q] using nx') (fun q => by rw [z0, jm_ltI] at q; simpa [jm_cnd, q] using nx')
      | b + 5, hd, nx' => exact lv_if_le hx hb hd ht (fun q => by rw [z0, jm_leI] at q; simpa [jm_cnd, q] using nx') (fun q => by rw [z0, jm_leI] at q; simpa [jm_cnd, q] using nx')
    · cases hst
theorem jm_s10 {a : Int} {b d : Nat} (C : jm_Cx p R s mi args meth c D aC ad fmt sc m c0 x0) (rel : jm_Rel D aC ad fmt s (g_m m).2.2.1 c0 s0 x0 L h ls H locs cells slots) (hok : jm_ok1 (g_lnk m pc) (g_m m).1 (g_m m).2.1 (g_m m).2.2.1 pc (10, a, b, d) = true)
    (hst : jm_if2 (10, a, b, d) pc L S h = some (pc', L', S', h'))
    (nx : jm_Nx p l e R s mi args below meth c Q D aC ad fmt (g_m m).2.2.1 c0 s0 x0 pc' L' S' h') : W p l e R s mi args below meth c H locs cells slots Q (F0 mi pc ls (S.map (jm_cv ad fmt))) := by
  obtain ⟨hx, hb, hml, hown, hts, hG, hnm, hfr, hlo⟩ := C
  have hd := jm_dc_eq (show jm_dc _ pc (jm_ifc b ((d : Int) - pc)) 3 = true from hok)
  have ht : (pc : Int) + ((d : Int) - pc) = (d : Int) := by omega
  match S, hst with
  | [], hst => cases hst
  | [_], hst => cases hst
  | y :: x :: r, hst =>
    unfold jm_if2 at hst
    dsimp only at hst
    split at hst
    · rename_i hc
      cases hst
      have nx' := nx ls H locs cells slots rel
      rw [List.map_cons, List.map_cons, jm_cv0 hc.1, jm_cv0 hc.2]
      match b, hd, nx' with
      | 0, hd, nx' => exact lv_icmp_eq hx hb hd ht (fun q => by rw [jm_eqI] at q; simpa [jm_cnd, q] using nx') (fun q => by rw [jm_eqI] at q; simpa [jm_cnd, q] using nx')
      | 1, hd, nx' => exact lv_icmp_ne hx hb hd ht (fun q => by rw [jm_eqI] at q; simpa [jm_cnd, q] using nx') (fun q => by rw [jm_eqI] at q; simpa [jm_cnd, q] using nx')
      | 2, hd, nx' => exact lv_icmp_lt hx hb hd ht (fun q => by rw [jm_ltI] at q; simpa [jm_cnd, q] using nx') (fun q => by rw [jm_ltI] at q; simpa [jm_cnd, q] using nx')
      | 3, hd, nx' => exact lv_icmp_ge hx hb hd ht (fun q => by rw [jm_leI] at q; simpa [jm_cnd, q] using nx') (fun q => by rw [jm_leI] at q; simpa [jm_cnd, q] using nx')
      | 4, hd, nx' => exact lv_icmp_gt hx hb hd ht (fun q => by rw [jm_ltI] at q; simpa [jm_cnd, q] using nx') (fun q => by rw [jm_ltI] at q; simpa [jm_cnd, q] using nx')
      | b + 5, hd, nx' => exact lv_icmp_le hx hb hd ht (fun q => by rw [jm_leI] at q; simpa [jm_cnd, q] using nx') (fun q => by rw [jm_leI] at q; simpa [jm_cnd, q] using nx')
    · cases hst
theorem jm_s11 {a : Int} {b d : Nat} (C : jm_Cx p R s mi args meth c D aC ad fmt sc m c0 x0) (rel : jm_Rel D aC ad fmt s (g_m m).2.2.1 c0 s0 x0 L h ls H locs cells slots) (hok : jm_ok1 (g_lnk m pc) (g_m m).1 (g_m m).2.1 (g_m m).2.2.1 pc (11, a, b, d) = true)
    (nx : jm_Nx p l e R s mi args below meth c Q D aC ad fmt (g_m m).2.2.1 c0 s0 x0 d L S h) : W p l e R s mi args below meth c H locs cells slots Q (F0 mi pc ls (S.map (jm_cv ad fmt))) := by
  obtain ⟨hx, hb, hml, hown, hts, hG, hnm, hfr, hlo⟩ := C
  exact lv_goto hx hb (jm_dc_eq (show jm_dc _ pc (.goto ((d : Int) - pc)) 3 = true from hok)) (by omega) (nx ls H locs cells slots rel)
theorem jm_s12 {a : Int} {b d : Nat} (C : jm_Cx p R s mi args meth c D aC ad fmt sc m c0 x0) (rel : jm_Rel D aC ad fmt s (g_m m).2.2.1 c0 s0 x0 L h ls H locs cells slots) (hok : jm_ok1 (g_lnk m pc) (g_m m).1 (g_m m).2.1 (g_m m).2.2.1 pc (12, a, b, d) = true)
    (hst : jm_lcmp pc L S h = some (pc', L', S', h'))
    (nx : jm_Nx p l e R s mi args below meth c Q D aC ad fmt (g_m m).2.2.1 c0 s0 x0 pc' L' S' h') : W p l e R s mi args below meth c H locs cells slots Q (F0 mi pc ls (S.map (jm_cv ad fmt))) := by
  obtain ⟨hx, hb, hml, hown, hts, hG, hnm, hfr, hlo⟩ := C
  match S, hst with
  | [], hst => cases hst
  | [_], hst => cases hst
  | y :: x :: r, hst =>
    unfold jm_lcmp at hst
    dsimp only at hst
    split at hst
    · rename_i hc
      cases hst
      have nx' := nx ls H locs cells slots rel
      rw [List.map_cons, jm_cv0 (v := (0, _)) rfl] at nx'
      rw [List.map_cons, List.map_cons, jm_cv1 hc.1, jm_cv1 hc.2]
      have e1 : Int32.ofInt (jm_cmp x.2 y.2) = lg_cmp (Int64.ofInt x.2) (Int64.ofInt y.2) := by
        unfold jm_cmp lg_cmp jm_nl
        simp only [gt_iff_lt, Int64.lt_iff_toInt_lt, ← Int64.toInt_inj]
        split
        · rfl
        · split <;> rfl
      dsimp only at nx'
      rw [e1] at nx'
      exact W.lcmp hx hb (jm_dc_eq (show jm_dc _ pc .lcmp 1 = true from hok)) nx'
    · cases hst
end
end
section
theorem jm_cl_facts {ci : Nat} {r : vw_C} (h : g_cl[ci]? = some r) : (∀ w ∈ u_ws r.1 r.2.1 r.2.2, w ∈ jm_W) ∧ (∀ k, k < r.2.2 → parseFieldDescriptor (r.2.1 k).2.2.1 = some ((g_yl.getD ci g_Y0) k)) ∧ (∀ k, k < r.2.2 → (g_ft.getD ci [])[k]? = some (jm_tag ((g_yl.getD ci g_Y0) k))) ∧ (∀ a, a < r.2.2 → ∀ b, b < r.2.2 → a ≠ b → (r.2.1 a).2.1 ≠ (r.2.1 b).2.1) ∧ (g_ft.getD ci []).length = r.2.2 := by
  have hlt : ci < 13 := (List.getElem?_eq_some_iff.mp h).1
  have h1 := List.all_eq_true.mp jm_cok_all ci (List.mem_range.mpr hlt)
  unfold jm_cok at h1
  rw [h] at h1
  dsimp only at h1
  simp only [Bool.and_eq_true, List.all_eq_true, decide_eq_true_eq, Bool.or_eq_true, List.mem_range] at h1
  obtain ⟨⟨⟨h2, h3⟩, h4⟩, h5⟩ := h1
  exact ⟨fun w hw => List.mem_filter.mpr (h2 w hw), fun k hk => (h3 k hk).1, fun k hk => (h3 k hk).2, fun a ha b hb hab => (h4 a ha b hb).resolve_left hab, h5⟩
section
variable {aC : Nat → ClassId} {ad : Nat → Nat} {fmt : Value}
theorem jm_ce_obj {c : jm_C} {ci : Nat} (h : c.1 = 10 + ci) : jm_ce aC ad fmt c = .inr (ci, List.zipWith (fun t z => jm_cv ad fmt (jm_tg t, z)) (g_ft.getD ci []) c.2) := by
  obtain ⟨k, xs⟩ := c
  dsimp only at h
  subst h
  rw [Nat.add_comm]
  rfl
theorem jm_ce_0 {c : jm_C} (h : c.1 = 0) : jm_ce aC ad fmt c = .inl (aC 0, c.2.length, .inl (fun j => Int32.ofInt (c.2.getD j 0))) := by obtain ⟨k, xs⟩ := c; cases h; rfl
theorem jm_ce_1 {c : jm_C} (h : c.1 = 1) : jm_ce aC ad fmt c = .inl (aC 1, c.2.length, .inl (fun j => Int32.ofInt (c.2.getD j 0))) := by obtain ⟨k, xs⟩ := c; cases h; rfl
theorem jm_ce_2 {c : jm_C} (h : c.1 = 2) : jm_ce aC ad fmt c = .inl (aC 2, c.2.length, .inr (.inl (fun j => Int64.ofInt (c.2.getD j 0)))) := by obtain ⟨k, xs⟩ := c; cases h; rfl
theorem jm_ce_3 {c : jm_C} (h : c.1 = 3) : jm_ce aC ad fmt c = .inl (aC 3, c.2.length, .inl (fun j => Int32.ofInt (c.2.getD j 0))) := by obtain ⟨k, xs⟩ := c; cases h; rfl
theorem jm_ce_4 {c : jm_C} (h : c.1 = 4) : jm_ce aC ad fmt c = .inl (aC 4, c.2.length, .inr (.inr (.inr (.inr (fun j => if c.2.getD j 0 < 0 then none else some (ad 0 + (c.2.getD j 0).toNat)))))) := by obtain ⟨k, xs⟩ := c; cases h; rfl
theorem jm_zset {α β γ : Type} (f : α → β → γ) (ts : List α) (xs : List β) (k : Nat) (z : β) (t : α) (ht : ts[k]? = some t) : List.zipWith f ts (xs.set k z) = (List.zipWith f ts xs).set k (f t z) := by
  apply List.ext_getElem?
  intro j
  rw [List.getElem?_zipWith, List.getElem?_set, List.getElem?_set, List.getElem?_zipWith]
  by_cases hj : k = j
  · subst hj
    by_cases hk : k < xs.length
    · have hk2 : k < (List.zipWith f ts xs).length := by
        rw [List.length_zipWith]
        have := (List.getElem?_eq_some_iff.mp ht).1
        omega
      simp only [if_true, if_pos hk, if_pos hk2, ht]
    · have hk2 : ¬ k < (List.zipWith f ts xs).length := by
        rw [List.length_zipWith]
        omega
      simp only [if_true, if_neg hk, if_neg hk2, ht]
  · simp only [if_neg hj]
theorem jm_getD_set (xs : List Int) (n j : Nat) (v : Int) (hn : n < xs.length) : (xs.set n v).getD j 0 = if j = n then v else xs.getD j 0 := by
  rw [List.getD_eq_getElem?_getD, List.getD_eq_getElem?_getD, List.getElem?_set]
  by_cases hj : n = j
  · subst hj
    simp [hn]
  · simp [hj, Ne.symm hj]
theorem jm_updI (xs : List Int) {n : Nat} (v : Int) (hn : n < xs.length) : upd (fun j => Int32.ofInt (xs.getD j 0)) n (Int32.ofInt v) = fun j => Int32.ofInt ((xs.set n v).getD j 0) := by
  funext j
  rw [jm_getD_set xs n j v hn]
  unfold upd
  split <;> rfl
theorem jm_updL (xs : List Int) {n : Nat} (v : Int) (hn : n < xs.length) : vp_updL (fun j => Int64.ofInt (xs.getD j 0)) n (Int64.ofInt v) = fun j => Int64.ofInt ((xs.set n v).getD j 0) := by
  funext j
  rw [jm_getD_set xs n j v hn]
  unfold vp_updL
  split <;> rfl
theorem jm_fitv {v : jm_V} {t : Int} {ty : FieldType} (hf : jm_fok t v = true) (ht : jm_tag ty = t.toNat) (h0 : 0 ≤ t) : narrow ty (jm_cv ad fmt v) = jm_cv ad fmt v ∧ fits ty (jm_cv ad fmt v) = true ∧ jm_cv ad fmt (jm_tg t.toNat, v.2) = jm_cv ad fmt v := by
  unfold jm_fok at hf
  obtain ⟨w, z⟩ := v
  rcases of_decide_eq_true hf with ⟨rfl, h1⟩ | ⟨rfl, h1⟩ | ⟨rfl, h1, h2⟩ | ⟨rfl, h1, h2⟩
  · cases h1
    cases ty <;> first | exact ⟨rfl, rfl, rfl⟩ | cases ht
  · cases h1
    cases ty <;> first | exact ⟨rfl, rfl, rfl⟩ | cases ht
  · dsimp only at h1 h2
    subst h1
    have e1 : jm_cv ad fmt (2, z) = .ref (ad 0 + z.toNat) := jm_cv2 rfl h2
    rw [show (jm_cv ad fmt (jm_tg (2 : Int).toNat, z)) = jm_cv ad fmt (2, z) from rfl, e1]
    cases ty <;> first | exact ⟨rfl, rfl, rfl⟩ | cases ht
  · cases h1
    have hz : Int32.ofInt z = 0 ∨ Int32.ofInt z = 1 := by
      rcases h2 with h2 | h2
      · exact Or.inl (Int32.toInt_inj.mp h2)
      · exact Or.inr (Int32.toInt_inj.mp h2)
    have e1 : jm_cv ad fmt (0, z) = .int (Int32.ofInt z) := rfl
    cases ty <;> first | cases ht | skip
    rcases hz with hz | hz
    · rw [show (jm_cv ad fmt (jm_tg (3 : Int).toNat, z)) = jm_cv ad fmt (0, z) from rfl, e1, hz]; exact ⟨rfl, rfl, rfl⟩
    · rw [show (jm_cv ad fmt (jm_tg (3 : Int).toNat, z)) = jm_cv ad fmt (0, z) from rfl, e1, hz]; exact ⟨rfl, rfl, rfl⟩
end
section
variable {p : Program} {l : Launch} {e : Env} {R : Room} {s : State} {mi : MethodId} {args : Array Value} {below : List Frame} {meth : Method} {c : Code} {Q : State → Prop}
variable {D : va_G} {aC : Nat → ClassId} {ad : Nat → Nat} {fmt : Value} {sc : List Int} {m c0 s0 x0 : Nat}
variable {pc pc' : Nat} {L L' : jm_L} {S S' : List jm_V} {h h' : jm_H} {ls : Array Slot} {H : Heap} {locs : List Loc} {cells slots : Nat}
theorem jm_s13 {a : Int} {b d : Nat} (C : jm_Cx p R s mi args meth c D aC ad fmt sc m c0 x0) (rel : jm_Rel D aC ad fmt s (g_m m).2.2.1 c0 s0 x0 L h ls H locs cells slots) (hok : jm_ok2 (g_lnk m pc) (g_m m).1 (g_m m).2.1 pc (13, a, b, d) = true)
    (hst : jm_getf (13, a, b, d) pc L S h = some (pc', L', S', h'))
    (nx : jm_Nx p l e R s mi args below meth c Q D aC ad fmt (g_m m).2.2.1 c0 s0 x0 pc' L' S' h') : W p l e R s mi args below meth c H locs cells slots Q (F0 mi pc ls (S.map (jm_cv ad fmt))) := by
  obtain ⟨hx, hb, hml, hown, hts, hG, hnm, hfr, hlo⟩ := C
  simp only [jm_ok2, Bool.and_eq_true, decide_eq_true_eq] at hok
  obtain ⟨⟨⟨⟨hd, ha0⟩, hft⟩, hbl⟩, hw⟩ := hok
  match S, hst with
  | [], hst => cases hst
  | o :: r, hst =>
    unfold jm_getf at hst
    dsimp only at hst
    split at hst
    · rename_i ho
      cases hcl : jm_cell h o.2 with
      | none => rw [hcl] at hst; cases hst
      | some cc =>
        rw [hcl] at hst
        dsimp only at hst
        split at hst
        · rename_i hk
          cases hz : cc.2[d]? with
          | none => rw [hz] at hst; cases hst
          | some z =>
            rw [hz] at hst
            cases hst
            obtain ⟨h0, h1, h2⟩ := jm_cellw (aC := aC) (ad := ad) (fmt := fmt) hcl
            rw [jm_ce_obj hk] at h2
            obtain ⟨rr, hrr⟩ : ∃ rr, g_cl[b]? = some rr := ⟨_, List.getElem?_eq_getElem hbl⟩
            obtain ⟨C, T, N⟩ := rr
            obtain ⟨f1, f2, f3, f4, f5⟩ := jm_cl_facts hrr
            dsimp only at f1 f2 f3 f4 f5
            have hdN : d < N := by rw [← f5]; exact (List.getElem?_eq_some_iff.mp hft).1
            have hfl : jm_fl b d = T d := by unfold jm_fl; rw [hrr]; rfl
            rw [hfl] at hw
            have nx' := nx ls H locs cells slots rel
            rw [List.map_cons] at nx'
            rw [List.map_cons, jm_cv2 ho h0]
            have ea : (if a = 3 then 0 else a.toNat) = jm_tg a.toNat := by
              unfold jm_tg
              by_cases h3 : a = 3
              · subst h3; rfl
              · rw [if_neg h3, if_neg (by omega)]
            rw [ea] at nx'
            exact va_get hx hb hts f1 hown hG.1 rel.2.1 o.2.toNat h2 hrr d hdN (hts _ (jm_w_in hw)) (fun x h => h) (by rw [List.getElem?_zipWith, hft, hz]) (jm_dc_eq hd) nx'
        · cases hst
    · cases hst
theorem jm_s14 {a : Int} {b d : Nat} (C : jm_Cx p R s mi args meth c D aC ad fmt sc m c0 x0) (rel : jm_Rel D aC ad fmt s (g_m m).2.2.1 c0 s0 x0 L h ls H locs cells slots) (hok : jm_ok2 (g_lnk m pc) (g_m m).1 (g_m m).2.1 pc (14, a, b, d) = true)
    (hst : jm_putf (14, a, b, d) pc L S h = some (pc', L', S', h'))
    (nx : jm_Nx p l e R s mi args below meth c Q D aC ad fmt (g_m m).2.2.1 c0 s0 x0 pc' L' S' h') : W p l e R s mi args below meth c H locs cells slots Q (F0 mi pc ls (S.map (jm_cv ad fmt))) := by
  obtain ⟨hx, hb, hml, hown, hts, hG, hnm, hfr, hlo⟩ := C
  simp only [jm_ok2, Bool.and_eq_true, decide_eq_true_eq] at hok
  obtain ⟨⟨⟨⟨⟨hd, ha0⟩, hft⟩, hbl⟩, hw⟩, hfin⟩ := hok
  match S, hst with
  | [], hst => cases hst
  | [_], hst => cases hst
  | v :: o :: r, hst =>
    unfold jm_putf at hst
    dsimp only at hst
    split at hst
    · rename_i ho
      cases hcl : jm_cell h o.2 with
      | none => rw [hcl] at hst; cases hst
      | some cc =>
        rw [hcl] at hst
        dsimp only at hst
        split at hst
        · rename_i hk
          cases hst
          obtain ⟨h0, h1, h2⟩ := jm_cellw (aC := aC) (ad := ad) (fmt := fmt) hcl
          rw [jm_ce_obj hk.1] at h2
          obtain ⟨rr, hrr⟩ : ∃ rr, g_cl[b]? = some rr := ⟨_, List.getElem?_eq_getElem hbl⟩
          obtain ⟨C, T, N⟩ := rr
          obtain ⟨f1, f2, f3, f4, f5⟩ := jm_cl_facts hrr
          dsimp only at f1 f2 f3 f4 f5
          have hdN : d < N := by rw [← f5]; exact (List.getElem?_eq_some_iff.mp hft).1
          have hfl : jm_fl b d = T d := by unfold jm_fl; rw [hrr]; rfl
          rw [hfl] at hw hfin
          have hty : jm_tag ((g_yl.getD b g_Y0) d) = a.toNat := Option.some.inj ((f3 d hdN).symm.trans hft)
          obtain ⟨e1, e2, e3⟩ := jm_fitv (ad := ad) (fmt := fmt) ho.2 hty ha0
          have hzl : d < (List.zipWith (fun t z => jm_cv ad fmt (jm_tg t, z)) (g_ft.getD b []) cc.2).length := by
            rw [List.length_zipWith]; omega
          rw [List.map_cons, List.map_cons, jm_cv2 ho.1 h0]
          have key : ∀ (H1 : Heap) (locs1 : List Loc), va_P D g_cl ((jm_ws aC ad fmt h.1).set o.2.toNat (ad 0 + o.2.toNat, .inr (b, (List.zipWith (fun t z => jm_cv ad fmt (jm_tg t, z)) (g_ft.getD b []) cc.2).set d (jm_cv ad fmt v)))) H1 → va_D (jm_A ad) ((jm_ws aC ad fmt h.1).set o.2.toNat (ad 0 + o.2.toNat, .inr (b, (List.zipWith (fun t z => jm_cv ad fmt (jm_tg t, z)) (g_ft.getD b []) cc.2).set d (jm_cv ad fmt v)))) → va_S (jm_A ad) s.heap H1 locs1 → W p l e R s mi args below meth c H1 locs1 cells slots Q (F0 mi (pc + 3) ls (S'.map (jm_cv ad fmt))) := by
            intro H1 locs1 hP1 _ hS1
            refine nx ls H1 locs1 cells slots ⟨rel.1, ?_, hS1, rel.2.2.2.1, ?_, ?_⟩
            · dsimp only
              rw [jm_wsset, jm_ce_obj (c := (cc.1, cc.2.set d v.2)) hk.1]
              dsimp only
              rw [jm_zset (fun t z => jm_cv ad fmt (jm_tg t, z)) _ cc.2 d v.2 a.toNat hft, e3]
              exact hP1
            · rw [rel.2.2.2.2.1]; simp [jm_cn]
            · rw [rel.2.2.2.2.2]
              unfold jm_sl
              dsimp only
              rw [jm_slset h1 (by simp)]
          cases hfb : (T d).2.2.2 with
          | false => exact va_put hx hb hts f1 _ f2 f4 hown hG.1 rel.2.1 (jm_wsD _) rel.2.2.1 o.2.toNat h2 hrr d hdN (hts _ (jm_w_in hw)) (fun x h => h) hfb (f2 d hdN) e1 e2 hzl (jm_dc_eq hd) key
          | true =>
            rw [hfb] at hfin
            simp only [Bool.not_true, Bool.false_or, Bool.and_eq_true, decide_eq_true_eq] at hfin
            exact va_putF hx hb hts f1 _ f2 f4 hown hG.1 rel.2.1 (jm_wsD _) rel.2.2.1 o.2.toNat h2 hrr d hdN (hts _ (jm_w_in hw)) (fun x h => h) hfb (hnm.trans hfin.2) hfin.1 (f2 d hdN) e1 e2 hzl (jm_dc_eq hd) key
        · cases hst
    · cases hst
theorem jm_tysg (k : Nat) : (jm_tys aC)[k]? = match k with | 0 => some (aC 0, .int) | 1 => some (aC 1, .byte) | 2 => some (aC 2, .long) | 3 => some (aC 3, .boolean) | 4 => some (aC 4, .object "RideLaws$State") | _ => none := by
  match k with
  | 0 => rfl
  | 1 => rfl
  | 2 => rfl
  | 3 => rfl
  | 4 => rfl
  | k + 5 => rfl
theorem jm_ald_inv {a : Int} {b d : Nat} (hst : jm_ald (15, a, b, d) pc L S h = some (pc', L', S', h')) : ∃ (j o : jm_V) (r : List jm_V) (cc : jm_C) (n : Nat), S = j :: o :: r ∧ j.1 = 0 ∧ o.1 = 2 ∧ jm_cell h o.2 = some cc ∧ ((b = 0 ∧ cc.1 = 0) ∨ (b = 1 ∧ (cc.1 = 1 ∨ cc.1 = 3)) ∨ (b = 2 ∧ cc.1 = 2) ∨ (b = 3 ∧ cc.1 = 4)) ∧ jm_ix j.2 cc.2.length = some n ∧ pc' = pc + 1 ∧ L' = L ∧ S' = (if b = 2 then 1 else if b = 3 then 2 else 0, cc.2.getD n 0) :: r ∧ h' = h := by
  match S, hst with
  | [], hst' => cases hst'
  | [_], hst' => cases hst'
  | j :: o :: r, hst' =>
    unfold jm_ald at hst'
    dsimp only at hst'
    split at hst'
    · rename_i h1
      cases hcl : jm_cell h o.2 with
      | none => rw [hcl] at hst'; cases hst'
      | some cc =>
        rw [hcl] at hst'
        dsimp only at hst'
        split at hst'
        · rename_i h2
          cases hix : jm_ix j.2 cc.2.length with
          | none => rw [hix] at hst'; cases hst'
          | some n =>
            rw [hix] at hst'
            cases hst'
            exact ⟨j, o, r, cc, n, rfl, h1.1, h1.2, hcl, h2, hix, rfl, rfl, rfl, rfl⟩
        · cases hst'
    · cases hst'
theorem jm_s15 {a : Int} {b d : Nat} (C : jm_Cx p R s mi args meth c D aC ad fmt sc m c0 x0) (rel : jm_Rel D aC ad fmt s (g_m m).2.2.1 c0 s0 x0 L h ls H locs cells slots) (hok : jm_ok2 (g_lnk m pc) (g_m m).1 (g_m m).2.1 pc (15, a, b, d) = true)
    (hst : jm_ald (15, a, b, d) pc L S h = some (pc', L', S', h'))
    (nx : jm_Nx p l e R s mi args below meth c Q D aC ad fmt (g_m m).2.2.1 c0 s0 x0 pc' L' S' h') : W p l e R s mi args below meth c H locs cells slots Q (F0 mi pc ls (S.map (jm_cv ad fmt))) := by
  obtain ⟨hx, hb, hml, hown, hts, hG, hnm, hfr, hlo⟩ := C
  obtain ⟨j, o, r, cc, n, rfl, hj, ho, hcl, hk, hix, rfl, rfl, rfl, rfl⟩ := jm_ald_inv hst
  clear hst
  obtain ⟨g0, g1, g2⟩ := jm_cellw (aC := aC) (ad := ad) (fmt := fmt) hcl
  obtain ⟨i1, i2, i3⟩ := jm_nl_in hix
  have nx' := nx ls H locs cells slots rel
  rw [List.map_cons] at nx'
  rw [List.map_cons, List.map_cons, jm_cv0 hj, jm_cv2 ho g0]
  rcases hk with ⟨rfl, hk⟩ | ⟨rfl, hk | hk⟩ | ⟨rfl, hk⟩ | ⟨rfl, hk⟩
  · rw [jm_ce_0 hk] at g2
    exact va_iald hx hb hG.1 rel.2.1 o.2.toNat 0 g2 rfl i1 (jm_dc_eq (show jm_dc _ pc .iaload 1 = true from hok)) (by rw [i2]; exact nx')
  · rw [jm_ce_1 hk] at g2
    exact va_bald hx hb hG.1 rel.2.1 o.2.toNat 1 g2 rfl i1 (jm_dc_eq (show jm_dc _ pc .baload 1 = true from hok)) (by rw [i2]; exact nx')
  · rw [jm_ce_3 hk] at g2
    exact va_zald hx hb hG.1 rel.2.1 o.2.toNat 3 g2 rfl i1 (jm_dc_eq (show jm_dc _ pc .baload 1 = true from hok)) (by rw [i2]; exact nx')
  · rw [jm_ce_2 hk] at g2
    exact va_lald hx hb hG.1 rel.2.1 o.2.toNat 2 g2 rfl i1 (jm_dc_eq (show jm_dc _ pc .laload 1 = true from hok)) (by rw [i2]; exact nx')
  · rw [jm_ce_4 hk] at g2
    refine va_aldq hx hb hG.1 rel.2.1 o.2.toNat 4 g2 rfl i1 (jm_dc_eq (show jm_dc _ pc .aaload 1 = true from hok)) ?_
    rw [i2]
    have e1 : jm_cv ad fmt (2, cc.2.getD n 0) = va_rf (if cc.2.getD n 0 < 0 then none else some (ad 0 + (cc.2.getD n 0).toNat)) := by
      show (if cc.2.getD n 0 < 0 then Value.null else Value.ref _) = _
      split <;> rfl
    rw [← e1]
    exact nx'
theorem jm_ast_inv {a : Int} {b d : Nat} (hst : jm_ast (16, a, b, d) pc L S h = some (pc', L', S', h')) : ∃ (v j o : jm_V) (r : List jm_V) (cc : jm_C) (n : Nat) (z : Int), S = v :: j :: o :: r ∧ j.1 = 0 ∧ o.1 = 2 ∧ jm_cell h o.2 = some cc ∧ jm_ix j.2 cc.2.length = some n ∧ pc' = pc + 1 ∧ L' = L ∧ S' = r ∧ h' = (h.1.set o.2.toNat (cc.1, cc.2.set n z), h.2) ∧ ((b = 0 ∧ cc.1 = 0 ∧ v.1 = 0 ∧ z = v.2) ∨ (b = 1 ∧ cc.1 = 1 ∧ v.1 = 0 ∧ z = jm_b v.2) ∨ (b = 1 ∧ cc.1 = 3 ∧ v.1 = 0 ∧ z = jm_z v.2) ∨ (b = 2 ∧ cc.1 = 2 ∧ v.1 = 1 ∧ z = v.2) ∨ (b = 3 ∧ cc.1 = 4 ∧ v.1 = 2 ∧ z = v.2 ∧ ∃ c', jm_cell h v.2 = some c' ∧ c'.1 = 10 + d)) := by
  match S, hst with
  | [], hst' => cases hst'
  | [_], hst' => cases hst'
  | [_, _], hst' => cases hst'
  | v :: j :: o :: r, hst' =>
    unfold jm_ast at hst'
    dsimp only at hst'
    split at hst'
    · rename_i h1
      cases hcl : jm_cell h o.2 with
      | none => rw [hcl] at hst'; cases hst'
      | some cc =>
        rw [hcl] at hst'
        dsimp only at hst'
        cases hix : jm_ix j.2 cc.2.length with
        | none => rw [hix] at hst'; cases hst'
        | some n =>
          rw [hix] at hst'
          dsimp only at hst'
          split at hst'
          · rename_i h2
            cases hst'
            exact ⟨v, j, o, _, cc, n, _, rfl, h1.1, h1.2, hcl, hix, rfl, rfl, rfl, rfl, Or.inl ⟨h2.1, h2.2.1, h2.2.2, rfl⟩⟩
          · split at hst'
            · rename_i h2
              cases hst'
              exact ⟨v, j, o, _, cc, n, _, rfl, h1.1, h1.2, hcl, hix, rfl, rfl, rfl, rfl, Or.inr (Or.inl ⟨h2.1, h2.2.1, h2.2.2, rfl⟩)⟩
            · split at hst'
              · rename_i h2
                cases hst'
                exact ⟨v, j, o, _, cc, n, _, rfl, h1.1, h1.2, hcl, hix, rfl, rfl, rfl, rfl, Or.inr (Or.inr (Or.inl ⟨h2.1, h2.2.1, h2.2.2, rfl⟩))⟩
              · split at hst'
                · rename_i h2
                  cases hst'
                  exact ⟨v, j, o, _, cc, n, _, rfl, h1.1, h1.2, hcl, hix, rfl, rfl, rfl, rfl, Or.inr (Or.inr (Or.inr (Or.inl ⟨h2.1, h2.2.1, h2.2.2, rfl⟩)))⟩
                · split at hst'
                  · rename_i h2
                    cases hc2 : jm_cell h v.2 with
                    | none => rw [hc2] at hst'; cases hst'
                    | some c' =>
                      rw [hc2] at hst'
                      dsimp only at hst'
                      split at hst'
                      · rename_i h3
                        cases hst'
                        exact ⟨v, j, o, _, cc, n, _, rfl, h1.1, h1.2, hcl, hix, rfl, rfl, rfl, rfl, Or.inr (Or.inr (Or.inr (Or.inr ⟨h2.1, h2.2.1, h2.2.2, rfl, c', hc2, h3⟩)))⟩
                      · cases hst'
                  · cases hst'
    · cases hst'
theorem jm_s16 {a : Int} {b d : Nat} (C : jm_Cx p R s mi args meth c D aC ad fmt sc m c0 x0) (rel : jm_Rel D aC ad fmt s (g_m m).2.2.1 c0 s0 x0 L h ls H locs cells slots) (hok : jm_ok2 (g_lnk m pc) (g_m m).1 (g_m m).2.1 pc (16, a, b, d) = true)
    (hst : jm_ast (16, a, b, d) pc L S h = some (pc', L', S', h'))
    (nx : jm_Nx p l e R s mi args below meth c Q D aC ad fmt (g_m m).2.2.1 c0 s0 x0 pc' L' S' h') : W p l e R s mi args below meth c H locs cells slots Q (F0 mi pc ls (S.map (jm_cv ad fmt))) := by
  obtain ⟨hx, hb, hml, hown, hts, hG, hnm, hfr, hlo⟩ := C
  obtain ⟨v, j, o, r, cc, n, z, rfl, hj, ho, hcl, hix, rfl, rfl, rfl, rfl, hk⟩ := jm_ast_inv hst
  clear hst
  obtain ⟨g0, g1, g2⟩ := jm_cellw (aC := aC) (ad := ad) (fmt := fmt) hcl
  obtain ⟨i1, i2, i3⟩ := jm_nl_in hix
  have hok2 := Bool.and_eq_true_iff.mp hok
  have hok1 := hok2.1
  have hst2 : (g_cl[d]?).map (fun r => r.1) = some "RideLaws$State" := of_decide_eq_true hok2.2
  clear hok hok2
  rw [List.map_cons, List.map_cons, List.map_cons, jm_cv0 hj, jm_cv2 ho g0]
  have key : ∀ (E : va_E), jm_ce aC ad fmt (cc.1, cc.2.set n z) = E → ∀ (H1 : Heap) (locs1 : List Loc), va_P D g_cl ((jm_ws aC ad fmt h.1).set o.2.toNat (ad 0 + o.2.toNat, E)) H1 → va_D (jm_A ad) ((jm_ws aC ad fmt h.1).set o.2.toNat (ad 0 + o.2.toNat, E)) → va_S (jm_A ad) s.heap H1 locs1 → W p l e R s mi args below meth c H1 locs1 cells slots Q (F0 mi (pc + 1) ls (S'.map (jm_cv ad fmt))) := by
    intro E hE H1 locs1 hP1 _ hS1
    refine nx ls H1 locs1 cells slots ⟨rel.1, ?_, hS1, rel.2.2.2.1, ?_, ?_⟩
    · dsimp only
      rw [jm_wsset, hE]
      exact hP1
    · rw [rel.2.2.2.2.1]; simp [jm_cn]
    · rw [rel.2.2.2.2.2]
      unfold jm_sl
      dsimp only
      rw [jm_slset g1 (by simp)]
  rcases hk with ⟨rfl, hk, hv, rfl⟩ | ⟨rfl, hk, hv, rfl⟩ | ⟨rfl, hk, hv, rfl⟩ | ⟨rfl, hk, hv, rfl⟩ | ⟨rfl, hk, hv, rfl, c', hc', hd'⟩
  · rw [jm_ce_0 hk] at g2
    rw [jm_cv0 hv]
    exact va_iast hx hb hG.1 rel.2.1 (jm_wsD _) rel.2.2.1 o.2.toNat 0 g2 rfl i1 (jm_dc_eq (show jm_dc _ pc .iastore 1 = true from hok1)) (key _ (by rw [jm_ce_0 (c := (cc.1, cc.2.set n v.2)) hk, i2, jm_updI _ _ i3]; simp))
  · rw [jm_ce_1 hk] at g2
    rw [jm_cv0 hv]
    refine va_bast hx hb hG.1 rel.2.1 (jm_wsD _) rel.2.2.1 o.2.toNat 1 g2 rfl i1 (jm_dc_eq (show jm_dc _ pc .bastore 1 = true from hok1)) (key _ ?_)
    rw [jm_ce_1 (c := (cc.1, cc.2.set n (jm_b v.2))) hk, i2, ← jm_of32 (vp_nar .byte (Int32.ofInt v.2)), jm_updI _ _ i3]
    simp [jm_b]
  · rw [jm_ce_3 hk] at g2
    rw [jm_cv0 hv]
    refine va_zast hx hb hG.1 rel.2.1 (jm_wsD _) rel.2.2.1 o.2.toNat 3 g2 rfl i1 (jm_dc_eq (show jm_dc _ pc .bastore 1 = true from hok1)) (key _ ?_)
    rw [jm_ce_3 (c := (cc.1, cc.2.set n (jm_z v.2))) hk, i2, ← jm_of32 (vp_nar .boolean (Int32.ofInt v.2)), jm_updI _ _ i3]
    simp [jm_z]
  · rw [jm_ce_2 hk] at g2
    rw [jm_cv1 hv]
    exact va_last hx hb hG.1 rel.2.1 (jm_wsD _) rel.2.2.1 o.2.toNat 2 g2 rfl i1 (jm_dc_eq (show jm_dc _ pc .lastore 1 = true from hok1)) (key _ (by rw [jm_ce_2 (c := (cc.1, cc.2.set n v.2)) hk, i2, jm_updL _ _ i3]; simp))
  · rw [jm_ce_4 hk] at g2
    obtain ⟨k0, k1, k2⟩ := jm_cellw (aC := aC) (ad := ad) (fmt := fmt) hc'
    rw [jm_ce_obj hd'] at k2
    rw [jm_cv2 hv k0]
    cases hr : g_cl[d]? with
    | none => rw [hr] at hst2; cases hst2
    | some rr =>
      rw [hr] at hst2
      have e2 : rr.1 = "RideLaws$State" := Option.some.inj hst2
      refine va_astq hx hb hG.1 rel.2.1 (jm_wsD _) rel.2.2.1 o.2.toNat 4 v.2.toNat d g2 (by rw [e2]; rfl) k2 hr i1 (jm_dc_eq (show jm_dc _ pc .aastore 1 = true from hok1)) (key _ ?_)
      have e3 : (fun j => if (cc.2.set n v.2).getD j 0 < 0 then none else some (ad 0 + ((cc.2.set n v.2).getD j 0).toNat)) = va_up (fun j => if cc.2.getD j 0 < 0 then none else some (ad 0 + (cc.2.getD j 0).toNat)) n (some (ad 0 + v.2.toNat)) := by
        funext q
        rw [jm_getD_set _ _ _ _ i3]
        unfold va_up
        by_cases hq : q = n
        · simp only [if_pos hq]
          rw [if_neg (by omega)]
        · simp only [if_neg hq]
      rw [jm_ce_4 (c := (cc.1, cc.2.set n v.2)) hk, i2]
      dsimp only
      rw [e3, List.length_set]
end
end
section
theorem jm_aw0 : Cond.arrayClass .int ∈ jm_W := by decide +kernel
theorem jm_aw1 : Cond.arrayClass .byte ∈ jm_W := by decide +kernel
theorem jm_aw2 : Cond.arrayClass .long ∈ jm_W := by decide +kernel
theorem jm_aw3 : Cond.arrayClass .boolean ∈ jm_W := by decide +kernel
theorem jm_ft3 : g_ft.all (fun l => l.all (fun t => decide (t < 4))) = true := by decide +kernel
theorem jm_ftlt {b k t : Nat} (h : (g_ft.getD b [])[k]? = some t) : t < 4 := by
  have h1 := List.mem_of_getElem? h
  by_cases hb : b < g_ft.length
  · rw [List.getD_eq_getElem?_getD, List.getElem?_eq_getElem hb] at h1
    have h2 := List.all_eq_true.mp jm_ft3 _ (List.getElem_mem hb)
    exact of_decide_eq_true (List.all_eq_true.mp h2 t h1)
  · rw [List.getD_eq_getElem?_getD, List.getElem?_eq_none (by omega)] at h1
    cases h1
section
variable {p : Program} {l : Launch} {e : Env} {R : Room} {s : State} {mi : MethodId} {args : Array Value} {below : List Frame} {meth : Method} {c : Code} {Q : State → Prop}
variable {D : va_G} {aC : Nat → ClassId} {ad : Nat → Nat} {fmt : Value} {sc : List Int} {m c0 s0 x0 : Nat}
variable {pc pc' : Nat} {L L' : jm_L} {S S' : List jm_V} {h h' : jm_H} {ls : Array Slot} {H : Heap} {locs : List Loc} {cells slots : Nat}
theorem jm_Wsz {g : JFrame} (k : H.size ≤ s.heap.size + cells → W p l e R s mi args below meth c H locs cells slots Q g) : W p l e R s mi args below meth c H locs cells slots Q g :=
  fun T hT X => k (by rw [← hT]; exact X.heapSize) T hT X
theorem jm_lo {cs : List jm_C} (hP : va_P D g_cl (jm_ws aC ad fmt cs) H) (h0 : ad 0 ≤ H.size) : ad 0 + cs.length ≤ H.size := by
  cases hc : cs.length with
  | zero => exact h0
  | succ k =>
    have h1 : cs[k]? = some cs[k] := List.getElem?_eq_getElem (by omega)
    have h2 := (hP k _ (by rw [jm_wsg, h1]; rfl)).lt
    dsimp only at h2
    omega
theorem jm_szeq (hs0 : x0 = 0 → s.heap.size = ad 0 + c0) (hG : ad 0 ≤ s.heap.size) (rel : jm_Rel D aC ad fmt s (g_m m).2.2.1 c0 s0 x0 L h ls H locs cells slots) (h2 : h.2 = 0) (hz : H.size ≤ s.heap.size + cells) : H.size = ad 0 + h.1.length := by
  have r1 := rel.2.2.2.1
  have r2 := rel.2.2.2.2.1
  have r3 := hs0 (by omega)
  have r4 := jm_lo rel.2.1 (Nat.le_trans hG rel.2.2.1.1)
  unfold jm_cn at r2
  omega
theorem jm_pushed {c' : jm_C} {H1 : Heap} (rel : jm_Rel D aC ad fmt s (g_m m).2.2.1 c0 s0 x0 L h ls H locs cells slots) (hz : H.size = ad 0 + h.1.length) (z1 : H1.size = H.size + 1) (o1 : ∀ q, q < H.size → H1[q]? = H[q]?) (e1 : va_at D g_cl (ad 0 + h.1.length, jm_ce aC ad fmt c') H1) :
    jm_Rel D aC ad fmt s (g_m m).2.2.1 c0 s0 x0 L (h.1 ++ [c'], h.2) ls H1 locs (cells + 1) (slots + c'.2.length) := by
  obtain ⟨r0, r1, r2, r3, r4, r5⟩ := rel
  refine ⟨r0, ?_, ⟨by rw [z1]; exact Nat.le_trans r2.1 (by omega), fun q h1 h2 => (o1 q (Nat.lt_of_lt_of_le h1 r2.1)).trans (r2.2.1 q h1 h2), r2.2.2⟩, r3, ?_, ?_⟩
  · dsimp only
    rw [jm_wsapp]
    refine va_P.app (r1.kept fun k x hx => o1 x.1 ((r1 k x hx).lt)) (fun k x hx => ?_)
    have hk : k < 1 := (List.getElem?_eq_some_iff.mp hx).1
    rw [show k = 0 by omega] at hx
    cases hx
    exact e1
  · unfold jm_cn at r4 ⊢
    dsimp only at r4 ⊢
    rw [List.length_append, List.length_singleton]
    omega
  · unfold jm_sl at r5 ⊢
    dsimp only at r5 ⊢
    rw [List.map_append, List.sum_append, List.map_singleton, List.sum_singleton]
    omega
theorem jm_rep0 (N j : Nat) : (List.replicate N (0 : Int)).getD j 0 = 0 := by
  rw [List.getD_eq_getElem?_getD, List.getElem?_replicate]
  split <;> rfl
theorem jm_zd {α β γ : Type} (f : α → β → γ) (g : α → β) (ts : List α) (k : Nat) (t : α) (d : γ) (ht : ts[k]? = some t) : (List.zipWith f ts (ts.map g)).getD k d = f t (g t) := by
  rw [List.getD_eq_getElem?_getD, List.getElem?_zipWith, List.getElem?_map, ht]
  rfl
theorem jm_arrVc {cA : ClassId} {n : Nat} {f g : Nat → Value} (h : ∀ j, j < n → f j = g j) : arrV cA n f = arrV cA n g := by
  unfold arrV
  congr 1
  apply Array.ext (by simp)
  intro i h1 h2
  simp at h1
  simp [h i h1]
theorem jm_newa_inv {a : Int} {b d : Nat} (hst : jm_newa (17, a, b, d) pc L S h = some (pc', L', S', h')) : ∃ (v : jm_V) (r : List jm_V), S = v :: r ∧ v.1 = 0 ∧ 0 ≤ jm_n v.2 ∧ jm_n v.2 ≤ 100000 ∧ h.2 = 0 ∧ pc' = pc + (if b = 4 then 3 else 2) ∧ L' = L ∧ S' = (2, (h.1.length : Int)) :: r ∧ h' = (h.1 ++ [(b, List.replicate (jm_n v.2).toNat (if b = 4 then -1 else 0))], h.2) := by
  match S, hst with
  | [], hst' => cases hst'
  | v :: r, hst' =>
    unfold jm_newa at hst'
    dsimp only at hst'
    split at hst'
    · rename_i hc
      cases hst'
      exact ⟨v, r, rfl, hc.1, hc.2.1, hc.2.2.1, hc.2.2.2, rfl, rfl, rfl, rfl⟩
    · cases hst'
theorem jm_s17 {a : Int} {b d : Nat} (C : jm_Cx p R s mi args meth c D aC ad fmt sc m c0 x0) (rel : jm_Rel D aC ad fmt s (g_m m).2.2.1 c0 s0 x0 L h ls H locs cells slots) (hok : jm_ok2 (g_lnk m pc) (g_m m).1 (g_m m).2.1 pc (17, a, b, d) = true)
    (hst : jm_newa (17, a, b, d) pc L S h = some (pc', L', S', h')) (hbd : jm_cn h' ≤ c0 + R.cells ∧ jm_sl h' ≤ s0 + R.slots)
    (nx : jm_Nx p l e R s mi args below meth c Q D aC ad fmt (g_m m).2.2.1 c0 s0 x0 pc' L' S' h') : W p l e R s mi args below meth c H locs cells slots Q (F0 mi pc ls (S.map (jm_cv ad fmt))) := by
  obtain ⟨hx, hb, hml, hown, hts, hG, hnm, hfr, hlo, hs0, htab⟩ := C
  obtain ⟨v, r, rfl, hv, hn0, hn1, h20, rfl, rfl, rfl, rfl⟩ := jm_newa_inv hst
  clear hst
  have hG0 : ad 0 ≤ s.heap.size := hG.2.2.2.2.2.2.2.2.2.1
  refine jm_Wsz fun hz0 => ?_
  have hz := jm_szeq hs0 hG0 rel h20 hz0
  have r4 := rel.2.2.2.2.1
  have r5 := rel.2.2.2.2.2
  have hcl : (Int32.ofInt v.2).toNatClampNeg = (jm_n v.2).toNat := rfl
  have hneg : ¬ Int32.ofInt v.2 < 0 := by
    rw [show (0 : Int32) = Int32.ofInt 0 from rfl, jm_ltI]
    show ¬ jm_n v.2 < 0
    omega
  have hb1 := hbd.1
  have hb2 := hbd.2
  unfold jm_cn at hb1 r4
  unfold jm_sl at hb2 r5
  dsimp only at hb1 hb2 r4 r5
  rw [List.length_append, List.length_singleton] at hb1
  rw [List.map_append, List.sum_append, List.map_singleton, List.sum_singleton, List.length_replicate] at hb2
  have hcells : cells + 1 ≤ R.cells := by omega
  have hslots : slots + (jm_n v.2).toNat ≤ R.slots := by omega
  rw [List.map_cons, jm_cv0 hv]
  have fin : ∀ (H1 : Heap), H1.size = H.size + 1 → (∀ q, q < H.size → H1[q]? = H[q]?) → va_at D g_cl (ad 0 + h.1.length, jm_ce aC ad fmt (b, List.replicate (jm_n v.2).toNat (if b = 4 then -1 else 0))) H1 → W p l e R s mi args below meth c H1 locs (cells + 1) (slots + (jm_n v.2).toNat) Q (F0 mi (pc + (if b = 4 then 3 else 2)) ls (.ref H.size :: r.map (jm_cv ad fmt))) := by
    intro H1 z1 o1 e1
    have q := nx ls H1 locs (cells + 1) (slots + (jm_n v.2).toNat) (by
      have q := jm_pushed rel hz z1 o1 e1
      dsimp only at q
      rw [List.length_replicate] at q
      exact q)
    rw [List.map_cons, jm_cv2 (v := (2, (h.1.length : Int))) rfl (Int.natCast_nonneg _)] at q
    rw [hz]
    exact q
  by_cases hb4 : b = 4
  · subst hb4
    simp only [jm_ok2, if_true, Bool.and_eq_true] at hok
    have hK4 := (hG.1.2 4 _ rfl).2
    obtain ⟨kA, comp, k1, k2, k3, k4⟩ := hK4
    refine W.anew hx hb hown (hts _ (jm_w_in hok.2)) (va_AO.use hG.2.2.2.2.2.2.2.2.2.2.2.1.1) rfl (jm_dc_eq hok.1) rfl hneg (by rw [hcl]; omega) hcells (by rw [hcl]; exact hslots) fun cA kA' comp' f1 f2 f3 f4 => ?_
    have hcA : cA = aC 4 := Option.some.inj (f1.symm.trans k4)
    subst hcA
    rw [hcl]
    refine fin _ (by rw [Array.size_push]) (fun q hq => by rw [Array.getElem?_push, if_neg (Nat.ne_of_lt hq)]) ?_
    show _ = some (vp_cell _ _)
    rw [← hz, Array.getElem?_push_size, arrV_new]
    congr 1
    dsimp only
    rw [vp_cell_q, List.length_replicate]
    refine jm_arrVc fun j hj => ?_
    rw [List.getD_eq_getElem?_getD, List.getElem?_replicate, if_pos hj]
    rfl
  · rw [if_neg hb4] at fin
    simp only [jm_ok2, if_neg hb4, Bool.and_eq_true, decide_eq_true_eq] at hok
    obtain ⟨hd, hb5⟩ := hok
    match b, hd, hb5, fin with
    | 0, hd, _, fin =>
      refine va_newaK (atype := .int) hx hb (hts _ jm_aw0) rfl (jm_dc_eq hd) rfl hneg hcl (by show _ * 4 ≤ _; omega) hcells hslots rfl fun H' cA e1 z1 o1 hAr hNm => fin H' z1 o1 ?_
      have hcA : cA = aC 0 := Option.some.inj (hNm.symm.trans (hG.1.2 0 _ rfl).2)
      subst hcA
      show H'[ad 0 + h.1.length]? = some (vp_cell _ _)
      rw [← hz, e1, vp_cell_i]
      congr 2
      · rw [List.length_replicate]
      · funext j; rw [jm_rep0]; rfl
    | 1, hd, _, fin =>
      refine va_newaK (atype := .byte) hx hb (hts _ jm_aw1) rfl (jm_dc_eq hd) rfl hneg hcl (by show _ * 1 ≤ _; omega) hcells hslots rfl fun H' cA e1 z1 o1 hAr hNm => fin H' z1 o1 ?_
      have hcA : cA = aC 1 := Option.some.inj (hNm.symm.trans (hG.1.2 1 _ rfl).2)
      subst hcA
      show H'[ad 0 + h.1.length]? = some (vp_cell _ _)
      rw [← hz, e1, vp_cell_i]
      congr 2
      · rw [List.length_replicate]
      · funext j; rw [jm_rep0]; rfl
    | 2, hd, _, fin =>
      refine va_newaK (atype := .long) hx hb (hts _ jm_aw2) rfl (jm_dc_eq hd) rfl hneg hcl (by show _ * 8 ≤ _; omega) hcells hslots rfl fun H' cA e1 z1 o1 hAr hNm => fin H' z1 o1 ?_
      have hcA : cA = aC 2 := Option.some.inj (hNm.symm.trans (hG.1.2 2 _ rfl).2)
      subst hcA
      show H'[ad 0 + h.1.length]? = some (vp_cell _ _)
      rw [← hz, e1, vp_cell_l]
      congr 2
      · rw [List.length_replicate]
      · funext j; rw [jm_rep0]; rfl
    | 3, hd, _, fin =>
      refine va_newaK (atype := .boolean) hx hb (hts _ jm_aw3) rfl (jm_dc_eq hd) rfl hneg hcl (by show _ * 1 ≤ _; omega) hcells hslots rfl fun H' cA e1 z1 o1 hAr hNm => fin H' z1 o1 ?_
      have hcA : cA = aC 3 := Option.some.inj (hNm.symm.trans (hG.1.2 3 _ rfl).2)
      subst hcA
      show H'[ad 0 + h.1.length]? = some (vp_cell _ _)
      rw [← hz, e1, vp_cell_i]
      congr 2
      · rw [List.length_replicate]
      · funext j; rw [jm_rep0]; rfl
    | b + 4, _, hb5, _ => omega
theorem jm_s18 {a : Int} {b d : Nat} (C : jm_Cx p R s mi args meth c D aC ad fmt sc m c0 x0) (rel : jm_Rel D aC ad fmt s (g_m m).2.2.1 c0 s0 x0 L h ls H locs cells slots) (hok : jm_ok2 (g_lnk m pc) (g_m m).1 (g_m m).2.1 pc (18, a, b, d) = true)
    (hst : jm_new (18, a, b, d) pc L S h = some (pc', L', S', h')) (hbd : jm_cn h' ≤ c0 + R.cells ∧ jm_sl h' ≤ s0 + R.slots)
    (nx : jm_Nx p l e R s mi args below meth c Q D aC ad fmt (g_m m).2.2.1 c0 s0 x0 pc' L' S' h') : W p l e R s mi args below meth c H locs cells slots Q (F0 mi pc ls (S.map (jm_cv ad fmt))) := by
  obtain ⟨hx, hb, hml, hown, hts, hG, hnm, hfr, hlo, hs0, htab⟩ := C
  unfold jm_new at hst
  dsimp only at hst
  split at hst
  · rename_i h20
    cases hst
    simp only [jm_ok2, Bool.and_eq_true, decide_eq_true_eq] at hok
    obtain ⟨⟨⟨⟨hd, hbl⟩, w1⟩, w2⟩, w3⟩ := hok
    obtain ⟨rr, hrr⟩ : ∃ rr, g_cl[b]? = some rr := ⟨_, List.getElem?_eq_getElem hbl⟩
    rw [hrr] at w1 w2 w3
    obtain ⟨CC, T, N⟩ := rr
    obtain ⟨f1, f2, f3, f4, f5⟩ := jm_cl_facts hrr
    dsimp only [Option.getD] at w1 w2 w3 f1 f2 f3 f4 f5
    have hG0 : ad 0 ≤ s.heap.size := hG.2.2.2.2.2.2.2.2.2.1
    refine jm_Wsz fun hz0 => ?_
    have hz := jm_szeq hs0 hG0 rel h20 hz0
    have r4 := rel.2.2.2.2.1
    have r5 := rel.2.2.2.2.2
    have hb1 := hbd.1
    have hb2 := hbd.2
    have hdl : (jm_def b).length = N := by unfold jm_def; rw [List.length_map, f5]
    unfold jm_cn at hb1 r4
    unfold jm_sl at hb2 r5
    dsimp only at hb1 hb2 r4 r5
    rw [List.length_append, List.length_singleton] at hb1
    rw [List.map_append, List.sum_append, List.map_singleton, List.sum_singleton, hdl] at hb2
    have hKn := hG.1.1 b _ hrr
    refine W.newcK hx hb hown (hts _ (jm_w_in w1)) (hts _ (jm_w_in w2)) (hts _ (jm_w_in w3)) rfl (jm_dc_eq hd) (by omega) (by omega) hKn.2.1 rfl fun H1 kC hkC e1 z1 o1 => ?_
    have q := nx ls H1 locs (cells + 1) (slots + N) (by
      have q := jm_pushed (c' := (10 + b, jm_def b)) rel hz z1 o1 (by
        rw [jm_ce_obj rfl]
        refine ⟨_, hrr, ?_⟩
        rw [← hz]
        refine (u_born _ hts f1 hKn hkC e1 f2).to (fun k hk => ?_)
        have hk2 := f3 k hk
        unfold vp_V jm_def
        dsimp only
        rw [jm_zd _ _ _ _ _ _ hk2]
        have hlt := jm_ftlt hk2
        generalize g_yl.getD b g_Y0 k = ty at hlt ⊢
        cases ty <;> first | rfl | exact absurd hlt (by decide))
      dsimp only at q
      rw [hdl] at q
      exact q)
    rw [List.map_cons, jm_cv2 (v := (2, (h.1.length : Int))) rfl (Int.natCast_nonneg _)] at q
    rw [hz]
    exact q
  · cases hst
end
end
section
theorem jm_aw4 : Cond.instanceMethod Lib.objectInit ∈ jm_W := by decide +kernel
theorem jm_aw5 : Cond.code Lib.objectInit ⟨#[0xb1]⟩ 1 none ∈ jm_W := by decide +kernel
theorem jm_aw6 : Cond.native arraycopyName ∈ jm_W := by decide +kernel
theorem jm_aw7 : Cond.static arraycopyName ∈ jm_W := by decide +kernel
theorem jm_aw8 : Cond.initialized "java/lang/System" ∈ jm_W := by decide +kernel
theorem jm_aw9 : Cond.static Lib.Math.max.name ∈ jm_W := by decide +kernel
theorem jm_aw10 : Cond.initialized "java/lang/Math" ∈ jm_W := by decide +kernel
theorem jm_aw11 : Cond.code Lib.Math.max.name Lib.Math.max.code 2 (some .int) ∈ jm_W := by decide +kernel
theorem jm_aw12 : Cond.static Lib.Math.min.name ∈ jm_W := by decide +kernel
theorem jm_aw13 : Cond.code Lib.Math.min.name Lib.Math.min.code 2 (some .int) ∈ jm_W := by decide +kernel
theorem jm_slen : g_strs.length = g_str.length := by decide +kernel
section
variable {aC : Nat → ClassId} {ad : Nat → Nat} {fmt : Value}
theorem jm_catm (hf : fmt.category = 1) (S : List jm_V) : ((S.map (jm_cv ad fmt)).map fun v => v.category).sum = jm_cat S := by
  unfold jm_cat
  rw [List.map_map]
  congr 1
  apply List.map_congr_left
  intro v _
  exact jm_cvc hf v
theorem jm_cpy_len (f g : List Int) (sp dp n : Nat) (h1 : sp + n ≤ f.length) (h2 : dp + n ≤ g.length) : (jm_cpy f g sp dp n).length = g.length := by
  unfold jm_cpy
  simp only [List.length_append, List.length_take, List.length_drop]
  omega
theorem jm_cpy_get (f g : List Int) (sp dp n j : Nat) (h1 : sp + n ≤ f.length) (h2 : dp + n ≤ g.length) : (jm_cpy f g sp dp n).getD j 0 = if dp ≤ j ∧ j < dp + n then f.getD (sp + (j - dp)) 0 else g.getD j 0 := by
  unfold jm_cpy
  simp only [List.getD_eq_getElem?_getD]
  by_cases hj : j < dp
  · rw [List.getElem?_append_left (by simp only [List.length_take]; omega), List.getElem?_take, if_pos hj, if_neg (by omega)]
  · rw [List.getElem?_append_right (by simp only [List.length_take]; omega)]
    have e1 : (g.take dp).length = dp := by rw [List.length_take]; omega
    rw [e1]
    by_cases hj2 : j < dp + n
    · rw [List.getElem?_append_left (by simp only [List.length_take, List.length_drop]; omega), List.getElem?_take, if_pos (by omega), List.getElem?_drop, if_pos (by omega)]
    · rw [List.getElem?_append_right (by simp only [List.length_take, List.length_drop]; omega), List.getElem?_drop, if_neg (by omega)]
      congr 2
      simp only [List.length_take, List.length_drop]
      omega
end
section
variable {p : Program} {l : Launch} {e : Env} {R : Room} {s : State} {mi : MethodId} {args : Array Value} {below : List Frame} {meth : Method} {c : Code} {Q : State → Prop}
variable {D : va_G} {aC : Nat → ClassId} {ad : Nat → Nat} {fmt : Value} {sc : List Int} {m c0 s0 x0 : Nat}
variable {pc pc' : Nat} {L L' : jm_L} {S S' : List jm_V} {h h' : jm_H} {ls : Array Slot} {H : Heap} {locs : List Loc} {cells slots : Nat}
theorem jm_ldcSW {cc : ByteArray} {rest : List Value} (hexec : p.tables.exec = Jvm.exec) (hb : c.code = cc) {own tx : String} {index q : Nat} (hown : s.vm.findClass own = some mi.cls) (hZ : vk_R own index tx q s) (hdg : decode cc pc = .ok (.ldc_w index, 3))
    (k : W p l e R s mi args below meth c H locs cells slots Q (F0 mi (pc + 3) ls (.ref q :: rest))) : W p l e R s mi args below meth c H locs cells slots Q (F0 mi pc ls rest) := by
  intro T hT X
  obtain ⟨t, a1, b1⟩ := k T hT X
  exact ⟨t, X.ldcStringW hexec hown (text := tx) (a := q) hZ.1 hZ.2 (g := F0 mi pc ls rest) rfl (by rw [hb]; exact hdg) t a1, b1⟩
theorem jm_s19 {a : Int} {b d : Nat} (C : jm_Cx p R s mi args meth c D aC ad fmt sc m c0 x0) (rel : jm_Rel D aC ad fmt s (g_m m).2.2.1 c0 s0 x0 L h ls H locs cells slots) (hok : jm_ok2 (g_lnk m pc) (g_m m).1 (g_m m).2.1 pc (19, a, b, d) = true)
    (nx : jm_Nx p l e R s mi args below meth c Q D aC ad fmt (g_m m).2.2.1 c0 s0 x0 (pc + 2 + d) L ((4, 10 + 2 * (b : Int)) :: S) h) : W p l e R s mi args below meth c H locs cells slots Q (F0 mi pc ls (S.map (jm_cv ad fmt))) := by
  obtain ⟨hx, hb, hml, hown, hts, hG, hnm, hfr, hlo, hs0, htab⟩ := C
  simp only [jm_ok2, Bool.and_eq_true, decide_eq_true_eq] at hok
  obtain ⟨⟨⟨hd, hb1⟩, h1⟩, h2⟩ := hok
  have hR := hG.2.2.1 b hb1
  rw [h1, h2] at hR
  have nx' := nx ls H locs cells slots rel
  rw [List.map_cons, jm_cv4 (v := (4, _)) rfl, show (10 + 2 * (b : Int)).toNat = 10 + 2 * b by omega] at nx'
  split at hd
  · rename_i hd0
    subst hd0
    exact va_ldcS hx hb hown hR (jm_dc_eq hd) nx'
  · simp only [Bool.and_eq_true, decide_eq_true_eq] at hd
    obtain ⟨hd, rfl⟩ := hd
    exact jm_ldcSW hx hb hown hR (jm_dc_eq hd) nx'
theorem jm_s20 {a : Int} {b d : Nat} (C : jm_Cx p R s mi args meth c D aC ad fmt sc m c0 x0) (rel : jm_Rel D aC ad fmt s (g_m m).2.2.1 c0 s0 x0 L h ls H locs cells slots) (hok : jm_ok2 (g_lnk m pc) (g_m m).1 (g_m m).2.1 pc (20, a, b, d) = true)
    (hst : jm_tsw (20, a, b, d) L S h = some (pc', L', S', h'))
    (nx : jm_Nx p l e R s mi args below meth c Q D aC ad fmt (g_m m).2.2.1 c0 s0 x0 pc' L' S' h') : W p l e R s mi args below meth c H locs cells slots Q (F0 mi pc ls (S.map (jm_cv ad fmt))) := by
  obtain ⟨hx, hb, hml, hown, hts, hG, hnm, hfr, hlo, hs0, htab⟩ := C
  have hok2 : (match decode (g_m m).2.1 pc with
    | .ok (.tableswitch dd lo hi offs, _) => decide (lo = a) && decide (hi = lo + ((g_sw.getD d []).length : Int) - 1) && decide ((pc : Int) + dd = b) && decide (offs.toList.map (fun o => (pc : Int) + o) = (g_sw.getD d []).map (fun t : Nat => (t : Int)))
    | _ => false) = true := hok
  clear hok
  split at hok2
  · rename_i dd lo hi offs n hdec
    simp only [Bool.and_eq_true, decide_eq_true_eq] at hok2
    obtain ⟨⟨⟨rfl, e2⟩, e3⟩, e4⟩ := hok2
    match S, hst with
    | [], hst' => cases hst'
    | x :: r, hst' =>
      unfold jm_tsw at hst'
      dsimp only at hst'
      split at hst'
      · rename_i hx0
        rw [List.map_cons, jm_cv0 hx0]
        split at hst'
        · rename_i hout
          cases hst'
          exact lv_tableOut hx hb hdec (by rw [jm_nn]; omega) e3 (nx ls H locs cells slots rel)
        · rename_i hin
          cases ht : (g_sw.getD d [])[(jm_n x.2 - lo).toNat]? with
          | none => rw [ht] at hst'; cases hst'
          | some t =>
            rw [ht] at hst'
            cases hst'
            have e5 : (offs.toList.map (fun o => (pc : Int) + o))[(jm_n x.2 - lo).toNat]? = some (pc' : Int) := by
              rw [e4, List.getElem?_map, ht]; rfl
            rw [List.getElem?_map] at e5
            cases ho : offs.toList[(jm_n x.2 - lo).toNat]? with
            | none => rw [ho] at e5; cases e5
            | some o =>
              rw [ho] at e5
              have e6 : (pc : Int) + o = (pc' : Int) := Option.some.inj e5
              exact lv_tableIn hx hb hdec (by rw [jm_nn]; omega) (by rw [jm_nn]; omega) (off := o) (by rw [jm_nn, ← Array.getElem?_toList]; exact ho) e6 (nx ls H locs cells slots rel)
      · cases hst'
  · cases hok2
theorem jm_s21 {a : Int} {b d : Nat} (C : jm_Cx p R s mi args meth c D aC ad fmt sc m c0 x0) (rel : jm_Rel D aC ad fmt s (g_m m).2.2.1 c0 s0 x0 L h ls H locs cells slots) (hok : jm_ok2 (g_lnk m pc) (g_m m).1 (g_m m).2.1 pc (21, a, b, d) = true)
    (hst : jm_gets (21, a, b, d) pc L S h = some (pc', L', S', h'))
    (nx : jm_Nx p l e R s mi args below meth c Q D aC ad fmt (g_m m).2.2.1 c0 s0 x0 pc' L' S' h') : W p l e R s mi args below meth c H locs cells slots Q (F0 mi pc ls (S.map (jm_cv ad fmt))) := by
  obtain ⟨hx, hb, hml, hown, hts, hG, hnm, hfr, hlo, hs0, htab⟩ := C
  simp only [jm_ok2, Bool.and_eq_true, decide_eq_true_eq] at hok
  obtain ⟨⟨hd, hb1⟩, hw⟩ := hok
  match b, hst, hw with
  | 0, hst, hw =>
    cases hst
    exact va_gets hx hb hG.2.2.2.1 rel.2.2.1 hown (hts _ (jm_w_in hw)) (fun x h => h) (jm_dc_eq hd) (nx ls H locs cells slots rel)
  | 1, hst, hw =>
    cases hst
    exact va_gets hx hb hG.2.2.2.2.1 rel.2.2.1 hown (hts _ (jm_w_in hw)) (fun x h => h) (jm_dc_eq hd) (nx ls H locs cells slots rel)
  | 2, hst, hw =>
    cases hst
    exact va_gets hx hb hG.2.2.2.2.2.1 rel.2.2.1 hown (hts _ (jm_w_in hw)) (fun x h => h) (jm_dc_eq hd) (nx ls H locs cells slots rel)
  | b + 3, hst, hw => cases hst
theorem jm_strix {z : Int} (h1 : 10 ≤ z) (h2 : z < 10 + 2 * g_str.length) (h3 : z % 2 = 0) : ∃ k : Nat, k < g_strs.length ∧ z.toNat = 10 + 2 * k ∧ (z + 1).toNat = 11 + 2 * k := by
  have := jm_slen
  exact ⟨(z.toNat - 10) / 2, by omega, by omega, by omega⟩
theorem jm_strix1 {z : Int} (h1 : 10 ≤ z) (h2 : z < 10 + 2 * g_str.length) (h3 : z % 2 = 1) : ∃ k : Nat, k < g_strs.length ∧ z.toNat = 11 + 2 * k ∧ z.toNat / 2 - 5 = k := by
  have := jm_slen
  exact ⟨(z.toNat - 11) / 2, by omega, by omega, by omega⟩
theorem jm_strT {k : Nat} {U : State} {Hh : Heap} (hG : jm_G D aC ad fmt sc U Hh) (hk : k < g_strs.length) : va_T .byte (ad (11 + 2 * k)) (g_str.getD k []).length (fun j => .int (Int32.ofInt ((g_str.getD k []).getD j 0))) (jm_A ad) U Hh := by
  have h1 := (hG.2.1.1 k hk).2.2.2
  have hl : k < g_str.length := by rw [← jm_slen]; exact hk
  have e1 : (g_str.map List.length).getD k 0 = (g_str.getD k []).length := by
    rw [List.getD_eq_getElem?_getD, List.getD_eq_getElem?_getD, List.getElem?_map, List.getElem?_eq_getElem hl]; rfl
  have e2 : (fun j => Value.int (((g_str.map (List.map Int32.ofInt)).getD k []).getD j 0)) = (fun j => Value.int (Int32.ofInt ((g_str.getD k []).getD j 0))) := by
    funext j
    simp only [List.getD_eq_getElem?_getD, List.getElem?_map, List.getElem?_eq_getElem hl]
    show Value.int (((g_str[k].map Int32.ofInt)[j]?).getD 0) = Value.int (Int32.ofInt ((g_str[k][j]?).getD 0))
    rw [List.getElem?_map]
    cases g_str[k][j]? <;> rfl
  rw [e1, e2] at h1
  exact h1
theorem jm_s22 {a : Int} {b d : Nat} (C : jm_Cx p R s mi args meth c D aC ad fmt sc m c0 x0) (rel : jm_Rel D aC ad fmt s (g_m m).2.2.1 c0 s0 x0 L h ls H locs cells slots) (hok : jm_ok2 (g_lnk m pc) (g_m m).1 (g_m m).2.1 pc (22, a, b, d) = true)
    (hst : jm_spec sc (22, a, b, d) pc L S h = some (pc', L', S', h'))
    (nx : jm_Nx p l e R s mi args below meth c Q D aC ad fmt (g_m m).2.2.1 c0 s0 x0 pc' L' S' h') : W p l e R s mi args below meth c H locs cells slots Q (F0 mi pc ls (S.map (jm_cv ad fmt))) := by
  obtain ⟨hx, hb, hml, hown, hts, hG, hnm, hfr, hlo, hs0, htab⟩ := C
  have hX := hG.2.2.2.2.2.2.2.1
  have h20 : ad 2 < ad 0 := hG.2.2.2.2.2.2.2.2.1
  have hG0 : ad 0 ≤ s.heap.size := hG.2.2.2.2.2.2.2.2.2.1
  unfold jm_spec at hst
  dsimp only at hst
  split at hst
  · rename_i j o r
    split at hst
    · rename_i hc
      cases hix : jm_ix j.2 g_most.length with
      | none => rw [hix] at hst; cases hst
      | some n =>
        rw [hix] at hst
        cases hst
        obtain ⟨i1, i2, i3⟩ := jm_nl_in hix
        rw [List.map_cons, List.map_cons, jm_cv0 hc.1, hc.2]
        exact va_ti hx hb hG.2.2.2.2.2.2.1 rel.2.2.1 i1 (by rw [i2]; rfl) (jm_dc_eq (show jm_dc _ pc .iaload 1 = true from hok)) (nx ls H locs cells slots rel)
    · cases hst
  · rename_i j o r
    split at hst
    · rename_i hc
      cases hix : jm_ix j.2 sc.length with
      | none => rw [hix] at hst; cases hst
      | some n =>
        rw [hix] at hst
        cases hst
        obtain ⟨i1, i2, i3⟩ := jm_nl_in hix
        rw [List.map_cons, List.map_cons, jm_cv0 hc.1, hc.2]
        exact va_sld (b := ad 2) hx hb hX (by omega) (by unfold jm_A; omega) rel.2.2.1 i1 (jm_dc_eq (show jm_dc _ pc .iaload 1 = true from hok)) (by rw [i2]; exact nx ls H locs cells slots rel)
    · cases hst
  · rename_i o r
    split at hst
    · rename_i hc
      cases hst
      rw [List.map_cons, hc]
      have nx' := nx ls H locs cells slots rel
      rw [List.map_cons, jm_cv0 (v := (0, _)) rfl, Int32.ofInt_eq_ofNat] at nx'
      exact va_slen (b := ad 2) hx hb hX (by omega) (by unfold jm_A; omega) rel.2.2.1 (jm_dc_eq (show jm_dc _ pc .arraylength 1 = true from hok)) nx'
    · cases hst
  · rename_i o r
    split at hst
    · rename_i hc
      cases hst
      obtain ⟨k, k1, k2, k3⟩ := jm_strix hc.2.1 hc.2.2.1 hc.2.2.2
      have hok2 := Bool.and_eq_true_iff.mp (show (jm_dc _ pc (.getfield ((g_lnk m pc).getD 0 0)) 3 && jm_w ((g_lnk m pc).getD 1 0) (.fieldLink (g_m m).1.cls ((g_lnk m pc).getD 0 0) "java/lang/String" "value" "[B")) = true from hok)
      have nx' := nx ls H locs cells slots rel
      rw [List.map_cons, jm_cv4 (v := (4, _)) rfl, k3] at nx'
      rw [List.map_cons, jm_cv4 hc.1, k2]
      exact vk_getf hx hb (hG.2.1.1 k k1).2.2.1 rel.2.2.1 hown (hts _ (jm_w_in hok2.2)) (fun x h => h) (jm_dc_eq hok2.1) nx'
    · cases hst
  · rename_i o r
    split at hst
    · rename_i hc
      cases hst
      obtain ⟨k, k1, k2, k3⟩ := jm_strix hc.2.1 hc.2.2.1 hc.2.2.2
      have hok2 := Bool.and_eq_true_iff.mp (show (jm_dc _ pc (.getfield ((g_lnk m pc).getD 0 0)) 3 && jm_w ((g_lnk m pc).getD 1 0) (.fieldLink (g_m m).1.cls ((g_lnk m pc).getD 0 0) "java/lang/String" "coder" "B")) = true from hok)
      rw [List.map_cons, jm_cv4 hc.1, k2]
      exact vk_getf hx hb (hG.2.1.1 k k1).2.1 rel.2.2.1 hown (hts _ (jm_w_in hok2.2)) (fun x h => h) (jm_dc_eq hok2.1) (nx ls H locs cells slots rel)
    · cases hst
  · rename_i o r
    split at hst
    · rename_i hc
      cases hst
      obtain ⟨k, k1, k2, k3⟩ := jm_strix1 hc.2.1 hc.2.2.1 hc.2.2.2
      have nx' := nx ls H locs cells slots rel
      rw [List.map_cons, jm_cv0 (v := (0, _)) rfl, k3, Int32.ofInt_eq_ofNat] at nx'
      rw [List.map_cons, jm_cv4 hc.1, k2]
      exact va_tlen hx hb (jm_strT hG k1) rel.2.2.1 rfl (jm_dc_eq (show jm_dc _ pc .arraylength 1 = true from hok)) nx'
    · cases hst
  · rename_i j o r
    split at hst
    · rename_i hc
      obtain ⟨k, k1, k2, k3⟩ := jm_strix1 hc.2.2.1 hc.2.2.2.1 hc.2.2.2.2
      rw [k3] at hst
      cases hix : jm_ix j.2 (g_str.getD k []).length with
      | none => rw [hix] at hst; cases hst
      | some n =>
        rw [hix] at hst
        cases hst
        obtain ⟨i1, i2, i3⟩ := jm_nl_in hix
        rw [List.map_cons, List.map_cons, jm_cv0 hc.1, jm_cv4 hc.2.1, k2]
        exact va_tb hx hb (jm_strT hG k1) rel.2.2.1 i1 (by rw [i2]; rfl) (jm_dc_eq (show jm_dc _ pc .baload 1 = true from hok)) (nx ls H locs cells slots rel)
    · cases hst
  · cases hst
theorem jm_s23 {a : Int} {b d : Nat} (C : jm_Cx p R s mi args meth c D aC ad fmt sc m c0 x0) (rel : jm_Rel D aC ad fmt s (g_m m).2.2.1 c0 s0 x0 L h ls H locs cells slots) (hok : jm_ok2 (g_lnk m pc) (g_m m).1 (g_m m).2.1 pc (23, a, b, d) = true)
    (hst : jm_obj pc L S h = some (pc', L', S', h'))
    (nx : jm_Nx p l e R s mi args below meth c Q D aC ad fmt (g_m m).2.2.1 c0 s0 x0 pc' L' S' h') : W p l e R s mi args below meth c H locs cells slots Q (F0 mi pc ls (S.map (jm_cv ad fmt))) := by
  obtain ⟨hx, hb, hml, hown, hts, hG, hnm, hfr, hlo, hs0, htab⟩ := C
  have hf := jm_fc hG.2.2.2.2.2.2.2.2.2.2.2.2
  simp only [jm_ok2, Bool.and_eq_true] at hok
  match S, hst with
  | [], hst' => cases hst'
  | o :: r, hst' =>
    unfold jm_obj at hst'
    dsimp only at hst'
    split at hst'
    · rename_i hc
      cases hst'
      rw [List.map_cons, jm_cv2 hc.1 hc.2.1]
      refine W.objInit hx hb hown (hts _ (jm_w_in hok.2)) (hts _ jm_aw4) (hts _ jm_aw5) rfl (by rw [hml]; exact rel.1.1) rfl (jm_dc_eq hok.1) hfr ?_ (nx ls H locs cells slots rel)
      rw [jm_catm hf]
      show 2 * 0 + _ + _ ≤ _
      omega
    · cases hst'
theorem jm_s24 {a : Int} {b d : Nat} (C : jm_Cx p R s mi args meth c D aC ad fmt sc m c0 x0) (rel : jm_Rel D aC ad fmt s (g_m m).2.2.1 c0 s0 x0 L h ls H locs cells slots) (hok : jm_ok2 (g_lnk m pc) (g_m m).1 (g_m m).2.1 pc (24, a, b, d) = true)
    (hst : jm_acpy pc L S h = some (pc', L', S', h'))
    (nx : jm_Nx p l e R s mi args below meth c Q D aC ad fmt (g_m m).2.2.1 c0 s0 x0 pc' L' S' h') : W p l e R s mi args below meth c H locs cells slots Q (F0 mi pc ls (S.map (jm_cv ad fmt))) := by
  obtain ⟨hx, hb, hml, hown, hts, hG, hnm, hfr, hlo, hs0, htab⟩ := C
  have hf := jm_fc hG.2.2.2.2.2.2.2.2.2.2.2.2
  simp only [jm_ok2, Bool.and_eq_true] at hok
  unfold jm_acpy at hst
  split at hst
  · rename_i n dp dd sp o r
    split at hst
    · rename_i hc
      obtain ⟨c1, c2, c3, c4, c5, c6, c7, c8, c9⟩ := hc
      split at hst
      · rename_i e1 e2 cc cc' hcl hcl'
        split at hst
        · rename_i hk
          obtain ⟨k1, k2, k3, k4⟩ := hk
          cases hst
          obtain ⟨g0, g1, g2⟩ := jm_cellw (aC := aC) (ad := ad) (fmt := fmt) hcl
          obtain ⟨g0', g1', g2'⟩ := jm_cellw (aC := aC) (ad := ad) (fmt := fmt) hcl'
          have neg : ∀ z : Int, 0 ≤ jm_n z → ¬ Int32.ofInt z < 0 := fun z hz => by
            rw [show (0 : Int32) = Int32.ofInt 0 from rfl, jm_ltI]
            show ¬ jm_n z < 0
            omega
          simp only [List.map_cons]
          rw [jm_cv0 c1, jm_cv0 c2, jm_cv2 c3 g0', jm_cv0 c4, jm_cv2 c5 g0]
          have key : ∀ (E : va_E), jm_ce aC ad fmt (cc'.1, jm_cpy cc.2 cc'.2 (jm_n sp.2).toNat (jm_n dp.2).toNat (jm_n n.2).toNat) = E → ∀ (H1 : Heap) (locs1 : List Loc), va_P D g_cl ((jm_ws aC ad fmt h.1).set dd.2.toNat (ad 0 + dd.2.toNat, E)) H1 → va_D (jm_A ad) ((jm_ws aC ad fmt h.1).set dd.2.toNat (ad 0 + dd.2.toNat, E)) → va_S (jm_A ad) s.heap H1 locs1 → W p l e R s mi args below meth c H1 locs1 cells slots Q (F0 mi (pc + 3) ls (S'.map (jm_cv ad fmt))) := by
            intro E hE H1 locs1 hP1 _ hS1
            refine nx ls H1 locs1 cells slots ⟨rel.1, ?_, hS1, rel.2.2.2.1, ?_, ?_⟩
            · dsimp only
              rw [jm_wsset, hE]
              exact hP1
            · rw [rel.2.2.2.2.1]; simp [jm_cn]
            · rw [rel.2.2.2.2.2]
              unfold jm_sl
              dsimp only
              rw [jm_slset g1' (jm_cpy_len _ _ _ _ _ k3 k4)]
          have hroom : ((S'.map (jm_cv ad fmt)).map fun v => v.category).sum + (nativeFrameWords "java/lang/System" "arraycopy" 5 + 11) ≤ R.locals := by
            rw [jm_catm hf]
            have : nativeFrameWords "java/lang/System" "arraycopy" 5 + 11 ≤ 52 := by decide +kernel
            omega
          rcases k2 with k2 | k2
          · have k2' : cc'.1 = 0 := by omega
            rw [jm_ce_0 k2] at g2
            rw [jm_ce_0 k2'] at g2'
            refine va_copyi hx hb (by rw [hml]; exact rel.1.1.symm) hown (hts _ (jm_w_in hok.2)) (hts _ jm_aw6) (hts _ jm_aw7) (hts _ jm_aw8) hG.1 rel.2.1 (jm_wsD _) rel.2.2.1 o.2.toNat dd.2.toNat 0 0 g2 g2' rfl rfl rfl (neg _ c8) (neg _ c7) (neg _ c6) k3 k4 (fun _ _ => rfl) hfr hroom (jm_dc_eq hok.1) (key _ ?_)
            rw [jm_ce_0 (c := (cc'.1, jm_cpy cc.2 cc'.2 (jm_n sp.2).toNat (jm_n dp.2).toNat (jm_n n.2).toNat)) k2']
            dsimp only
            rw [jm_cpy_len _ _ _ _ _ k3 k4]
            congr 4
            funext j
            rw [jm_cpy_get _ _ _ _ _ _ k3 k4]
            unfold va_cpy
            show _ = if (jm_n dp.2).toNat ≤ j ∧ j < (jm_n dp.2).toNat + (jm_n n.2).toNat then _ else _
            split <;> rfl
          · have k2' : cc'.1 = 2 := by omega
            rw [jm_ce_2 k2] at g2
            rw [jm_ce_2 k2'] at g2'
            refine va_copyl hx hb (by rw [hml]; exact rel.1.1.symm) hown (hts _ (jm_w_in hok.2)) (hts _ jm_aw6) (hts _ jm_aw7) (hts _ jm_aw8) hG.1 rel.2.1 (jm_wsD _) rel.2.2.1 o.2.toNat dd.2.toNat 2 2 g2 g2' rfl rfl rfl (neg _ c8) (neg _ c7) (neg _ c6) k3 k4 (fun _ _ => rfl) hfr hroom (jm_dc_eq hok.1) (key _ ?_)
            rw [jm_ce_2 (c := (cc'.1, jm_cpy cc.2 cc'.2 (jm_n sp.2).toNat (jm_n dp.2).toNat (jm_n n.2).toNat)) k2']
            dsimp only
            rw [jm_cpy_len _ _ _ _ _ k3 k4]
            congr 5
            funext j
            rw [jm_cpy_get _ _ _ _ _ _ k3 k4]
            unfold va_cpy
            show _ = if (jm_n dp.2).toNat ≤ j ∧ j < (jm_n dp.2).toNat + (jm_n n.2).toNat then _ else _
            split <;> rfl
        · cases hst
      · cases hst
    · cases hst
  · cases hst
theorem jm_s25 {a : Int} {b d : Nat} (C : jm_Cx p R s mi args meth c D aC ad fmt sc m c0 x0) (rel : jm_Rel D aC ad fmt s (g_m m).2.2.1 c0 s0 x0 L h ls H locs cells slots) (hok : jm_ok2 (g_lnk m pc) (g_m m).1 (g_m m).2.1 pc (25, a, b, d) = true)
    (hst : jm_alen pc L S h = some (pc', L', S', h'))
    (nx : jm_Nx p l e R s mi args below meth c Q D aC ad fmt (g_m m).2.2.1 c0 s0 x0 pc' L' S' h') : W p l e R s mi args below meth c H locs cells slots Q (F0 mi pc ls (S.map (jm_cv ad fmt))) := by
  obtain ⟨hx, hb, hml, hown, hts, hG, hnm, hfr, hlo, hs0, htab⟩ := C
  have hd := jm_dc_eq (show jm_dc _ pc .arraylength 1 = true from hok)
  match S, hst with
  | [], hst' => cases hst'
  | o :: r, hst' =>
    unfold jm_alen at hst'
    dsimp only at hst'
    split at hst'
    · rename_i ho
      cases hcl : jm_cell h o.2 with
      | none => rw [hcl] at hst'; cases hst'
      | some cc =>
        rw [hcl] at hst'
        dsimp only at hst'
        split at hst'
        · rename_i hk
          cases hst'
          obtain ⟨g0, g1, g2⟩ := jm_cellw (aC := aC) (ad := ad) (fmt := fmt) hcl
          have nx' := nx ls H locs cells slots rel
          rw [List.map_cons, jm_cv0 (v := (0, _)) rfl, Int32.ofInt_eq_ofNat] at nx'
          rw [List.map_cons, jm_cv2 ho g0]
          obtain ⟨k, xs⟩ := cc
          dsimp only at hk
          match k, hk, g2 with
          | 0, _, g2 => exact va_alen hx hb hG.1 rel.2.1 o.2.toNat 0 g2 rfl rfl hd nx'
          | 1, _, g2 => exact va_alen hx hb hG.1 rel.2.1 o.2.toNat 1 g2 rfl rfl hd nx'
          | 2, _, g2 => exact va_alen hx hb hG.1 rel.2.1 o.2.toNat 2 g2 rfl rfl hd nx'
          | 3, _, g2 => exact va_alen hx hb hG.1 rel.2.1 o.2.toNat 3 g2 rfl rfl hd nx'
          | 4, _, g2 => exact va_alen hx hb hG.1 rel.2.1 o.2.toNat 4 g2 rfl rfl hd nx'
          | k + 5, hk, _ => omega
        · cases hst'
    · cases hst'
theorem jm_s26 {a : Int} {b d : Nat} (C : jm_Cx p R s mi args meth c D aC ad fmt sc m c0 x0) (rel : jm_Rel D aC ad fmt s (g_m m).2.2.1 c0 s0 x0 L h ls H locs cells slots) (hroom : cells ≤ R.cells ∧ slots ≤ R.slots) (hok : jm_ok2 (g_lnk m pc) (g_m m).1 (g_m m).2.1 pc (26, a, b, d) = true)
    (hst : jm_mm (26, a, b, d) pc L S h = some (pc', L', S', h'))
    (nx : jm_Nx p l e R s mi args below meth c Q D aC ad fmt (g_m m).2.2.1 c0 s0 x0 pc' L' S' h') : W p l e R s mi args below meth c H locs cells slots Q (F0 mi pc ls (S.map (jm_cv ad fmt))) := by
  obtain ⟨hx, hb, hml, hown, hts, hG, hnm, hfr, hlo, hs0, htab⟩ := C
  have hf := jm_fc hG.2.2.2.2.2.2.2.2.2.2.2.2
  simp only [jm_ok2, Bool.and_eq_true] at hok
  match S, hst with
  | [], hst' => cases hst'
  | [_], hst' => cases hst'
  | y :: x :: r, hst' =>
    unfold jm_mm at hst'
    dsimp only at hst'
    split at hst'
    · rename_i hc
      cases hst'
      have nx' := nx ls H locs cells slots rel
      rw [List.map_cons, jm_cv0 (v := (0, _)) rfl] at nx'
      dsimp only at nx'
      rw [List.map_cons, List.map_cons, jm_cv0 hc.1, jm_cv0 hc.2.1]
      have hl : ((r.map (jm_cv ad fmt)).map fun v => v.category).sum + 13 ≤ R.locals := by rw [jm_catm hf]; omega
      by_cases hb0 : b = 0
      · subst hb0
        refine va_mmax hx hb (by rw [hml]; exact rel.1.1.symm) hown (hts _ (jm_w_in hok.2)) (hts _ jm_aw9) (hts _ jm_aw10) (hts _ jm_aw11) hfr hl hroom.1 hroom.2 (jm_dc_eq hok.1) ?_
        rw [if_pos rfl] at nx'
        by_cases hq : jm_n x.2 < jm_n y.2
        · rw [if_pos hq] at nx'
          rw [if_pos ((jm_ltI _ _).mpr hq)]
          exact nx'
        · rw [if_neg hq] at nx'
          rw [if_neg (fun z => hq ((jm_ltI _ _).mp z))]
          exact nx'
      · rw [if_neg hb0] at nx' hok
        refine va_mmin hx hb (by rw [hml]; exact rel.1.1.symm) hown (hts _ (jm_w_in hok.2)) (hts _ jm_aw12) (hts _ jm_aw10) (hts _ jm_aw13) hfr hl hroom.1 hroom.2 (jm_dc_eq hok.1) ?_
        by_cases hq : jm_n y.2 < jm_n x.2
        · rw [if_pos hq] at nx'
          rw [if_pos ((jm_ltI _ _).mpr hq)]
          exact nx'
        · rw [if_neg hq] at nx'
          rw [if_neg (fun z => hq ((jm_ltI _ _).mp z))]
          exact nx'
    · cases hst'
end
end
section
section
variable {sc : List Int} {pc pc' : Nat} {L L' : jm_L} {S S' : List jm_V} {h h' : jm_H}
def jm_le (h h' : jm_H) : Prop := h.1.length ≤ h'.1.length ∧ (h.1.map (fun c => c.2.length)).sum ≤ (h'.1.map (fun c => c.2.length)).sum ∧ h.2 ≤ h'.2
theorem jm_le_rf (h : jm_H) : jm_le h h := ⟨Nat.le_refl _, Nat.le_refl _, Nat.le_refl _⟩
theorem jm_le_tr {h1 h2 h3 : jm_H} (a : jm_le h1 h2) (b : jm_le h2 h3) : jm_le h1 h3 := ⟨Nat.le_trans a.1 b.1, Nat.le_trans a.2.1 b.2.1, Nat.le_trans a.2.2 b.2.2⟩
theorem jm_le_cn {h h' : jm_H} (a : jm_le h h') : jm_cn h ≤ jm_cn h' ∧ jm_sl h ≤ jm_sl h' := by
  obtain ⟨h1, h2, h3⟩ := a
  unfold jm_cn jm_sl
  omega
theorem jm_le_set {i : Nat} {c c' : jm_C} (hc : h.1[i]? = some c) (hl : c'.2.length = c.2.length) : jm_le h (h.1.set i c', h.2) := by
  refine ⟨by simp, ?_, Nat.le_refl _⟩
  dsimp only
  rw [jm_slset hc hl]
  exact Nat.le_refl _
theorem jm_le_app (c : jm_C) : jm_le h (h.1 ++ [c], h.2) := by
  refine ⟨by simp, ?_, Nat.le_refl _⟩
  dsimp only
  rw [List.map_append, List.sum_append]
  omega
theorem jm_cellg {a : Int} {c : jm_C} (hc : jm_cell h a = some c) : h.1[a.toNat]? = some c := by
  unfold jm_cell at hc
  split at hc
  · cases hc
  · exact hc
theorem jm_le_putf {i : jm_I} (hst : jm_putf i pc L S h = some (pc', L', S', h')) : jm_le h h' := by
  unfold jm_putf at hst
  split at hst
  · split at hst
    · split at hst
      · rename_i hcl
        split at hst
        · cases hst
          exact jm_le_set (jm_cellg hcl) (by simp)
        · cases hst
      · cases hst
    · cases hst
  · cases hst
theorem jm_le_acpy (hst : jm_acpy pc L S h = some (pc', L', S', h')) : jm_le h h' := by
  unfold jm_acpy at hst
  split at hst
  · split at hst
    · split at hst
      · rename_i hcl hcl'
        split at hst
        · rename_i hk
          cases hst
          exact jm_le_set (jm_cellg hcl') (jm_cpy_len _ _ _ _ _ hk.2.2.1 hk.2.2.2)
        · cases hst
      · cases hst
    · cases hst
  · cases hst
theorem jm_stp_le {i : jm_I} (hst : jm_stp sc i pc L S h = some (pc', L', S', h')) : jm_le h h' := by
  obtain ⟨op, a, b, d⟩ := i
  match op, hst with
  | 0, hst => cases hst; exact jm_le_rf _
  | 1, hst => cases hst; exact jm_le_rf _
  | 2, hst =>
    have hst : jm_load (2, a, b, d) pc L S h = some (pc', L', S', h') := hst
    unfold jm_load at hst
    repeat' split at hst
    all_goals first | cases hst; exact jm_le_rf _ | cases hst
  | 3, hst =>
    obtain ⟨v, r, rfl, rfl, rfl, rfl, hc⟩ := jm_store_inv (show jm_store (3, a, b, d) pc L S h = some (pc', L', S', h') from hst)
    exact jm_le_rf _
  | 4, hst =>
    have hst : jm_inc (4, a, b, d) pc L S h = some (pc', L', S', h') := hst
    unfold jm_inc at hst
    repeat' split at hst
    all_goals first | cases hst; exact jm_le_rf _ | cases hst
  | 5, hst =>
    have hst : jm_arith (5, a, b, d) pc L S h = some (pc', L', S', h') := hst
    unfold jm_arith at hst
    split at hst
    · split at hst
      · obtain ⟨z, hz, e⟩ := Option.map_eq_some_iff.mp hst
        cases e; exact jm_le_rf _
      · cases hst
    · cases hst
  | 6, hst =>
    have hst : jm_larith (6, a, b, d) pc L S h = some (pc', L', S', h') := hst
    unfold jm_larith at hst
    split at hst
    · split at hst
      · obtain ⟨z, hz, e⟩ := Option.map_eq_some_iff.mp hst
        cases e; exact jm_le_rf _
      · split at hst
        · obtain ⟨z, hz, e⟩ := Option.map_eq_some_iff.mp hst
          cases e; exact jm_le_rf _
        · cases hst
    · cases hst
  | 7, hst =>
    have hst : jm_conv (7, a, b, d) pc L S h = some (pc', L', S', h') := hst
    unfold jm_conv at hst
    repeat' split at hst
    all_goals first | cases hst; exact jm_le_rf _ | cases hst
  | 8, hst =>
    have hst : jm_stack (8, a, b, d) pc L S h = some (pc', L', S', h') := hst
    unfold jm_stack at hst
    repeat' split at hst
    all_goals first | cases hst; exact jm_le_rf _ | cases hst
  | 9, hst =>
    have hst : jm_if (9, a, b, d) pc L S h = some (pc', L', S', h') := hst
    unfold jm_if at hst
    split at hst
    · split at hst
      · cases hst; exact jm_le_rf _
      · cases hst
    · cases hst
  | 10, hst =>
    have hst : jm_if2 (10, a, b, d) pc L S h = some (pc', L', S', h') := hst
    unfold jm_if2 at hst
    split at hst
    · split at hst
      · cases hst; exact jm_le_rf _
      · cases hst
    · cases hst
  | 11, hst => cases hst; exact jm_le_rf _
  | 12, hst =>
    have hst : jm_lcmp pc L S h = some (pc', L', S', h') := hst
    unfold jm_lcmp at hst
    repeat' split at hst
    all_goals first | cases hst; exact jm_le_rf _ | cases hst
  | 13, hst =>
    have hst : jm_getf (13, a, b, d) pc L S h = some (pc', L', S', h') := hst
    unfold jm_getf at hst
    split at hst
    · split at hst
      · split at hst
        · split at hst
          · split at hst
            · cases hst; exact jm_le_rf _
            · cases hst
          · cases hst
        · cases hst
      · cases hst
    · cases hst
  | 14, hst => exact jm_le_putf (show jm_putf (14, a, b, d) pc L S h = some (pc', L', S', h') from hst)
  | 15, hst =>
    obtain ⟨j, o, r, cc, n, rfl, hj, ho, hcl, hk, hix, rfl, rfl, rfl, rfl⟩ := jm_ald_inv (show jm_ald (15, a, b, d) pc L S h = some (pc', L', S', h') from hst)
    exact jm_le_rf _
  | 16, hst =>
    obtain ⟨v, j, o, r, cc, n, z, rfl, hj, ho, hcl, hix, rfl, rfl, rfl, rfl, hk⟩ := jm_ast_inv (show jm_ast (16, a, b, d) pc L S h = some (pc', L', S', h') from hst)
    exact jm_le_set (jm_cellg hcl) (by simp)
  | 17, hst =>
    obtain ⟨v, r, rfl, hv, hn0, hn1, h20, rfl, rfl, rfl, rfl⟩ := jm_newa_inv (show jm_newa (17, a, b, d) pc L S h = some (pc', L', S', h') from hst)
    exact jm_le_app _
  | 18, hst =>
    have hst : jm_new (18, a, b, d) pc L S h = some (pc', L', S', h') := hst
    unfold jm_new at hst
    split at hst
    · cases hst; exact jm_le_app _
    · cases hst
  | 19, hst => cases hst; exact jm_le_rf _
  | 20, hst =>
    have hst : jm_tsw (20, a, b, d) L S h = some (pc', L', S', h') := hst
    unfold jm_tsw at hst
    repeat' split at hst
    all_goals first | cases hst; exact jm_le_rf _ | cases hst
  | 21, hst =>
    have hst : jm_gets (21, a, b, d) pc L S h = some (pc', L', S', h') := hst
    unfold jm_gets at hst
    repeat' split at hst
    all_goals first | cases hst; exact jm_le_rf _ | cases hst
  | 22, hst =>
    have hst : jm_spec sc (22, a, b, d) pc L S h = some (pc', L', S', h') := hst
    unfold jm_spec at hst
    split at hst
    all_goals first | (split at hst; (first | (obtain ⟨z, hz, e⟩ := Option.map_eq_some_iff.mp hst; cases e; exact jm_le_rf _) | (cases hst; exact jm_le_rf _)); cases hst) | cases hst
  | 23, hst =>
    have hst : jm_obj pc L S h = some (pc', L', S', h') := hst
    unfold jm_obj at hst
    repeat' split at hst
    all_goals first | cases hst; exact jm_le_rf _ | cases hst
  | 24, hst => exact jm_le_acpy (show jm_acpy pc L S h = some (pc', L', S', h') from hst)
  | 25, hst =>
    have hst : jm_alen pc L S h = some (pc', L', S', h') := hst
    unfold jm_alen at hst
    repeat' split at hst
    all_goals first | cases hst; exact jm_le_rf _ | cases hst
  | 26, hst =>
    have hst : jm_mm (26, a, b, d) pc L S h = some (pc', L', S', h') := hst
    unfold jm_mm at hst
    split at hst
    · split at hst
      · cases hst; exact jm_le_rf _
      · cases hst
    · cases hst
  | op + 27, hst => cases hst
end
section
variable {p : Program} {l : Launch} {e : Env} {R : Room} {s : State} {mi : MethodId} {args : Array Value} {below : List Frame} {meth : Method} {c : Code} {Q : State → Prop}
variable {D : va_G} {aC : Nat → ClassId} {ad : Nat → Nat} {fmt : Value} {sc : List Int} {m c0 s0 x0 : Nat}
variable {pc pc' : Nat} {L L' : jm_L} {S S' : List jm_V} {h h' : jm_H} {ls : Array Slot} {H : Heap} {locs : List Loc} {cells slots : Nat}
theorem jm_ok_1 {op b d : Nat} {a : Int} (h : op ≤ 12) : jm_ok m pc (op, a, b, d) = jm_ok1 (g_lnk m pc) (g_m m).1 (g_m m).2.1 (g_m m).2.2.1 pc (op, a, b, d) := if_pos h
theorem jm_ok_2 {op b d : Nat} {a : Int} (h : ¬ op ≤ 12) (h2 : op ≤ 26) : jm_ok m pc (op, a, b, d) = jm_ok2 (g_lnk m pc) (g_m m).1 (g_m m).2.1 pc (op, a, b, d) := (if_neg h).trans (if_pos h2)
theorem jm_step {i : jm_I} (C : jm_Cx p R s mi args meth c D aC ad fmt sc m c0 x0) (rel : jm_Rel D aC ad fmt s (g_m m).2.2.1 c0 s0 x0 L h ls H locs cells slots) (hok : jm_ok m pc i = true)
    (hst : jm_stp sc i pc L S h = some (pc', L', S', h')) (hbd : jm_cn h' ≤ c0 + R.cells ∧ jm_sl h' ≤ s0 + R.slots)
    (nx : jm_Nx p l e R s mi args below meth c Q D aC ad fmt (g_m m).2.2.1 c0 s0 x0 pc' L' S' h') : W p l e R s mi args below meth c H locs cells slots Q (F0 mi pc ls (S.map (jm_cv ad fmt))) := by
  obtain ⟨op, a, b, d⟩ := i
  match op, hok, hst with
  | 0, hok, hst => cases hst; exact jm_s0 C rel ((jm_ok_1 (by decide)).symm.trans hok) nx
  | 1, hok, hst => cases hst; exact jm_s1 C rel ((jm_ok_1 (by decide)).symm.trans hok) nx
  | 2, hok, hst => exact jm_s2 C rel ((jm_ok_1 (by decide)).symm.trans hok) hst nx
  | 3, hok, hst => exact jm_s3 C rel ((jm_ok_1 (by decide)).symm.trans hok) hst nx
  | 4, hok, hst => exact jm_s4 C rel ((jm_ok_1 (by decide)).symm.trans hok) hst nx
  | 5, hok, hst => exact jm_s5 C rel ((jm_ok_1 (by decide)).symm.trans hok) hst nx
  | 6, hok, hst => exact jm_s6 C rel ((jm_ok_1 (by decide)).symm.trans hok) hst nx
  | 7, hok, hst => exact jm_s7 C rel ((jm_ok_1 (by decide)).symm.trans hok) hst nx
  | 8, hok, hst => exact jm_s8 C rel ((jm_ok_1 (by decide)).symm.trans hok) hst nx
  | 9, hok, hst => exact jm_s9 C rel ((jm_ok_1 (by decide)).symm.trans hok) hst nx
  | 10, hok, hst => exact jm_s10 C rel ((jm_ok_1 (by decide)).symm.trans hok) hst nx
  | 11, hok, hst => cases hst; exact jm_s11 C rel ((jm_ok_1 (by decide)).symm.trans hok) nx
  | 12, hok, hst => exact jm_s12 C rel ((jm_ok_1 (by decide)).symm.trans hok) hst nx
  | 13, hok, hst => exact jm_s13 C rel ((jm_ok_2 (by decide) (by decide)).symm.trans hok) hst nx
  | 14, hok, hst => exact jm_s14 C rel ((jm_ok_2 (by decide) (by decide)).symm.trans hok) hst nx
  | 15, hok, hst => exact jm_s15 C rel ((jm_ok_2 (by decide) (by decide)).symm.trans hok) hst nx
  | 16, hok, hst => exact jm_s16 C rel ((jm_ok_2 (by decide) (by decide)).symm.trans hok) hst nx
  | 17, hok, hst => exact jm_s17 C rel ((jm_ok_2 (by decide) (by decide)).symm.trans hok) hst hbd nx
  | 18, hok, hst => exact jm_s18 C rel ((jm_ok_2 (by decide) (by decide)).symm.trans hok) hst hbd nx
  | 19, hok, hst => cases hst; exact jm_s19 C rel ((jm_ok_2 (by decide) (by decide)).symm.trans hok) nx
  | 20, hok, hst => exact jm_s20 C rel ((jm_ok_2 (by decide) (by decide)).symm.trans hok) hst nx
  | 21, hok, hst => exact jm_s21 C rel ((jm_ok_2 (by decide) (by decide)).symm.trans hok) hst nx
  | 22, hok, hst => exact jm_s22 C rel ((jm_ok_2 (by decide) (by decide)).symm.trans hok) hst nx
  | 23, hok, hst => exact jm_s23 C rel ((jm_ok_2 (by decide) (by decide)).symm.trans hok) hst nx
  | 24, hok, hst => exact jm_s24 C rel ((jm_ok_2 (by decide) (by decide)).symm.trans hok) hst nx
  | 25, hok, hst => exact jm_s25 C rel ((jm_ok_2 (by decide) (by decide)).symm.trans hok) hst nx
  | 26, hok, hst =>
    have hr : cells ≤ R.cells ∧ slots ≤ R.slots := by
      have h1 := jm_le_cn (jm_stp_le (sc := sc) (i := (26, a, b, d)) hst)
      have h2 := rel.2.2.2.2.1
      have h3 := rel.2.2.2.2.2
      omega
    exact jm_s26 C rel hr ((jm_ok_2 (by decide) (by decide)).symm.trans hok) hst nx
  | op + 27, hok, hst => cases hst
end
end
section
/-! a run of the Int machine, taken apart -/
section
variable {sc : List Int} {n dd m pc : Nat} {L : jm_L} {S : List jm_V} {h h' : jm_H} {r : Option jm_V}
def jm_cc (m pc : Nat) (i : jm_I) (S : List jm_V) (h : jm_H) : Prop := i.2.2.2 ≤ S.length ∧ jm_cat (S.drop i.2.2.2) ≤ 8 ∧ jm_cat (S.take i.2.2.2) ≤ (g_m i.2.2.1).2.2.1 ∧ jm_rcv (if i.1 = 31 then 10 + ((g_lnk m pc).getD 5 0 : Int) else i.2.1) (S.take i.2.2.2).reverse h = true
theorem jm_exec_inv (hex : jm_exec sc (n + 1) dd m pc L S h = some (r, h')) : ∃ i : jm_I, g_code m pc = some i ∧
    ((i.1 = 40 ∧ jm_ret i S h = some (r, h')) ∨ (i.1 = 41 ∧ 10 ≤ dd ∧ jm_cat S ≤ 8 ∧ r = some (9, 0) ∧ h' = (h.1, h.2 + 1)) ∨
     ((i.1 = 30 ∨ i.1 = 31 ∨ i.1 = 32) ∧ ∃ (d' : Nat) (r1 : Option jm_V) (h1 : jm_H), dd = d' + 1 ∧ jm_cc m pc i S h ∧ jm_exec sc n d' i.2.2.1 0 (jm_args 0 (S.take i.2.2.2).reverse) [] h = some (r1, h1) ∧
        ((r1 = some (9, 0) ∧ i.1 = 31 ∧ jm_exec sc n (d' + 1) m i.2.1.toNat (jm_drop L ((g_lnk m pc).getD 6 0)) [] h1 = some (r, h')) ∨ (¬ r1 = some (9, 0) ∧ jm_exec sc n (d' + 1) m (pc + 3) L (r1.toList ++ S.drop i.2.2.2) h1 = some (r, h')))) ∨
     (¬ i.1 = 40 ∧ ¬ (i.1 = 30 ∨ i.1 = 31 ∨ i.1 = 32) ∧ ∃ (pc' : Nat) (L' : jm_L) (S' : List jm_V) (h1 : jm_H), jm_stp sc i pc L S h = some (pc', L', S', h1) ∧ jm_exec sc n dd m pc' L' S' h1 = some (r, h'))) := by
  unfold jm_exec at hex
  cases hc : g_code m pc with
  | none => rw [hc] at hex; cases hex
  | some i =>
    rw [hc] at hex
    dsimp only at hex
    refine ⟨i, rfl, ?_⟩
    split at hex
    · rename_i h40
      exact Or.inl ⟨h40, hex⟩
    · rename_i h40
      split at hex
      · rename_i h41
        split at hex
        · rename_i hd
          cases hex
          exact Or.inr (Or.inl ⟨h41, hd.1, hd.2, rfl, rfl⟩)
        · cases hex
      · rename_i h41
        split at hex
        · rename_i h30
          refine Or.inr (Or.inr (Or.inl ⟨h30, ?_⟩))
          match dd, hex with
          | 0, hex => cases hex
          | d' + 1, hex =>
            dsimp only at hex
            by_cases hcc : i.2.2.2 ≤ S.length ∧ jm_cat (S.drop i.2.2.2) ≤ 8 ∧ jm_cat (S.take i.2.2.2) ≤ (g_m i.2.2.1).2.2.1 ∧ jm_rcv (if i.1 = 31 then 10 + ((g_lnk m pc).getD 5 0 : Int) else i.2.1) (S.take i.2.2.2).reverse h = true
            · rw [if_pos hcc] at hex
              cases hx : jm_exec sc n d' i.2.2.1 0 (jm_args 0 (S.take i.2.2.2).reverse) [] h with
              | none => rw [hx] at hex; cases hex
              | some q =>
                obtain ⟨r1, h1⟩ := q
                rw [hx] at hex
                dsimp only at hex
                refine ⟨d', r1, h1, rfl, hcc, hx, ?_⟩
                by_cases hr1 : r1 = some (9, 0)
                · rw [if_pos hr1] at hex
                  by_cases h31 : i.1 = 31
                  · rw [if_pos h31] at hex
                    exact Or.inl ⟨hr1, h31, hex⟩
                  · rw [if_neg h31] at hex
                    cases hex
                · rw [if_neg hr1] at hex
                  exact Or.inr ⟨hr1, hex⟩
            · rw [if_neg hcc] at hex
              cases hex
        · rename_i h30
          refine Or.inr (Or.inr (Or.inr ⟨h40, h30, ?_⟩))
          cases hs : jm_stp sc i pc L S h with
          | none => rw [hs] at hex; cases hex
          | some q =>
            obtain ⟨pc', L', S', h1⟩ := q
            rw [hs] at hex
            exact ⟨pc', L', S', h1, rfl, hex⟩
theorem jm_ret_h {i : jm_I} (hr : jm_ret i S h = some (r, h')) : h' = h := by
  unfold jm_ret at hr
  split at hr
  · split at hr
    · cases hr; rfl
    · cases hr
  · split at hr
    · cases hr; rfl
    · cases hr
  · cases hr; rfl
  · cases hr
end
theorem jm_exec_le {sc : List Int} : ∀ (n : Nat) {dd m pc : Nat} {L : jm_L} {S : List jm_V} {h h' : jm_H} {r : Option jm_V}, jm_exec sc n dd m pc L S h = some (r, h') → jm_le h h'
  | 0, dd, m, pc, L, S, h, h', r, hex => by cases hex
  | n + 1, dd, m, pc, L, S, h, h', r, hex => by
    obtain ⟨i, hc, hcase⟩ := jm_exec_inv hex
    rcases hcase with ⟨-, hr⟩ | ⟨-, -, -, -, rfl⟩ | ⟨-, d', r1, h1, rfl, -, hx, hy⟩ | ⟨-, -, pc', L', S', h1, hs, hx⟩
    · rw [jm_ret_h hr]; exact jm_le_rf _
    · exact ⟨Nat.le_refl _, Nat.le_refl _, Nat.le_succ _⟩
    · rcases hy with ⟨-, -, hy⟩ | ⟨-, hy⟩
      · exact jm_le_tr (jm_exec_le n hx) (jm_exec_le n hy)
      · exact jm_le_tr (jm_exec_le n hx) (jm_exec_le n hy)
    · exact jm_le_tr (jm_stp_le hs) (jm_exec_le n hx)
section
variable {D : va_G} {aC : Nat → ClassId} {ad : Nat → Nat} {fmt : Value} {sc : List Int}
theorem jm_G_at {s U : State} {H : Heap} {locs : List Loc} (hG : jm_G D aC ad fmt sc s s.heap) (hS : va_S (jm_A ad) s.heap H locs) (hW : s.WarmedH U.vm) (hU : U.heap = H) : jm_G D aC ad fmt sc U U.heap := by
  obtain ⟨g1, g2, g3, g4, g5, g6, g7, g8, g9, g10, g11, g12, g13⟩ := hG
  rw [hU]
  have ha := hW.alike
  exact ⟨g1.moved ha, (g2.kept hS.2.1).moved ha, fun k hk => vk_R.warm hW (g3 k hk), (g4.kept hS.2.1).moved ha, (g5.kept hS.2.1).moved ha, (g6.kept hS.2.1).moved ha, (g7.kept hS.2.1).moved ha,
    (g8.kept (hS.2.1 _ (by omega) (by unfold jm_A; omega))).moved ha, g9, Nat.le_trans g10 hS.1, fun a k y b hm => va_Nw.warmM hW (g11 a k y b hm), ⟨g12.1.moved ha, (g12.2.1.kept hS.2.1).moved ha, (g12.2.2.1.kept hS.2.1).moved ha, fun a b hm => va_Nw.warmC hW (g12.2.2.2.1 a b hm), fun x hm => va_Nw.warmD hW (g12.2.2.2.2 x hm)⟩, g13⟩
/-- what a callee finds -/
def jm_PU (D : va_G) (aC : Nat → ClassId) (ad : Nat → Nat) (fmt : Value) (sc : List Int) (h : jm_H) (U : State) : Prop := jm_G D aC ad fmt sc U U.heap ∧ va_P D g_cl (jm_ws aC ad fmt h.1) U.heap ∧ (h.2 = 0 → U.heap.size = ad 0 + h.1.length)
theorem jm_blind {as : List Value} {h : jm_H} : FrameBlind (va_Pc as (jm_PU D aC ad fmt sc h)) := by
  intro a U g mk q
  obtain ⟨q1, q2, q3, q4⟩ := q
  exact ⟨q1, jm_G_at (s := U) (U := U.calling g mk a) (H := U.heap) (locs := []) q2 va_S.rf (State.WarmedH.refl U) rfl, q3, q4⟩
/-- what a callee that returns leaves -/
def jm_QQ (D : va_G) (aC : Nat → ClassId) (ad : Nat → Nat) (fmt : Value) (r : Option jm_V) (h' : jm_H) : Array Value → State → Outcome → State → Prop := match r with
  | none => va_Qv (fun _ : Unit => True) (fun _ t => va_P D g_cl (jm_ws aC ad fmt h'.1) t.heap) (jm_A ad)
  | some (0, z) => va_Qi (fun q (_ : Unit) => q = Int32.ofInt z) (fun _ t => va_P D g_cl (jm_ws aC ad fmt h'.1) t.heap) (jm_A ad)
  | some (_, z) => va_Ql (fun q (_ : Unit) => q = Int64.ofInt z) (fun _ t => va_P D g_cl (jm_ws aC ad fmt h'.1) t.heap) (jm_A ad)
def jm_wsm (m : Nat) : List Cond := Cond.code (g_m m).1 (g_m m).2.1 (g_m m).2.2.1 (g_m m).2.2.2 :: jm_W
def jm_rm (d mc ms : Nat) : Room := { frames := d + 2, cells := mc, slots := ms, locals := (d + 2) * 60 }
theorem jm_lvargs (hf : fmt.category = 1) : ∀ (as : List jm_V) (i : Nat), lv_args i (as.map (jm_cv ad fmt)) = jm_ls ad fmt (jm_args i as)
  | [], i => rfl
  | v :: vs, i => by
    show (i, jm_cv ad fmt v) :: lv_args (if (jm_cv ad fmt v).category = 2 then i + 2 else i + 1) (vs.map (jm_cv ad fmt)) = (i, jm_cv ad fmt v) :: jm_ls ad fmt (jm_args (if v.1 = 1 then i + 2 else i + 1) vs)
    rw [jm_lvargs hf vs, jm_cvc hf]
    by_cases h1 : v.1 = 1
    · rw [if_pos h1, if_pos h1, if_pos rfl]
    · rw [if_neg h1, if_neg h1, if_neg (by decide)]
theorem jm_lgsl (hf : fmt.category = 1) (as : List jm_V) : (lg_sl (as.map (jm_cv ad fmt))).length = jm_cat as := by
  unfold lg_sl jm_cat
  induction as with
  | nil => rfl
  | cons v vs ih =>
    rw [List.map_cons, List.flatMap_cons, List.length_append, ih, List.map_cons, List.sum_cons, jm_cvc hf]
    by_cases h1 : v.1 = 1
    · rw [if_pos h1, if_pos rfl]; rfl
    · rw [if_neg h1, if_neg (by decide)]; rfl
end
end
section
/-- how a method of the Java machine ends where the Int machine's does -/
def jm_Ends (p : Program) (l : Launch) (e : Env) (R : Room) (s : State) (mi : MethodId) (args : Array Value) (below : List Frame) (meth : Method) (c : Code) (Q : State → Prop) (D : va_G) (aC : Nat → ClassId) (ad : Nat → Nat) (fmt : Value) (m c0 s0 x0 dd : Nat) (r : Option jm_V) (h' : jm_H) : Prop :=
  ∀ (pc : Nat) (i : jm_I) (L : jm_L) (S : List jm_V) (h : jm_H) (ls : Array Slot) (H : Heap) (locs : List Loc) (cells slots : Nat), g_code m pc = some i → jm_Rel D aC ad fmt s (g_m m).2.2.1 c0 s0 x0 L h ls H locs cells slots →
    ((i.1 = 40 ∧ jm_ret i S h = some (r, h')) ∨ (i.1 = 41 ∧ 10 ≤ dd ∧ jm_cat S ≤ 8 ∧ r = some (9, 0) ∧ h' = (h.1, h.2 + 1))) → W p l e R s mi args below meth c H locs cells slots Q (F0 mi pc ls (S.map (jm_cv ad fmt)))
/-- a call of a method with a table of its own, or one that is tried: shown apart -/
def jm_P (l : Launch) (D : va_G) (aC : Nat → ClassId) (ad : Nat → Nat) (fmt : Value) (sc : List Int) (n : Nat) : Prop :=
  ∀ (dd m pc : Nat) (L : jm_L) (S : List jm_V) (h : jm_H) (r : Option jm_V) (h' : jm_H), jm_exec sc n dd m pc L S h = some (r, h') →
  ∀ (p : Program) (e : Env) (R : Room) (s : State) (mi : MethodId) (args : Array Value) (below : List Frame) (meth : Method) (c : Code) (Q : State → Prop) (c0 s0 x0 : Nat),
    jm_Cx p R s mi args meth c D aC ad fmt sc m c0 x0 → (dd + 2 ≤ R.frames ∧ (dd + 2) * 60 ≤ R.locals) → (jm_cn h' ≤ c0 + R.cells ∧ jm_sl h' ≤ s0 + R.slots) → jm_Ends p l e R s mi args below meth c Q D aC ad fmt m c0 s0 x0 dd r h' →
    ∀ (ls : Array Slot) (H : Heap) (locs : List Loc) (cells slots : Nat), jm_Rel D aC ad fmt s (g_m m).2.2.1 c0 s0 x0 L h ls H locs cells slots → W p l e R s mi args below meth c H locs cells slots Q (F0 mi pc ls (S.map (jm_cv ad fmt)))
section
variable {l : Launch} {D : va_G} {aC : Nat → ClassId} {ad : Nat → Nat} {fmt : Value} {sc : List Int}
theorem jm_narb {z : Int} (h : jm_n z = 0 ∨ jm_n z = 1) : narrow .boolean (.int (Int32.ofInt z)) = .int (Int32.ofInt z) := by
  rcases h with h | h
  · rw [show Int32.ofInt z = 0 from Int32.toInt_inj.mp h]; rfl
  · rw [show Int32.ofInt z = 1 from Int32.toInt_inj.mp h]; rfl
theorem jm_narc {z : Int} (h : 0 ≤ jm_n z) (h2 : jm_n z < 65536) : narrow .char (.int (Int32.ofInt z)) = .int (Int32.ofInt z) := by
  have e1 : Int32.ofInt z = nI (jm_n z).toNat := by
    apply Int32.toInt_inj.mp
    rw [nI_toInt (by omega)]
    show jm_n z = _
    omega
  rw [e1]
  exact (pk_charN (by omega)).1
theorem jm_mett {p : Program} {e : Env} {R : Room} {s : State} {mi : MethodId} {args : Array Value} {below : List Frame} {meth : Method} {c : Code} {m c0 s0 x0 dd : Nat} {r : Option jm_V} {h' : jm_H} {mc ms : Nat} (hx : p.tables.exec = Jvm.exec) (hb : c.code = (g_m m).2.1) (hrt : meth.sig.returnType = (g_m m).2.2.2) (hlocks : meth.locks = false) (hr : ¬ r = some (9, 0)) (hmc : c0 + mc = jm_cn h') (hms : s0 + ms = jm_sl h') :
    jm_Ends p l e R s mi args below meth c (MQ below (jm_QQ D aC ad fmt r h') args s mc ms (jm_A ad)) D aC ad fmt m c0 s0 x0 dd r h' := by
  intro pc i L S h ls H locs cells slots hc rel hcase
  rcases hcase with ⟨h40, hret⟩ | ⟨-, -, -, h9, -⟩
  · have hh := jm_ret_h hret
    subst hh
    have e1 : cells = mc := by have := rel.2.2.2.2.1; omega
    have e2 : slots = ms := by have := rel.2.2.2.2.2; omega
    subst e1; subst e2
    have hok := jm_ok_of hc
    obtain ⟨op, a, b, d⟩ := i
    dsimp only at h40
    subst h40
    have hok4 : jm_ok4 (g_m m).2.1 (g_m m).2.2.2 pc (40, a, b, d) = true := hok
    clear hok
    have hF : ∀ t : State, t.heap = H → va_F (jm_A ad) s t := fun t ht => rel.2.2.1.F ht
    have hP := rel.2.1
    unfold jm_ret at hret
    dsimp only at hret
    split at hret
    · rename_i v
      split at hret
      · rename_i hc2
        cases hret
        have hok5 := Bool.and_eq_true_iff.mp hok4
        have hd := jm_dc_eq hok5.1
        have hrt2 := of_decide_eq_true hok5.2
        obtain ⟨vt, z⟩ := v
        obtain ⟨hv0, hc3⟩ := hc2
        dsimp only at hv0 hc3
        subst hv0
        have hq : ∀ t : State, t.heap = H → s.WarmedH t.vm → jm_QQ D aC ad fmt (some (0, z)) h' args s (.returned (some (.int (Int32.ofInt z)))) t := fun t ht _ => ⟨⟨Int32.ofInt z, (), rfl, rfl, by show va_P _ _ _ t.heap; rw [ht]; exact hP⟩, hF t ht⟩
        rcases hc3 with rfl | ⟨rfl, hc3⟩ | ⟨rfl, hc3⟩ | ⟨rfl, hc3⟩
        · exact W.iret hx hb (hrt.trans hrt2) hq rel.2.2.1.2.2 hd hlocks
        · exact W.zret hx hb (hrt.trans hrt2) (jm_narb hc3) hq rel.2.2.1.2.2 hd hlocks
        · exact W.zret hx hb (hrt.trans hrt2) (jm_narc hc3.1 hc3.2) hq rel.2.2.1.2.2 hd hlocks
        · refine W.zret hx hb (hrt.trans hrt2) ?_ hq rel.2.2.1.2.2 hd hlocks
          rw [show Int32.ofInt z = 0 from Int32.toInt_inj.mp hc3]; rfl
      · cases hret
    · rename_i v
      split at hret
      · rename_i hc2
        cases hret
        have hok5 := Bool.and_eq_true_iff.mp hok4
        have hd := jm_dc_eq hok5.1
        have hrt2 : (g_m m).2.2.2 = some .long := of_decide_eq_true hok5.2
        obtain ⟨vt, z⟩ := v
        dsimp only at hc2
        subst hc2
        have hq : ∀ t : State, t.heap = H → s.WarmedH t.vm → jm_QQ D aC ad fmt (some (1, z)) h' args s (.returned (some (.long (Int64.ofInt z)))) t := fun t ht _ => ⟨⟨Int64.ofInt z, (), rfl, rfl, by show va_P _ _ _ t.heap; rw [ht]; exact hP⟩, hF t ht⟩
        exact W.lret hx hb (hrt.trans hrt2) hq rel.2.2.1.2.2 hd hlocks
      · cases hret
    · cases hret
      have hok5 := Bool.and_eq_true_iff.mp hok4
      have hd := jm_dc_eq hok5.1
      have hrt2 : (g_m m).2.2.2 = none := of_decide_eq_true hok5.2
      have hq : ∀ t : State, t.heap = H → s.WarmedH t.vm → jm_QQ D aC ad fmt none h' args s (.returned none) t := fun t ht _ => ⟨⟨(), rfl, trivial, by show va_P _ _ _ t.heap; rw [ht]; exact hP⟩, hF t ht⟩
      exact W.vret hx hb (hrt.trans hrt2) hq rel.2.2.1.2.2 hd hlocks
    · cases hret
  · exact absurd h9 hr
theorem jm_hh_nil {m : Nat} (h : g_wr.contains m = false) : jm_hh m = [] := by
  have h2 : ∀ q ∈ g_hh, (q.1 == m) = false := by
    intro q hq
    have h3 : ∀ q ∈ g_hh, g_wr.contains q.1 = true := by decide +kernel
    cases hb : (q.1 == m) with
    | false => rfl
    | true =>
      have e1 : q.1 = m := by simpa using hb
      have := h3 q hq
      rw [e1, h] at this
      cases this
  unfold jm_hh
  rw [List.find?_eq_none.mpr (fun q hq => by rw [h2 q hq]; decide)]
  rfl
theorem jm_met {n dd m : Nat} {as : List jm_V} {h h' : jm_H} {r : Option jm_V} {mc ms : Nat} (IH : jm_P l D aC ad fmt sc n) (hm : m < 278) (hw : g_wr.contains m = false) (hex : jm_exec sc n dd m 0 (jm_args 0 as) [] h = some (r, h')) (hr : ¬ r = some (9, 0)) (has : jm_cat as ≤ (g_m m).2.2.1) (hmc : jm_cn h + mc = jm_cn h') (hms : jm_sl h + ms = jm_sl h') (hfm : fmt = .null ∨ ∃ a : Nat, fmt = .ref a) :
    Met l (g_m m).1 (jm_wsm m) (jm_rm dd mc ms) (va_Pc (as.map (jm_cv ad fmt)) (jm_PU D aC ad fmt sc h)) (jm_QQ D aC ad fmt r h') mc ms (jm_A ad) := by
  obtain ⟨hpl, -, hml30⟩ := jm_mok_of hm
  refine Met.ofW (cc := (g_m m).2.1) (maxL := (g_m m).2.2.1) (ret := (g_m m).2.2.2) hpl rfl ?_
  intro p e s mi args below meth c s₁ B hml hv
  obtain ⟨rfl, hG, hP, hsz⟩ := hv
  have hts := atoms_spec (ws := jm_wsm m) B.pre
  have hown : s.vm.findClass (g_m m).1.cls = some mi.cls := findClass_of_methodNamed B.named
  have hin : meth.name = (g_m m).1.name := (name_of_methodNamed B.named B.method).1
  have htab : c.exceptionTable.toList = tableOf (jm_hh m) := by
    obtain ⟨meth9, c9, h1, h2, -, -, -, -, h7, -⟩ := Cond.code_spec B.named (hts _ List.mem_cons_self)
    cases Option.some.inj (h1.symm.trans B.method)
    cases Option.some.inj (h2.symm.trans (Stand.of_body B).code)
    rw [Array.isEmpty_iff.mp h7, jm_hh_nil hw]
    rfl
  have hf := jm_fc hfm
  have hl := lv_entry (as.map (jm_cv ad fmt)) (n := (g_m m).2.2.1) (by rw [jm_lgsl hf]; exact has)
  rw [jm_lvargs hf] at hl
  rw [lg_entry_eq]
  refine IH dd m 0 (jm_args 0 as) [] h r h' hex p e _ s mi _ below meth c _ (jm_cn h) (jm_sl h) h.2 ⟨B.exec, B.bytes, hml, hown, fun w hw => hts w (List.mem_cons_of_mem _ hw), hG, hin, ?_, ?_, fun h0 => ?_, htab⟩ ⟨Nat.le_refl _, Nat.le_refl _⟩ ⟨?_, ?_⟩ (jm_mett B.exec B.bytes B.returns B.notSynchronized hr hmc hms) _ s.heap [] 0 0 ⟨hl, hP, va_S.rf, Nat.le_refl _, rfl, rfl⟩
  · show 1 ≤ dd + 2
    omega
  · show 60 ≤ (dd + 2) * 60
    omega
  · rw [hsz h0]
    unfold jm_cn
    omega
  · show _ ≤ _ + mc
    omega
  · show _ ≤ _ + ms
    omega
end
end
section
theorem jm_good {ws : List Cond} (h : ∀ w ∈ ws, w ∈ jm_W) : GoodIn jm_W ws := fun w hw => ⟨h w hw, good_of_word (List.mem_filter.mp (h w hw)).2⟩
theorem jm_wsm_in {m : Nat} (hm : m < 278) (hw : g_wr.contains m = false) : ∀ w ∈ jm_wsm m, w ∈ jm_W := by
  intro w h
  rcases List.mem_cons.mp h with h | h
  · rw [h]; exact jm_cw_of hm hw
  · exact h
section
variable {p : Program} {l : Launch} {e : Env} {R : Room} {s : State} {mi : MethodId} {args : Array Value} {below : List Frame} {meth : Method} {c : Code} {Q : State → Prop}
variable {D : va_G} {aC : Nat → ClassId} {ad : Nat → Nat} {fmt : Value} {sc : List Int} {m c0 s0 x0 : Nat}
variable {pc pc' : Nat} {L L' : jm_L} {S S' : List jm_V} {h h' : jm_H} {ls : Array Slot} {H : Heap} {locs : List Loc} {cells slots : Nat}
theorem jm_after {r1 : Option jm_V} {h1 : jm_H} {X : Array Value} {mc ms : Nat} {rest : List jm_V} {st0 : List Value} (hr1 : r1 = none ∨ (∃ z, r1 = some (0, z)) ∨ (∃ z, r1 = some (1, z)))
    (hr : va_Run p l e R s mi args below meth c H locs cells slots mc ms (F0 mi pc ls st0) (rest.map (jm_cv ad fmt)) (jm_QQ D aC ad fmt r1 h1 X) (jm_A ad)) (rel : jm_Rel D aC ad fmt s (g_m m).2.2.1 c0 s0 x0 L h ls H locs cells slots) (hle : jm_le h h1) (hmc : jm_cn h + mc = jm_cn h1) (hms : jm_sl h + ms = jm_sl h1)
    (nx : jm_Nx p l e R s mi args below meth c Q D aC ad fmt (g_m m).2.2.1 c0 s0 x0 (pc + 3) L (r1.toList ++ rest) h1) : W p l e R s mi args below meth c H locs cells slots Q (F0 mi pc ls st0) := by
  obtain ⟨q1, q2, q3, q4, q5, q6⟩ := rel
  have fin : ∀ (t : State) (H1 : Heap) (locs1 : List Loc), t.heap = H1 → va_P D g_cl (jm_ws aC ad fmt h1.1) t.heap → va_S (jm_A ad) s.heap H1 locs1 → jm_Rel D aC ad fmt s (g_m m).2.2.1 c0 s0 x0 L h1 ls H1 locs1 (cells + mc) (slots + ms) := by
    intro t H1 locs1 ht hP hS
    rw [ht] at hP
    exact ⟨q1, hP, hS, Nat.le_trans q4 hle.2.2, by omega, by omega⟩
  rcases hr1 with rfl | ⟨z, rfl⟩ | ⟨z, rfl⟩
  · exact va_callv (a := X) hr q3 (fun q _ z => z) (fun q z => z) (fun u t H1 locs1 ht _ _ hB _ _ hS => nx ls H1 locs1 _ _ (fin t H1 locs1 ht hB hS))
  · refine va_calli (a := X) hr q3 (fun q _ z => z) (fun q z => z) (fun rr u t H1 locs1 ht _ hp hB _ _ hS => ?_)
    have hp : rr = Int32.ofInt z := hp
    subst hp
    exact nx ls H1 locs1 _ _ (fin t H1 locs1 ht hB hS)
  · refine va_calll (a := X) hr q3 (fun q _ z => z) (fun q z => z) (fun rr u t H1 locs1 ht _ hp hB _ _ hS => ?_)
    have hp : rr = Int64.ofInt z := hp
    subst hp
    exact nx ls H1 locs1 _ _ (fin t H1 locs1 ht hB hS)
theorem jm_pre (C : jm_Cx p R s mi args meth c D aC ad fmt sc m c0 x0) (rel : jm_Rel D aC ad fmt s (g_m m).2.2.1 c0 s0 x0 L h ls H locs cells slots) (hz : H.size ≤ s.heap.size + cells) {as : List Value} : ∀ U : State, U.heap = H → s.WarmedH U.vm → va_Pc as (jm_PU D aC ad fmt sc h) as.toArray U := by
  intro U hU hW
  obtain ⟨hx, hb, hml, hown, hts, hG, hnm, hfr, hlo, hs0, htab⟩ := C
  have hG0 : ad 0 ≤ s.heap.size := hG.2.2.2.2.2.2.2.2.2.1
  refine ⟨rfl, jm_G_at hG rel.2.2.1 hW hU, by rw [hU]; exact rel.2.1, fun h2 => ?_⟩
  rw [hU]
  exact jm_szeq hs0 hG0 rel h2 hz
theorem jm_call {i : jm_I} {d' n : Nat} {r1 : Option jm_V} {h1 : jm_H} (C : jm_Cx p R s mi args meth c D aC ad fmt sc m c0 x0) (rel : jm_Rel D aC ad fmt s (g_m m).2.2.1 c0 s0 x0 L h ls H locs cells slots) (hi : i.1 = 30) (hok : jm_ok3 (g_lnk m pc) (g_m m).1 (g_m m).2.1 pc i = true) (hwr : g_wr.contains i.2.2.1 = false)
    (hroom : d' + 3 ≤ R.frames ∧ (d' + 3) * 60 ≤ R.locals) (hcc : jm_cc m pc i S h) (IH : jm_P l D aC ad fmt sc n) (hex : jm_exec sc n d' i.2.2.1 0 (jm_args 0 (S.take i.2.2.2).reverse) [] h = some (r1, h1)) (hr9 : ¬ r1 = some (9, 0)) (hr1 : r1 = none ∨ (∃ z, r1 = some (0, z)) ∨ (∃ z, r1 = some (1, z)))
    (hbd : jm_cn h1 ≤ c0 + R.cells ∧ jm_sl h1 ≤ s0 + R.slots)
    (nx : jm_Nx p l e R s mi args below meth c Q D aC ad fmt (g_m m).2.2.1 c0 s0 x0 (pc + 3) L (r1.toList ++ S.drop i.2.2.2) h1) : W p l e R s mi args below meth c H locs cells slots Q (F0 mi pc ls (S.map (jm_cv ad fmt))) := by
  refine jm_Wsz fun hz => ?_
  have hpre := fun (as : List Value) => jm_pre C rel hz (as := as)
  obtain ⟨hx, hb, hml, hown, hts, hG, hnm, hfr, hlo, hs0, htab⟩ := C
  have hfm := hG.2.2.2.2.2.2.2.2.2.2.2.2
  have hf := jm_fc hfm
  obtain ⟨op, a, b, k⟩ := i
  dsimp only at hi hwr hcc hex nx
  subst hi
  obtain ⟨k1, k2, k3, k4⟩ := hcc
  dsimp only at k1 k2 k3 k4
  have hle := jm_exec_le n hex
  obtain ⟨mc, hmc⟩ : ∃ mc, jm_cn h + mc = jm_cn h1 := ⟨jm_cn h1 - jm_cn h, by have := (jm_le_cn hle).1; omega⟩
  obtain ⟨ms, hms⟩ : ∃ ms, jm_sl h + ms = jm_sl h1 := ⟨jm_sl h1 - jm_sl h, by have := (jm_le_cn hle).2; omega⟩
  have hcells : cells + mc ≤ R.cells ∧ slots + ms ≤ R.slots := by
    have q5 := rel.2.2.2.2.1
    have q6 := rel.2.2.2.2.2
    omega
  have hok2 : (decide (b < g_N) && (if a = -1 then _ else _)) = true := hok
  obtain ⟨hbN, hok3⟩ := Bool.and_eq_true_iff.mp hok2
  have hb278 : b < 278 := of_decide_eq_true hbN
  clear hok hok2
  have has : jm_cat (S.take k).reverse ≤ (g_m b).2.2.1 := by
    have : jm_cat (S.take k).reverse = jm_cat (S.take k) := by unfold jm_cat; rw [List.map_reverse, List.sum_reverse]
    omega
  have hM := jm_met IH hb278 hwr hex hr9 has hmc hms hfm
  obtain ⟨-, hcls, hml30⟩ := jm_mok_of hb278
  have hR : (jm_rm d' mc ms).frames + 1 ≤ R.frames ∧ 8 + ((g_m b).2.2.1 + 11) + (jm_rm d' mc ms).locals ≤ R.locals := by
    unfold jm_rm
    dsimp only
    omega
  have hst : S.map (jm_cv ad fmt) = ((S.take k).reverse.map (jm_cv ad fmt)).reverse ++ (S.drop k).map (jm_cv ad fmt) := by
    rw [← List.map_reverse, List.reverse_reverse, ← List.map_append, List.take_append_drop]
  have hW8 : 2 * (F0 mi pc ls (S.map (jm_cv ad fmt))).monitorRoom + (((S.drop k).map (jm_cv ad fmt)).map fun v => v.category).sum ≤ 8 := by
    rw [jm_catm hf]
    show 2 * 0 + _ ≤ 8
    omega
  have hGs := jm_good (jm_wsm_in hb278 hwr)
  have hlen : (S.take k).reverse.length = k := by rw [List.length_reverse, List.length_take]; omega
  rw [if_neg (by decide)] at k4
  by_cases ha1 : a = -1
  · rw [if_pos ha1] at hok3
    simp only [Bool.and_eq_true] at hok3
    obtain ⟨⟨⟨⟨o1, o2⟩, o3⟩, o4⟩, o5⟩ := hok3
    refine jm_after hr1 (va_runS (Ts := jm_W) (As := (S.take k).reverse.map (jm_cv ad fmt)) ⟨hx, hb, hml, hown, hts⟩ hM (va_cwS k hts (jm_good ?_) rfl rfl rfl ⟨hcls.1, hcls.2, of_decide_eq_true o5⟩ hR) ⟨jm_blind, hpre _⟩ rfl (by rw [List.length_map]; exact hlen) rel.1.1 hst hW8 (jm_dc_eq o1) hcells) rel hle hmc hms nx
    intro w hw
    unfold va_wsS at hw
    rcases List.mem_append.mp hw with hw | hw
    · simp only [List.mem_cons, List.not_mem_nil, or_false] at hw
      rcases hw with rfl | rfl | rfl
      · exact jm_w_in o2
      · exact jm_w_in o3
      · exact jm_w_in o4
    · exact jm_wsm_in hb278 hwr w hw
  · rw [if_neg ha1] at hok3
    cases hrev : (S.take k).reverse with
    | nil => rw [hrev] at k4; exact absurd (of_decide_eq_true k4) ha1
    | cons o As =>
      rw [hrev] at k4 hM hst hlen
      rw [List.map_cons] at hM
      rw [List.map_cons, List.reverse_cons, List.append_assoc, List.singleton_append] at hst
      have k4' : (if a = -1 then true else if a = -2 ∨ a = -3 then decide (o.1 = 2 ∧ 0 ≤ o.2) else if a = 5 then decide (o.1 = 4 ∧ 10 ≤ o.2 ∧ o.2 < 10 + 2 * g_str.length ∧ o.2 % 2 = 0) else match o.1, jm_cell h o.2 with
        | 2, some c => decide ((c.1 : Int) = a)
        | _, _ => false) = true := k4
      rw [if_neg ha1] at k4'
      rw [List.length_cons] at hlen
      have hlen2 : (As.map (jm_cv ad fmt)).length = k - 1 := by rw [List.length_map]; omega
      by_cases ha2 : a = -2
      · rw [if_pos ha2] at hok3
        rw [if_pos (Or.inl ha2)] at k4'
        have ho := of_decide_eq_true k4'
        rw [jm_cv2 ho.1 ho.2] at hM hst
        simp only [Bool.and_eq_true] at hok3
        obtain ⟨⟨⟨⟨⟨⟨⟨o1, o2⟩, o3⟩, o4⟩, o5⟩, o6⟩, o7⟩, o8⟩ := hok3
        have hrt : (g_m b).2.2.2 = none := of_decide_eq_true o6
        have hwsm : jm_wsm b = Cond.code (g_m b).1 (g_m b).2.1 (g_m b).2.2.1 none :: jm_W := by unfold jm_wsm; rw [hrt]
        exact jm_after hr1 (va_runI (Ts := jm_W) (As := As.map (jm_cv ad fmt)) ⟨hx, hb, hml, hown, hts⟩ hM (cwI (k - 1) hts hGs hwsm rfl rfl (hts _ (jm_w_in o4)) (hts _ (jm_w_in o2)) (hts _ (jm_w_in o3)) (of_decide_eq_true o5) ⟨hcls.1, hcls.2, of_decide_eq_true o8⟩ hR) ⟨jm_blind, hpre _⟩ rfl hlen2 rel.1.1 hst hW8 (jm_dc_eq o1) hcells) rel hle hmc hms nx
      · rw [if_neg ha2] at hok3
        by_cases ha3 : a = -3
        · rw [if_pos ha3] at hok3
          rw [if_pos (Or.inr ha3)] at k4'
          have ho := of_decide_eq_true k4'
          rw [jm_cv2 ho.1 ho.2] at hM hst
          simp only [Bool.and_eq_true] at hok3
          obtain ⟨⟨⟨⟨⟨⟨⟨o1, o2⟩, o3⟩, o4⟩, o5⟩, o6⟩, o7⟩, o8⟩ := hok3
          have hrt : (g_m b).2.2.2 = none := of_decide_eq_true o6
          have hwsm : jm_wsm b = Cond.code (g_m b).1 (g_m b).2.1 (g_m b).2.2.1 none :: jm_W := by unfold jm_wsm; rw [hrt]
          have hnest := hG.2.2.2.2.2.2.2.2.2.2.1 _ _ _ _ (List.mem_of_getElem? (of_decide_eq_true o2))
          exact jm_after hr1 (va_runIN (Ts := jm_W) (As := As.map (jm_cv ad fmt)) ⟨hx, hb, hml, hown, hts⟩ hM ⟨va_cnB (k - 1) hts hGs hwsm rfl rfl hnest (hts _ (jm_w_in o4)) ⟨hcls.1, hcls.2, of_decide_eq_true o8⟩ hR, of_decide_eq_true o5, hts _ (jm_w_in o3)⟩ ⟨jm_blind, hpre _⟩ rfl hlen2 rel.1.1 hst hW8 (jm_dc_eq o1) hcells) rel hle hmc hms nx
        · rw [if_neg ha3] at hok3
          rw [if_neg (by omega)] at k4'
          simp only [Bool.and_eq_true] at hok3
          obtain ⟨⟨⟨⟨⟨⟨⟨o1, o2⟩, o3⟩, o4⟩, o5⟩, o6⟩, o7⟩, o8⟩ := hok3
          rw [if_neg (by decide)] at o8
          have hgood : GoodIn jm_W (wsV (g_m m).1.cls ((g_lnk m pc).getD 0 0) (g_m b).1.cls (g_m b).1 (jm_wsm b)) := by
            refine jm_good fun w hw => ?_
            unfold wsV at hw
            rcases List.mem_append.mp hw with hw | hw
            · simp only [List.mem_cons, List.not_mem_nil, or_false] at hw
              rcases hw with rfl | rfl | rfl | rfl
              · exact jm_w_in o2
              · exact jm_w_in o3
              · exact jm_w_in o4
              · exact jm_w_in o5
            · exact jm_wsm_in hb278 hwr w hw
          have cw := cwV (R := R) (rm := jm_rm d' mc ms) (k - 1) hts hgood rfl rfl rfl ⟨rfl, hcls.1, hcls.2, of_decide_eq_true o7⟩ hR
          by_cases ha5 : a = 5
          · rw [if_pos ha5] at k4' o8
            have ho := of_decide_eq_true k4'
            obtain ⟨j, j1, j2, j3⟩ := jm_strix ho.2.1 ho.2.2.1 ho.2.2.2
            rw [jm_cv4 ho.1, j2] at hM hst
            have hcs : (g_m b).1.cls = "java/lang/String" := of_decide_eq_true o8
            have hrv := vk_recv (i := j) hG.2.1 j1 rel.2.2.1
            exact jm_after hr1 (va_runV (Ts := jm_W) (As := As.map (jm_cv ad fmt)) ⟨hx, hb, hml, hown, hts⟩ hM cw ⟨jm_blind, by rw [hcs]; exact hrv, hpre _⟩ rfl hlen2 rel.1.1 hst hW8 (jm_dc_eq o1) hcells) rel hle hmc hms nx
          · rw [if_neg ha5] at k4' o8
            split at k4'
            · rename_i c2 ho hcl
              have hka : (c2.1 : Int) = a := of_decide_eq_true k4'
              obtain ⟨o9, o10⟩ := Bool.and_eq_true_iff.mp o8
              have h10 : 10 ≤ a := of_decide_eq_true o9
              obtain ⟨g0, g1, g2⟩ := jm_cellw (aC := aC) (ad := ad) (fmt := fmt) hcl
              rw [jm_cv2 ho g0] at hM hst
              have hk2 : c2.1 = 10 + (a - 10).toNat := by omega
              rw [jm_ce_obj hk2] at g2
              have hcn : (g_cl[(a - 10).toNat]?).map (fun r => r.1) = some (g_m b).1.cls := of_decide_eq_true o10
              cases hr : g_cl[(a - 10).toNat]? with
              | none => rw [hr] at hcn; cases hcn
              | some rr =>
                rw [hr] at hcn
                have hcn2 : rr.1 = (g_m b).1.cls := Option.some.inj hcn
                exact jm_after hr1 (va_runV (Ts := jm_W) (As := As.map (jm_cv ad fmt)) ⟨hx, hb, hml, hown, hts⟩ hM cw ⟨jm_blind, by rw [← hcn2]; exact va_recv hG.1 rel.2.1 hr g2, hpre _⟩ rfl hlen2 rel.1.1 hst hW8 (jm_dc_eq o1) hcells) rel hle hmc hms nx
            · cases k4'
end
end
section
theorem jm_ret_tag {i : jm_I} {S : List jm_V} {h h' : jm_H} {r : Option jm_V} (hr : jm_ret i S h = some (r, h')) : r = none ∨ (∃ z, r = some (0, z)) ∨ (∃ z, r = some (1, z)) := by
  obtain ⟨op, a, b, d⟩ := i
  unfold jm_ret at hr
  dsimp only at hr
  split at hr
  · rename_i v
    split at hr
    · rename_i hc2
      cases hr
      obtain ⟨t, z⟩ := v
      obtain ⟨ht, -⟩ := hc2
      dsimp only at ht
      subst ht
      exact Or.inr (Or.inl ⟨z, rfl⟩)
    · cases hr
  · rename_i v
    split at hr
    · rename_i hc2
      cases hr
      obtain ⟨t, z⟩ := v
      dsimp only at hc2
      subst hc2
      exact Or.inr (Or.inr ⟨z, rfl⟩)
    · cases hr
  · cases hr
    exact Or.inl rfl
  · cases hr
theorem jm_exec_ret {sc : List Int} : ∀ (n : Nat) {dd m pc : Nat} {L : jm_L} {S : List jm_V} {h h' : jm_H} {r : Option jm_V}, jm_exec sc n dd m pc L S h = some (r, h') → ¬ r = some (9, 0) → r = none ∨ (∃ z, r = some (0, z)) ∨ (∃ z, r = some (1, z))
  | 0, dd, m, pc, L, S, h, h', r, hex => by cases hex
  | n + 1, dd, m, pc, L, S, h, h', r, hex => by
    intro h9
    obtain ⟨i, hc, hcase⟩ := jm_exec_inv hex
    rcases hcase with ⟨-, hr⟩ | ⟨-, -, -, e9, -⟩ | ⟨-, d', r1, h1, rfl, -, hx, hy⟩ | ⟨-, -, pc', L', S', h1, hs, hx⟩
    · exact jm_ret_tag hr
    · exact absurd e9 h9
    · rcases hy with ⟨-, -, hy⟩ | ⟨-, hy⟩
      · exact jm_exec_ret n hy h9
      · exact jm_exec_ret n hy h9
    · exact jm_exec_ret n hx h9
/-- what is shown apart: the calls of methods with a table (32), and the calls that are tried (31), both ends -/
def jm_Xw (l : Launch) (D : va_G) (aC : Nat → ClassId) (ad : Nat → Nat) (fmt : Value) (sc : List Int) : Prop :=
  ∀ (n : Nat), jm_P l D aC ad fmt sc n → ∀ (d' m pc : Nat) (i : jm_I) (L : jm_L) (S : List jm_V) (h h1 : jm_H) (r1 : Option jm_V),
    g_code m pc = some i → (i.1 = 31 ∨ i.1 = 32) → jm_cc m pc i S h → jm_exec sc n d' i.2.2.1 0 (jm_args 0 (S.take i.2.2.2).reverse) [] h = some (r1, h1) →
  ∀ (p : Program) (e : Env) (R : Room) (s : State) (mi : MethodId) (args : Array Value) (below : List Frame) (meth : Method) (c : Code) (Q : State → Prop) (c0 s0 x0 : Nat),
    jm_Cx p R s mi args meth c D aC ad fmt sc m c0 x0 → (d' + 3 ≤ R.frames ∧ (d' + 3) * 60 ≤ R.locals) → (jm_cn h1 ≤ c0 + R.cells ∧ jm_sl h1 ≤ s0 + R.slots) →
    (r1 = some (9, 0) → i.1 = 31 ∧ jm_Nx p l e R s mi args below meth c Q D aC ad fmt (g_m m).2.2.1 c0 s0 x0 i.2.1.toNat (jm_drop L ((g_lnk m pc).getD 6 0)) [] h1) → (¬ r1 = some (9, 0) → jm_Nx p l e R s mi args below meth c Q D aC ad fmt (g_m m).2.2.1 c0 s0 x0 (pc + 3) L (r1.toList ++ S.drop i.2.2.2) h1) →
    jm_Nx p l e R s mi args below meth c Q D aC ad fmt (g_m m).2.2.1 c0 s0 x0 pc L S h
def jm_wok : Bool := (List.range 278).all (fun m => (List.range (16 * (jm_rows m).length)).all (fun pc => match g_code m pc with | some i => !(decide (i.1 = 30)) || !(g_wr.contains i.2.2.1) | none => true))
theorem jm_wok_t : jm_wok = true := by decide +kernel
theorem jm_wok_of {m pc : Nat} {i : jm_I} (h : g_code m pc = some i) (h30 : i.1 = 30) : g_wr.contains i.2.2.1 = false := by
  obtain ⟨h1, h2⟩ := jm_code_lt h
  have h3 := List.all_eq_true.mp (List.all_eq_true.mp jm_wok_t m (List.mem_range.mpr h1)) pc (List.mem_range.mpr h2)
  rw [h] at h3
  dsimp only at h3
  rw [decide_eq_true h30] at h3
  simpa using h3
theorem jm_sound {l : Launch} {D : va_G} {aC : Nat → ClassId} {ad : Nat → Nat} {fmt : Value} {sc : List Int} (XW : jm_Xw l D aC ad fmt sc) : ∀ n : Nat, jm_P l D aC ad fmt sc n
  | 0 => by
    intro dd m pc L S h r h' hex
    cases hex
  | n + 1 => by
    have IH := jm_sound XW n
    intro dd m pc L S h r h' hex p e R s mi args below meth c Q c0 s0 x0 C hroom hbd hends ls H locs cells slots rel
    obtain ⟨i, hc, hcase⟩ := jm_exec_inv hex
    have hok := jm_ok_of hc
    rcases hcase with ⟨h40, hr⟩ | ⟨h41, hd, hS, e9, eh⟩ | ⟨h30, d', r1, h1, rfl, hcc, hx, hy⟩ | ⟨h40, h30, pc', L', S', h1, hs, hx⟩
    · exact hends pc i L S h ls H locs cells slots hc rel (Or.inl ⟨h40, hr⟩)
    · exact hends pc i L S h ls H locs cells slots hc rel (Or.inr ⟨h41, hd, hS, e9, eh⟩)
    · have hroom3 : d' + 3 ≤ R.frames ∧ (d' + 3) * 60 ≤ R.locals := by omega
      have hb1 : jm_cn h1 ≤ c0 + R.cells ∧ jm_sl h1 ≤ s0 + R.slots := by
        have hle : jm_le h1 h' := by
          rcases hy with ⟨-, -, hy⟩ | ⟨-, hy⟩
          · exact jm_exec_le n hy
          · exact jm_exec_le n hy
        have := jm_le_cn hle
        omega
      by_cases h0 : i.1 = 30
      · rcases hy with ⟨-, h31, -⟩ | ⟨hr9, hy⟩
        · omega
        · have hok3 : jm_ok3 (g_lnk m pc) (g_m m).1 (g_m m).2.1 pc i = true := by
            unfold jm_ok at hok
            rw [if_neg (by omega), if_neg (by omega), if_pos (Or.inl h0)] at hok
            exact hok
          exact jm_call C rel h0 hok3 (jm_wok_of hc h0) hroom3 hcc IH hx hr9 (jm_exec_ret n hx hr9) hb1 (fun ls' H' locs' cells' slots' rel' => IH (d' + 1) m (pc + 3) L _ h1 r h' hy p e R s mi args below meth c Q c0 s0 x0 C hroom hbd hends ls' H' locs' cells' slots' rel')
      · refine XW n IH d' m pc i L S h h1 r1 hc (by omega) hcc hx p e R s mi args below meth c Q c0 s0 x0 C hroom3 hb1 (fun hr9 => ?_) (fun hr9 => ?_) ls H locs cells slots rel
        · rcases hy with ⟨-, h31, hy⟩ | ⟨hn9, -⟩
          · exact ⟨h31, fun ls' H' locs' cells' slots' rel' => IH (d' + 1) m _ _ [] h1 r h' hy p e R s mi args below meth c Q c0 s0 x0 C hroom hbd hends ls' H' locs' cells' slots' rel'⟩
          · exact absurd hr9 hn9
        · rcases hy with ⟨h9, -, -⟩ | ⟨-, hy⟩
          · exact absurd h9 hr9
          · exact fun ls' H' locs' cells' slots' rel' => IH (d' + 1) m (pc + 3) L _ h1 r h' hy p e R s mi args below meth c Q c0 s0 x0 C hroom hbd hends ls' H' locs' cells' slots' rel'
    · have hb1 : jm_cn h1 ≤ c0 + R.cells ∧ jm_sl h1 ≤ s0 + R.slots := by
        have := jm_le_cn (jm_exec_le n hx)
        omega
      exact jm_step C rel hok hs hb1 (fun ls' H' locs' cells' slots' rel' => IH dd m pc' L' S' h1 r h' hx p e R s mi args below meth c Q c0 s0 x0 C hroom hbd hends ls' H' locs' cells' slots' rel')
end
section
theorem jm_aov : Cond.arrayOver (.object "RideLaws$State") ∈ lw_tbl := by decide +kernel
/-! from a run of the Int machine to the law's own walk -/
def jm_adf (a0 mo b : Nat) (adK adV : Nat → Nat) : Nat → Nat := fun j => if j = 0 then a0 else if j = 1 then mo else if j = 2 then b else if j % 2 = 0 then adK ((j - 10) / 2) else adV ((j - 11) / 2)
theorem jm_adf_K {a0 mo b : Nat} {adK adV : Nat → Nat} (k : Nat) : jm_adf a0 mo b adK adV (10 + 2 * k) = adK k := by
  unfold jm_adf
  rw [if_neg (by omega), if_neg (by omega), if_neg (by omega), if_pos (by omega)]
  congr 1
  omega
theorem jm_adf_V {a0 mo b : Nat} {adK adV : Nat → Nat} (k : Nat) : jm_adf a0 mo b adK adV (11 + 2 * k) = adV k := by
  unfold jm_adf
  rw [if_neg (by omega), if_neg (by omega), if_neg (by omega), if_neg (by omega)]
  congr 1
  omega
def jm_inok : Bool := (List.range 13).all (fun ci => match g_cl[ci]? with | some r => decide (Cond.instantiable r.1 r.2.2 ∈ lw_tbl) | none => true)
theorem jm_inok_t : jm_inok = true := by decide +kernel
theorem jm_inst {ci : Nat} {r : vw_C} (h : g_cl[ci]? = some r) : Cond.instantiable r.1 r.2.2 ∈ lw_tbl := by
  have hlt : ci < 13 := (List.getElem?_eq_some_iff.mp h).1
  have h1 := List.all_eq_true.mp jm_inok_t ci (List.mem_range.mpr hlt)
  rw [h] at h1
  exact of_decide_eq_true h1
theorem jm_classes {s : State} {args : Array Value} (hts : ∀ w ∈ lw_tbl, w.before args s = true) : ∃ D : va_G, ∀ (k : Nat) (q : vw_C), g_cl[k]? = some q → u_Kn s q.1 q.2.1 q.2.2 (D.1 k) (D.2 k) := by
  have h : ∀ k : Nat, ∃ z : ClassId × (Nat → Nat), ∀ q : vw_C, g_cl[k]? = some q → u_Kn s q.1 q.2.1 q.2.2 z.1 z.2 := by
    intro k
    cases hk : g_cl[k]? with
    | none => exact ⟨(0, fun _ => 0), fun q hq => nomatch hq⟩
    | some r =>
      obtain ⟨f1, -⟩ := jm_cl_facts hk
      obtain ⟨cC, iS, hK⟩ := u_known (C := r.1) (T := r.2.1) (N := r.2.2) hts (fun w hw => (List.mem_filter.mp (f1 w hw)).1) (hts _ (jm_inst hk))
      exact ⟨(cC, iS), fun q hq => by cases hq; exact hK⟩
  exact ⟨(fun k => (Classical.choose (h k)).1, fun k => (Classical.choose (h k)).2), fun k q hq => Classical.choose_spec (h k) q hq⟩
theorem jm_arr {s : State} {args : Array Value} {ty : FieldType} (h : (Cond.arrayClass ty).before args s = true) (ht : ∀ C, ty ≠ .object C) : ∃ cA : ClassId, ArrOfT s cA ty ∧ va_RA s cA ty := by
  obtain ⟨cA, kA, comp, h1, h2, h3⟩ := Cond.arrayClass_spec (args := args) (first := s) (o := none) (s := s) (idx := []) h
  refine ⟨cA, fun n z => ⟨fun k h => (by cases h), kA, h2, comp, h3⟩, ?_⟩
  cases ty with
  | object C => exact absurd rfl (ht C)
  | _ => exact h1
theorem jm_arrs {s : State} {args : Array Value} (hts : ∀ w ∈ lw_tbl, w.before args s = true) : ∃ aC : Nat → ClassId, ∀ (k : Nat) (q : ClassId × FieldType), (jm_tys aC)[k]? = some q → ArrOfT s q.1 q.2 ∧ va_RA s q.1 q.2 := by
  have hin : ∀ w ∈ jm_W, w.before args s = true := fun w hw => hts w (List.mem_filter.mp hw).1
  obtain ⟨a0, h0⟩ := jm_arr (hin _ jm_aw0) (fun C h => by cases h)
  obtain ⟨a1, h1⟩ := jm_arr (hin _ jm_aw1) (fun C h => by cases h)
  obtain ⟨a2, h2⟩ := jm_arr (hin _ jm_aw2) (fun C h => by cases h)
  obtain ⟨a3, h3⟩ := jm_arr (hin _ jm_aw3) (fun C h => by cases h)
  have hov : (Cond.arrayOver (.object "RideLaws$State")).before args s = true := hts _ jm_aov
  obtain ⟨comp, a4, kA, g1, -, g3, g4, g5⟩ := Cond.arrayOver_spec (args := args) (first := s) (o := none) (s := s) (idx := []) hov
  refine ⟨fun k => if k = 0 then a0 else if k = 1 then a1 else if k = 2 then a2 else if k = 3 then a3 else a4, fun k q hq => ?_⟩
  match k, hq with
  | 0, hq => cases hq; exact h0
  | 1, hq => cases hq; exact h1
  | 2, hq => cases hq; exact h2
  | 3, hq => cases hq; exact h3
  | 4, hq => cases hq; exact ⟨fun n z => ⟨fun k h => (by cases h), kA, g3, comp, g4⟩, ⟨kA, comp, g3, g4, g1, g5⟩⟩
  | k + 5, hq => cases hq
def jm_tm (k : Nat) : Term := Term.string (jm_str k).1 (jm_str k).2.1
def jm_fl1 : List Cond := flatC (Jvm.Cond.and given_1 narrow_1)
def jm_sok : Bool := (List.range g_strs.length).all (fun i => decide ((g_str.map List.length).getD i 0 < 2 ^ 31) && decide (Cond.exactly (jm_tm i) "java/lang/String" ∈ jm_fl1) && decide (Cond.eq (.field (jm_tm i) "java/lang/String" "coder" "B") (.int 0) ∈ jm_fl1) && decide (Cond.arrayOf (.field (jm_tm i) "java/lang/String" "value" "[B") .byte ∈ jm_fl1) && decide (Cond.eq (.length (.field (jm_tm i) "java/lang/String" "value" "[B")) (.int (Int32.ofNat ((g_str.map List.length).getD i 0))) ∈ jm_fl1) && decide (Cond.stringRef (jm_str i).1 (jm_str i).2.1 (jm_str i).2.2 ∈ lw_tbl))
theorem jm_sok_t : jm_sok = true := by decide +kernel
def g_sb : List Nat := [36, 162, 171, 181, 193, 207, 249, 289]
def jm_sc1 (i j : Nat) : Cond := Cond.eq (.elem (.field (jm_tm i) "java/lang/String" "value" "[B") (.int (Int32.ofNat j))) (.int (((g_str.map (List.map Int32.ofInt)).getD i []).getD j 0))
def jm_sel (i : Nat) : Bool := decide ((jm_fl1.drop (g_sb.getD i 0)).take ((g_str.map List.length).getD i 0) = (List.range ((g_str.map List.length).getD i 0)).map (jm_sc1 i))
theorem jm_sel_0 : jm_sel 0 = true := by decide +kernel
theorem jm_sel_1 : jm_sel 1 = true := by decide +kernel
theorem jm_sel_2 : jm_sel 2 = true := by decide +kernel
theorem jm_sel_3 : jm_sel 3 = true := by decide +kernel
theorem jm_sel_4 : jm_sel 4 = true := by decide +kernel
theorem jm_sel_5 : jm_sel 5 = true := by decide +kernel
theorem jm_sel_6 : jm_sel 6 = true := by decide +kernel
theorem jm_sel_7 : jm_sel 7 = true := by decide +kernel
theorem jm_sel_of {i : Nat} (hi : i < g_strs.length) : jm_sel i = true := by
  have hi : i < 8 := hi
  match i, hi with
  | 0, _ => exact jm_sel_0
  | 1, _ => exact jm_sel_1
  | 2, _ => exact jm_sel_2
  | 3, _ => exact jm_sel_3
  | 4, _ => exact jm_sel_4
  | 5, _ => exact jm_sel_5
  | 6, _ => exact jm_sel_6
  | 7, _ => exact jm_sel_7
  | i + 8, hi => omega
theorem jm_sel_in {i j : Nat} (hi : i < g_strs.length) (hj : j < (g_str.map List.length).getD i 0) : jm_sc1 i j ∈ jm_fl1 := by
  have h1 : (jm_fl1.drop (g_sb.getD i 0)).take ((g_str.map List.length).getD i 0) = (List.range ((g_str.map List.length).getD i 0)).map (jm_sc1 i) := of_decide_eq_true (jm_sel_of hi)
  have h2 : jm_sc1 i j ∈ (List.range ((g_str.map List.length).getD i 0)).map (jm_sc1 i) := List.mem_map.mpr ⟨j, List.mem_range.mpr hj, rfl⟩
  rw [← h1] at h2
  exact List.mem_of_mem_drop (List.mem_of_mem_take h2)
def jm_sne : Bool := (List.range g_strs.length).all (fun i => (List.range g_strs.length).all (fun j => decide (i = j) || decide (Cond.not (Cond.eq (jm_tm i) (jm_tm j)) ∈ jm_fl1) || decide (Cond.not (Cond.eq (jm_tm j) (jm_tm i)) ∈ jm_fl1)))
theorem jm_sne_t : jm_sne = true := by decide +kernel
theorem jm_fmN : Cond.isRef (.static "jdk/internal/util/Preconditions" "SIOOBE_FORMATTER" "Ljava/util/function/BiFunction;") ∈ jm_fl1 := by decide +kernel
theorem jm_Gof {s : State} {b : Nat} {sc : List Int} (hts : ∀ w ∈ lw_tbl, w.before #[Value.ref b] s = true) (hgv : (Jvm.Cond.and given_1 narrow_1).before #[Value.ref b] s = true) (hX : va_X b sc.length (fun j => Int32.ofInt (sc.getD j 0)) s s.heap) (hbl : b < s.heap.size) : ∃ (D : va_G) (aC : Nat → ClassId) (ad : Nat → Nat) (fmt : Value), ad 0 = s.heap.size ∧ ad 2 = b ∧ jm_G D aC ad fmt sc s s.heap := by
  have hfl : ∀ w ∈ jm_fl1, w.before #[Value.ref b] s = true := flat_of_before _ hgv
  have hA : ∀ a : Nat, a < s.heap.size → ¬ (fun q : Nat => s.heap.size ≤ q) a := fun a h => Nat.not_le.mpr h
  obtain ⟨D, hD⟩ := jm_classes hts
  obtain ⟨aC, haC⟩ := jm_arrs hts
  have hsk : ∀ i : Nat, i < g_strs.length → ((((((g_str.map List.length).getD i 0 < 2 ^ 31) ∧ Cond.exactly (jm_tm i) "java/lang/String" ∈ jm_fl1) ∧ Cond.eq (.field (jm_tm i) "java/lang/String" "coder" "B") (.int 0) ∈ jm_fl1) ∧ Cond.arrayOf (.field (jm_tm i) "java/lang/String" "value" "[B") .byte ∈ jm_fl1) ∧ Cond.eq (.length (.field (jm_tm i) "java/lang/String" "value" "[B")) (.int (Int32.ofNat ((g_str.map List.length).getD i 0))) ∈ jm_fl1) ∧ Cond.stringRef (jm_str i).1 (jm_str i).2.1 (jm_str i).2.2 ∈ lw_tbl := by
    intro i hi
    have h1 := List.all_eq_true.mp jm_sok_t i (List.mem_range.mpr hi)
    simp only [Bool.and_eq_true, decide_eq_true_eq] at h1
    exact h1
  have hsl : ∀ i : Nat, i < g_strs.length → ∀ j : Nat, j < (g_str.map List.length).getD i 0 → Cond.eq (.elem (.field (jm_tm i) "java/lang/String" "value" "[B") (.int (Int32.ofNat j))) (.int (((g_str.map (List.map Int32.ofInt)).getD i []).getD j 0)) ∈ jm_fl1 := by
    intro i hi j hj
    exact jm_sel_in hi hj
  have hsn : ∀ i j : Nat, i < g_strs.length → j < g_strs.length → i ≠ j → Cond.not (Cond.eq (jm_tm i) (jm_tm j)) ∈ jm_fl1 ∨ Cond.not (Cond.eq (jm_tm j) (jm_tm i)) ∈ jm_fl1 := by
    intro i j hi hj hij
    have h1 := List.all_eq_true.mp (List.all_eq_true.mp jm_sne_t i (List.mem_range.mpr hi)) j (List.mem_range.mpr hj)
    simp only [Bool.or_eq_true, decide_eq_true_eq] at h1
    rcases h1 with (h1 | h1) | h1
    · exact absurd h1 hij
    · exact Or.inl h1
    · exact Or.inr h1
  obtain ⟨adK, adV, hSt, hev⟩ := vk_Sof (args := #[Value.ref b]) (s := s) (N := g_strs.length) (tm := jm_tm) (len := g_str.map List.length) (byt := g_str.map (List.map Int32.ofInt)) (A := fun q => s.heap.size ≤ q) (fun i hi => (hsk i hi).1.1.1.1.1) (fun i hi => hfl _ (hsk i hi).1.1.1.1.2) (fun i hi => hfl _ (hsk i hi).1.1.1.2) (fun i hi => hfl _ (hsk i hi).1.1.2) (fun i hi => hfl _ (hsk i hi).1.2) (fun i hi j hj => hfl _ (hsl i hi j hj)) (fun i j hi hj hij => (hsn i j hi hj hij).imp (hfl _) (hfl _)) hA
  obtain ⟨mo, hmo, hT⟩ := va_Tof (args := #[Value.ref b]) (s := s) (tm := .static "RideLaws$Plan" "MOST_OF" "[I") (ty := .int) (N := g_most.length) (f := fun j => .int (Int32.ofInt (g_most.getD j 0))) (A := fun q => s.heap.size ≤ q) (by decide) (hfl _ (by decide +kernel)) (va_eqt (hfl _ (by decide +kernel))) (fun j hj => by
    match j, hj with
    | 0, _ => exact va_eqt (hfl _ (by decide +kernel))
    | 1, _ => exact va_eqt (hfl _ (by decide +kernel))
    | 2, _ => exact va_eqt (hfl _ (by decide +kernel))
    | 3, _ => exact va_eqt (hfl _ (by decide +kernel))
    | 4, _ => exact va_eqt (hfl _ (by decide +kernel))
    | j + 5, hj => exact absurd hj (by show ¬ j + 5 < 5; omega)) hA
  obtain ⟨fmt, hfz, hff⟩ : ∃ fmt : Value, va_Z "jdk/internal/util/Preconditions" "SIOOBE_FORMATTER" "Ljava/util/function/BiFunction;" fmt (fun q => s.heap.size ≤ q) s s.heap ∧ (fmt = .null ∨ ∃ a : Nat, fmt = .ref a) := by
    rcases va_Zqof (args := #[Value.ref b]) (C := "jdk/internal/util/Preconditions") (n := "SIOOBE_FORMATTER") (d := "Ljava/util/function/BiFunction;") (A := fun q => s.heap.size ≤ q) (hts _ (by decide +kernel)) (hts _ (by decide +kernel)) (hfl _ jm_fmN) hA with h | ⟨t, h⟩
    · exact ⟨_, h, Or.inl rfl⟩
    · exact ⟨_, h, Or.inr ⟨t, rfl⟩⟩
  refine ⟨D, aC, jm_adf s.heap.size mo b adK adV, fmt, rfl, rfl, ⟨hD, haC⟩, ?_, fun k hk => ?_, va_Zof (hts _ (by decide +kernel)) (hts _ (by decide +kernel)) (va_eqt (hfl _ (by decide +kernel))) hA, hfz, va_Zref (hts _ (by decide +kernel)) (hts _ (by decide +kernel)) hmo hA, hT, hX, hbl, Nat.le_refl _, fun a k y b' hm => va_Nw.of rfl (hts _ hm), ⟨va_AO.of (hts _ jm_aov), vx_Zqof (hts _ (by decide +kernel)) (hts _ (by decide +kernel)) (hfl _ (by decide +kernel)) hA, vx_Zqof (hts _ (by decide +kernel)) (hts _ (by decide +kernel)) (hfl _ (by decide +kernel)) hA, fun a b' hm => va_Nw.of rfl (hts _ hm), fun x hm => va_Nw.of rfl (hts _ hm)⟩, hff⟩
  · have e1 : (fun k => jm_adf s.heap.size mo b adK adV (10 + 2 * k)) = adK := funext fun k => jm_adf_K k
    have e2 : (fun k => jm_adf s.heap.size mo b adK adV (11 + 2 * k)) = adV := funext fun k => jm_adf_V k
    rw [e1, e2]
    exact hSt
  · rw [jm_adf_K]
    exact vk_R.of (hts _ (hsk k hk).2) (hev k hk)
theorem jm_ok4_0 {bc : ByteArray} {rt : Option FieldType} {pc d : Nat} {a : Int} (h : jm_ok4 bc rt pc (40, a, 0, d) = true) : decode bc pc = .ok (.ireturn, 1) := jm_dc_eq (Bool.and_eq_true_iff.mp h).1
theorem jm_lawc : (g_m 277).2.1 = code := rfl
/-- the law, out of a run of the Int machine -/
theorem jm_law_open (l : Launch) (XW : ∀ (D : va_G) (aC : Nat → ClassId) (ad : Nat → Nat) (fmt : Value) (sc : List Int), jm_Xw l D aC ad fmt sc) {p : Program} {e : Env} {s : State} {m : MethodId} {below : List Frame} {meth : Method} {c : Code} {b L : Nat} {xs : Nat → Int32} (C0 : lw_At p s m meth c b L xs) (hnm : meth.name = "law") (htab : c.exceptionTable.toList = [])
    (run : ∃ (n : Nat) (h' : jm_H), jm_exec ((List.range L).map (fun j => (xs j).toInt)) n 100 277 0 [(0, (4, 2))] [] ([], 0) = some (some (0, 1), h') ∧ jm_cn h' ≤ room_1.cells ∧ jm_sl h' ≤ room_1.slots) : W p l e room_1 s m #[Value.ref b] below meth c s.heap [] 0 0 (lw_Z below #[Value.ref b] s) (entryFrame m ([Value.ref b] : List Value).toArray 7) := by
  obtain ⟨hx, hb, hr, hml, hown, hts, hX, hbl, hlocks, hgv⟩ := C0
  obtain ⟨n, h', hex, hcn, hsl⟩ := run
  have hX2 : va_X b ((List.range L).map (fun j => (xs j).toInt)).length (fun j => Int32.ofInt (((List.range L).map (fun j => (xs j).toInt)).getD j 0)) s s.heap := by
    obtain ⟨scr, g1, g2, g3, g4, g5⟩ := hX
    have hlen : ((List.range L).map (fun j => (xs j).toInt)).length = L := by rw [List.length_map, List.length_range]
    refine ⟨scr, g1, g2, g3, by rw [hlen]; exact g4, fun j hj => ?_⟩
    rw [hlen] at hj
    rw [g5 j hj]
    dsimp only
    rw [List.getD_eq_getElem?_getD, List.getElem?_map, List.getElem?_range hj]
    show _ = some (Value.int (Int32.ofInt (xs j).toInt))
    rw [jm_of32]
  obtain ⟨D, aC, ad, fmt, had0, had2, hG⟩ := jm_Gof hts hgv hX2 hbl
  have hf := jm_fc hG.2.2.2.2.2.2.2.2.2.2.2.2
  have hlv := lv_entry ([.ref b] : List Value) (n := 7) (Nat.le_of_ble_eq_true rfl)
  rw [lg_entry_eq]
  have hcl : jm_ls ad fmt [(0, ((4, 2) : jm_V))] = lv_args 0 ([.ref b] : List Value) := by
    show [(0, Value.ref (ad (2 : Int).toNat))] = [(0, Value.ref b)]
    rw [show (2 : Int).toNat = 2 from rfl, had2]
  rw [← hcl] at hlv
  have hbd : jm_cn h' ≤ 0 + room_1.cells ∧ jm_sl h' ≤ 0 + room_1.slots := by omega
  refine jm_sound (XW D aC ad fmt _) n 100 277 0 [(0, (4, 2))] [] ([], 0) (some (0, 1)) h' hex p e room_1 s m _ below meth c _ 0 0 0 ⟨hx, hb, hml, hown, fun w hw => hts w (List.mem_filter.mp hw).1, hG, hnm, by decide, by decide, fun _ => by rw [had0]; rfl, by rw [htab]; rfl⟩ ⟨by decide, by decide⟩ hbd ?_ _ s.heap [] 0 0 ⟨hlv, fun k q hq => by simp [jm_ws] at hq, va_S.rf, Nat.le_refl _, rfl, rfl⟩
  intro pc i Lx S h ls H locs cells slots hc rel hcase
  rcases hcase with ⟨h40, hret⟩ | ⟨-, -, -, h9, -⟩
  · have hh := jm_ret_h hret
    subst hh
    have hok := jm_ok_of hc
    obtain ⟨op, a, bb, d⟩ := i
    dsimp only at h40
    subst h40
    have hok4 : jm_ok4 (g_m 277).2.1 (g_m 277).2.2.2 pc (40, a, bb, d) = true := hok
    clear hok
    unfold jm_ret at hret
    dsimp only at hret
    split at hret
    · rename_i v
      split at hret
      · cases hret
        have hd := jm_ok4_0 hok4
        rw [jm_lawc] at hd
        have q5 := rel.2.2.2.2.1
        have q6 := rel.2.2.2.2.2
        refine va_forget (fun q hq => by have := rel.2.2.1.2.2 q hq; unfold jm_A at this; rw [had0] at this; exact this) ?_
        refine W.widen (k := 600002) (n := 7302232) (by have : jm_cn h' ≤ 600002 := hcn; omega) (by have : jm_sl h' ≤ 7302232 := hsl; omega) ?_
        exact lw_ret hx hb hr hlocks hd
      · cases hret
    · rename_i v
      split at hret
      · rename_i hv1
        cases hret
        cases hv1
      · cases hret
    · cases hret
    · cases hret
  · cases h9
end
section
/-! runs: more fuel, other scripts, rules -/
section
variable {sc sc' : List Int} {n dd m pc : Nat} {L : jm_L} {S : List jm_V} {h h' : jm_H} {r : Option jm_V}
theorem jm_mk_ret {i : jm_I} (hc : g_code m pc = some i) (h40 : i.1 = 40) (hr : jm_ret i S h = some (r, h')) : jm_exec sc (n + 1) dd m pc L S h = some (r, h') := by
  unfold jm_exec
  rw [hc]
  dsimp only
  rw [if_pos h40]
  exact hr
theorem jm_mk_thr {i : jm_I} (hc : g_code m pc = some i) (h41 : i.1 = 41) (hd : 10 ≤ dd) (hS : jm_cat S ≤ 8) : jm_exec sc (n + 1) dd m pc L S h = some (some (9, 0), (h.1, h.2 + 1)) := by
  unfold jm_exec
  rw [hc]
  dsimp only
  rw [if_neg (by omega), if_pos h41, if_pos ⟨hd, hS⟩]
theorem jm_mk_stp {i : jm_I} {pc' : Nat} {L' : jm_L} {S' : List jm_V} {h1 : jm_H} (hc : g_code m pc = some i) (h40 : ¬ i.1 = 40) (h30 : ¬ (i.1 = 30 ∨ i.1 = 31 ∨ i.1 = 32)) (hs : jm_stp sc i pc L S h = some (pc', L', S', h1)) (hx : jm_exec sc n dd m pc' L' S' h1 = some (r, h')) : jm_exec sc (n + 1) dd m pc L S h = some (r, h') := by
  have h41 : ¬ i.1 = 41 := fun q => by
    obtain ⟨op, a, b, d⟩ := i
    dsimp only at q
    subst q
    cases hs
  unfold jm_exec
  rw [hc]
  dsimp only
  rw [if_neg h40, if_neg h41, if_neg h30, hs]
  exact hx
theorem jm_mk_call {i : jm_I} {d' : Nat} {r1 : Option jm_V} {h1 : jm_H} (hc : g_code m pc = some i) (h30 : i.1 = 30 ∨ i.1 = 31 ∨ i.1 = 32) (hcc : jm_cc m pc i S h) (hx : jm_exec sc n d' i.2.2.1 0 (jm_args 0 (S.take i.2.2.2).reverse) [] h = some (r1, h1)) (hr1 : ¬ r1 = some (9, 0)) (hy : jm_exec sc n (d' + 1) m (pc + 3) L (r1.toList ++ S.drop i.2.2.2) h1 = some (r, h')) : jm_exec sc (n + 1) (d' + 1) m pc L S h = some (r, h') := by
  have hcc' : (i.2.2.2 ≤ S.length ∧ jm_cat (S.drop i.2.2.2) ≤ 8 ∧ jm_cat (S.take i.2.2.2) ≤ (g_m i.2.2.1).2.2.1 ∧ jm_rcv (if i.1 = 31 then 10 + ((g_lnk m pc).getD 5 0 : Int) else i.2.1) (S.take i.2.2.2).reverse h = true) := hcc
  unfold jm_exec
  rw [hc]
  dsimp only
  rw [if_neg (by omega), if_neg (by omega), if_pos h30, if_pos hcc', hx]
  dsimp only
  rw [if_neg hr1]
  exact hy
theorem jm_mk_try {i : jm_I} {d' : Nat} {h1 : jm_H} (hc : g_code m pc = some i) (h31 : i.1 = 31) (hcc : jm_cc m pc i S h) (hx : jm_exec sc n d' i.2.2.1 0 (jm_args 0 (S.take i.2.2.2).reverse) [] h = some (some (9, 0), h1)) (hy : jm_exec sc n (d' + 1) m i.2.1.toNat (jm_drop L ((g_lnk m pc).getD 6 0)) [] h1 = some (r, h')) : jm_exec sc (n + 1) (d' + 1) m pc L S h = some (r, h') := by
  have hcc' : (i.2.2.2 ≤ S.length ∧ jm_cat (S.drop i.2.2.2) ≤ 8 ∧ jm_cat (S.take i.2.2.2) ≤ (g_m i.2.2.1).2.2.1 ∧ jm_rcv (if i.1 = 31 then 10 + ((g_lnk m pc).getD 5 0 : Int) else i.2.1) (S.take i.2.2.2).reverse h = true) := hcc
  unfold jm_exec
  rw [hc]
  dsimp only
  rw [if_neg (by omega), if_neg (by omega), if_pos (by omega), if_pos hcc', hx]
  dsimp only
  rw [if_pos rfl, if_pos h31]
  exact hy
end
theorem jm_exec_up {sc : List Int} : ∀ (n : Nat) {dd m pc : Nat} {L : jm_L} {S : List jm_V} {h h' : jm_H} {r : Option jm_V}, jm_exec sc n dd m pc L S h = some (r, h') → ∀ n', n ≤ n' → jm_exec sc n' dd m pc L S h = some (r, h')
  | 0, dd, m, pc, L, S, h, h', r, hex, n', hn => by cases hex
  | n + 1, dd, m, pc, L, S, h, h', r, hex, n', hn => by
    obtain ⟨k, rfl⟩ : ∃ k, n' = k + 1 := ⟨n' - 1, by omega⟩
    have hk : n ≤ k := by omega
    obtain ⟨i, hc, hcase⟩ := jm_exec_inv hex
    rcases hcase with ⟨h40, hr⟩ | ⟨h41, hd, hS, rfl, rfl⟩ | ⟨h30, d', r1, h1, rfl, hcc, hx, hy⟩ | ⟨h40, h30, pc', L', S', h1, hs, hx⟩
    · exact jm_mk_ret hc h40 hr
    · exact jm_mk_thr hc h41 hd hS
    · rcases hy with ⟨rfl, h31, hy⟩ | ⟨hr1, hy⟩
      · exact jm_mk_try hc h31 hcc (jm_exec_up n hx k hk) (jm_exec_up n hy k hk)
      · exact jm_mk_call hc h30 hcc (jm_exec_up n hx k hk) hr1 (jm_exec_up n hy k hk)
    · exact jm_mk_stp hc h40 h30 hs (jm_exec_up n hx k hk)
/-- only the law itself reads the script -/
def jm_scok : Bool := (List.range 277).all (fun m => (List.range (16 * (jm_rows m).length)).all (fun pc => match g_code m pc with | some i => !(decide (i.1 = 22) && (decide (i.2.2.1 = 1) || decide (i.2.2.1 = 2))) && (!(decide (i.1 = 30) || decide (i.1 = 31) || decide (i.1 = 32)) || decide (i.2.2.1 < 277)) | none => true))
theorem jm_scok_t : jm_scok = true := by decide +kernel
theorem jm_stp_sc {sc sc' : List Int} {i : jm_I} {pc : Nat} {L : jm_L} {S : List jm_V} {h : jm_H} (hi : ¬ (i.1 = 22 ∧ (i.2.2.1 = 1 ∨ i.2.2.1 = 2))) : jm_stp sc i pc L S h = jm_stp sc' i pc L S h := by
  obtain ⟨op, a, b, d⟩ := i
  unfold jm_stp
  dsimp only at hi ⊢
  split <;> try rfl
  unfold jm_spec
  dsimp only
  split <;> first | rfl | exact absurd ⟨rfl, Or.inl rfl⟩ hi | exact absurd ⟨rfl, Or.inr rfl⟩ hi
theorem jm_exec_sc {sc : List Int} (sc' : List Int) : ∀ (n : Nat) {dd m pc : Nat} {L : jm_L} {S : List jm_V} {h h' : jm_H} {r : Option jm_V}, m < 277 → jm_exec sc n dd m pc L S h = some (r, h') → jm_exec sc' n dd m pc L S h = some (r, h')
  | 0, dd, m, pc, L, S, h, h', r, hm, hex => by cases hex
  | n + 1, dd, m, pc, L, S, h, h', r, hm, hex => by
    obtain ⟨i, hc, hcase⟩ := jm_exec_inv hex
    obtain ⟨-, hpc⟩ := jm_code_lt hc
    have hok := List.all_eq_true.mp (List.all_eq_true.mp jm_scok_t m (List.mem_range.mpr hm)) pc (List.mem_range.mpr hpc)
    rw [hc] at hok
    simp only [Bool.and_eq_true, Bool.not_eq_true', Bool.and_eq_false_iff, Bool.or_eq_false_iff, decide_eq_false_iff_not, Bool.or_eq_true, decide_eq_true_eq] at hok
    rcases hcase with ⟨h40, hr⟩ | ⟨h41, hd, hS, rfl, rfl⟩ | ⟨h30, d', r1, h1, rfl, hcc, hx, hy⟩ | ⟨h40, h30, pc', L', S', h1, hs, hx⟩
    · exact jm_mk_ret hc h40 hr
    · exact jm_mk_thr hc h41 hd hS
    · have hb : i.2.2.1 < 277 := by
        rcases hok.2 with q | q
        · omega
        · exact q
      rcases hy with ⟨rfl, h31, hy⟩ | ⟨hr1, hy⟩
      · exact jm_mk_try hc h31 hcc (jm_exec_sc sc' n hb hx) (jm_exec_sc sc' n hm hy)
      · exact jm_mk_call hc h30 hcc (jm_exec_sc sc' n hb hx) hr1 (jm_exec_sc sc' n hm hy)
    · refine jm_mk_stp hc h40 h30 ?_ (jm_exec_sc sc' n hm hx)
      rw [jm_stp_sc (sc' := sc)]
      · exact hs
      · intro q
        rcases hok.1 with q2 | q2
        · exact q2 q.1
        · rcases q.2 with q3 | q3
          · exact q2.1 q3
          · exact q2.2 q3
/-- a run, with fuel enough -/
def jm_R (sc : List Int) (d m pc : Nat) (L : jm_L) (S : List jm_V) (h : jm_H) (r : Option jm_V) (h' : jm_H) : Prop := ∃ n, jm_exec sc n d m pc L S h = some (r, h')
section
variable {sc sc' : List Int} {dd m pc : Nat} {L : jm_L} {S : List jm_V} {h h' : jm_H} {r : Option jm_V}
theorem jm_R_ret {i : jm_I} (hc : g_code m pc = some i) (h40 : i.1 = 40) (hr : jm_ret i S h = some (r, h')) : jm_R sc dd m pc L S h r h' := ⟨1, jm_mk_ret hc h40 hr⟩
theorem jm_R_stp {i : jm_I} {pc' : Nat} {L' : jm_L} {S' : List jm_V} {h1 : jm_H} (hc : g_code m pc = some i) (h40 : ¬ i.1 = 40) (h30 : ¬ (i.1 = 30 ∨ i.1 = 31 ∨ i.1 = 32)) (hs : jm_stp sc i pc L S h = some (pc', L', S', h1)) (hx : jm_R sc dd m pc' L' S' h1 r h') : jm_R sc dd m pc L S h r h' := by
  obtain ⟨n, hx⟩ := hx
  exact ⟨n + 1, jm_mk_stp hc h40 h30 hs hx⟩
theorem jm_R_call {i : jm_I} {d' : Nat} {r1 : Option jm_V} {h1 : jm_H} (hc : g_code m pc = some i) (h30 : i.1 = 30 ∨ i.1 = 31 ∨ i.1 = 32) (hcc : jm_cc m pc i S h) (hx : jm_R sc d' i.2.2.1 0 (jm_args 0 (S.take i.2.2.2).reverse) [] h r1 h1) (hr1 : ¬ r1 = some (9, 0)) (hy : jm_R sc (d' + 1) m (pc + 3) L (r1.toList ++ S.drop i.2.2.2) h1 r h') : jm_R sc (d' + 1) m pc L S h r h' := by
  obtain ⟨n, hx⟩ := hx
  obtain ⟨k, hy⟩ := hy
  exact ⟨max n k + 1, jm_mk_call hc h30 hcc (jm_exec_up n hx _ (Nat.le_max_left _ _)) hr1 (jm_exec_up k hy _ (Nat.le_max_right _ _))⟩
theorem jm_R_try {i : jm_I} {d' : Nat} {h1 : jm_H} (hc : g_code m pc = some i) (h31 : i.1 = 31) (hcc : jm_cc m pc i S h) (hx : jm_R sc d' i.2.2.1 0 (jm_args 0 (S.take i.2.2.2).reverse) [] h (some (9, 0)) h1) (hy : jm_R sc (d' + 1) m i.2.1.toNat (jm_drop L ((g_lnk m pc).getD 6 0)) [] h1 r h') : jm_R sc (d' + 1) m pc L S h r h' := by
  obtain ⟨n, hx⟩ := hx
  obtain ⟨k, hy⟩ := hy
  exact ⟨max n k + 1, jm_mk_try hc h31 hcc (jm_exec_up n hx _ (Nat.le_max_left _ _)) (jm_exec_up k hy _ (Nat.le_max_right _ _))⟩
theorem jm_R_thr {i : jm_I} (hc : g_code m pc = some i) (h41 : i.1 = 41) (hd : 10 ≤ dd) (hS : jm_cat S ≤ 8) : jm_R sc dd m pc L S h (some (9, 0)) (h.1, h.2 + 1) := ⟨1, jm_mk_thr hc h41 hd hS⟩
theorem jm_R_sc (sc' : List Int) (hm : m < 277) (hx : jm_R sc dd m pc L S h r h') : jm_R sc' dd m pc L S h r h' := by
  obtain ⟨n, hx⟩ := hx
  exact ⟨n, jm_exec_sc sc' n hm hx⟩
end
end
section
/-! THE BOX MACHINE: the Int machine over values of which some are known by a box alone. Tags from 19 on: 19 any int, 20 + k the symbol k (its box in bx). In the heap ax_U stands for any int; a cell of kind 1000 + n is any cell with n places -/
def ax_U : Int := 1208925819614629174706176
def ax_top : Int × Int := (-2147483648, 2147483647)
abbrev ax_B : Type := List (Int × Int)
def ax_box (bx : ax_B) (t : Nat) : Int × Int := if t = 19 then ax_top else bx.getD (t - 20) ax_top
def ax_sym (bx : ax_B) (k : Nat) : jm_V := if (bx.getD k ax_top).1 = (bx.getD k ax_top).2 then (0, (bx.getD k ax_top).1) else (20 + k, 0)
def ax_flip (b : Nat) : Nat := match b with
  | 2 => 4
  | 3 => 5
  | 4 => 2
  | 5 => 3
  | b => b
def ax_cnd (b : Nat) (q : Int × Int) (y : Int) : Option Bool := match b with
  | 0 => if y < q.1 ∨ q.2 < y then some false else if q.1 = y ∧ q.2 = y then some true else none
  | 1 => if y < q.1 ∨ q.2 < y then some true else if q.1 = y ∧ q.2 = y then some false else none
  | 2 => if q.2 < y then some true else if y ≤ q.1 then some false else none
  | 3 => if y ≤ q.1 then some true else if q.2 < y then some false else none
  | 4 => if y < q.1 then some true else if q.2 ≤ y then some false else none
  | 5 => if q.2 ≤ y then some true else if y < q.1 then some false else none
  | _ => none
def ax_cmp (bx : ax_B) (b : Nat) (x y : jm_V) : Option Bool :=
  if x.1 = 0 ∧ y.1 = 0 then some (jm_cnd b x.2 y.2)
  else if 19 ≤ x.1 ∧ y.1 = 0 then ax_cnd b (ax_box bx x.1) (jm_n y.2)
  else if x.1 = 0 ∧ 19 ≤ y.1 then ax_cnd (ax_flip b) (ax_box bx y.1) (jm_n x.2)
  else if x.1 = y.1 ∧ 20 ≤ x.1 ∧ b ≤ 1 then some (decide (b = 0))
  else none
def ax_load (i : jm_I) (pc : Nat) (L : jm_L) (S : List jm_V) : Option (Nat × jm_L × List jm_V) :=
  match jm_get L i.2.2.1 with
  | some v => if (i.2.1 = 0 ∧ (v.1 = 0 ∨ 19 ≤ v.1)) ∨ (i.2.1 = 1 ∧ v.1 = 1) ∨ (i.2.1 = 2 ∧ ((v.1 = 2 ∧ 0 ≤ v.2) ∨ v.1 = 4)) then some (pc + 1 + i.2.2.2, L, v :: S) else none
  | none => none
def ax_store (i : jm_I) (pc : Nat) (L : jm_L) (S : List jm_V) : Option (Nat × jm_L × List jm_V) :=
  match S with
  | v :: r => if (i.2.1 = 0 ∧ (v.1 = 0 ∨ 19 ≤ v.1)) ∨ (i.2.1 = 2 ∧ v.1 = 2 ∧ 0 ≤ v.2) then some (pc + 1 + i.2.2.2, jm_st1 L i.2.2.1 v, r) else none
  | [] => none
def ax_inc (i : jm_I) (pc : Nat) (L : jm_L) (S : List jm_V) : Option (Nat × jm_L × List jm_V) :=
  match jm_get L i.2.2.1 with
  | some v => if v.1 = 0 then some (pc + 3, jm_st1 L i.2.2.1 (0, v.2 + i.2.1), S) else none
  | none => none
def ax_arith (bx : ax_B) (i : jm_I) (pc : Nat) (L : jm_L) (S : List jm_V) : Option (Nat × jm_L × List jm_V) :=
  match S with
  | y :: x :: r =>
    if y.1 = 0 ∧ x.1 = 0 then (jm_bin i.2.2.1 x.2 y.2).map (fun z => (pc + 1, L, (0, z) :: r))
    else if (y.1 = 0 ∨ 19 ≤ y.1) ∧ (x.1 = 0 ∨ 19 ≤ x.1) then
      (if i.2.2.1 = 3 ∧ x.1 = 20 ∧ y = (0, 63) then some (pc + 1, L, ax_sym bx 6 :: r)
       else if i.2.2.1 ≤ 8 ∨ (i.2.2.1 = 10 ∧ y.1 = 0 ∧ ¬ jm_n y.2 = 0) then some (pc + 1, L, (19, 0) :: r) else none)
    else none
  | _ => none
def ax_conv (i : jm_I) (pc : Nat) (L : jm_L) (S : List jm_V) : Option (Nat × jm_L × List jm_V) :=
  match S with
  | x :: r => if i.2.2.1 = 2 then (if x.1 = 0 then some (pc + 1, L, (0, (Int32.ofInt x.2).toInt8.toInt32.toInt) :: r) else if 19 ≤ x.1 then some (pc + 1, L, (19, 0) :: r) else none) else none
  | [] => none
def ax_stack (i : jm_I) (pc : Nat) (L : jm_L) (S : List jm_V) : Option (Nat × jm_L × List jm_V) :=
  match S with
  | x :: r =>
    if x.1 = 1 then none
    else if i.2.2.1 = 0 then some (pc + 1, L, x :: x :: r)
    else if i.2.2.1 = 1 then some (pc + 1, L, r)
    else match r with
      | y :: r' => if y.1 = 1 then none else some (pc + 1, L, x :: y :: x :: y :: r')
      | [] => none
  | [] => none
def ax_if (bx : ax_B) (i : jm_I) (pc : Nat) (L : jm_L) (S : List jm_V) : Option (Nat × jm_L × List jm_V) :=
  match S with
  | x :: r => (ax_cmp bx i.2.2.1 x (0, 0)).map (fun t => (if t then i.2.2.2 else pc + 3, L, r))
  | [] => none
def ax_if2 (bx : ax_B) (i : jm_I) (pc : Nat) (L : jm_L) (S : List jm_V) : Option (Nat × jm_L × List jm_V) :=
  match S with
  | y :: x :: r => (ax_cmp bx i.2.2.1 x y).map (fun t => (if t then i.2.2.2 else pc + 3, L, r))
  | _ => none
def ax_rd (t : Nat) (z : Int) : Option jm_V := if z = ax_U then (if t = 0 then some (19, 0) else none) else if t < 19 then some (t, z) else none
def ax_getf (i : jm_I) (pc : Nat) (L : jm_L) (S : List jm_V) (h : jm_H) : Option (Nat × jm_L × List jm_V) :=
  match S with
  | o :: r => if o.1 = 2 then match jm_cell h o.2 with
      | some c => if c.1 = 10 + i.2.2.1 ∧ c.1 < 1000 then match c.2[i.2.2.2]? with
          | some z => (ax_rd (if i.2.1 = 3 then 0 else i.2.1.toNat) z).map (fun v => (pc + 3, L, v :: r))
          | none => none
        else none
      | none => none
    else none
  | [] => none
def ax_ald (i : jm_I) (pc : Nat) (L : jm_L) (S : List jm_V) (h : jm_H) : Option (Nat × jm_L × List jm_V) :=
  match S with
  | j :: a :: r => if j.1 = 0 ∧ a.1 = 2 then match jm_cell h a.2 with
      | some c => if (i.2.2.1 = 0 ∧ c.1 = 0) ∨ (i.2.2.1 = 1 ∧ (c.1 = 1 ∨ c.1 = 3)) ∨ (i.2.2.1 = 2 ∧ c.1 = 2) ∨ (i.2.2.1 = 3 ∧ c.1 = 4) then
          match jm_ix j.2 c.2.length with
          | some n => (ax_rd (if i.2.2.1 = 2 then 1 else if i.2.2.1 = 3 then 2 else 0) (c.2.getD n 0)).map (fun v => (pc + 1, L, v :: r))
          | none => none
        else none
      | none => none
    else none
  | _ => none
def ax_tsw (bx : ax_B) (i : jm_I) (L : jm_L) (S : List jm_V) : Option (Nat × jm_L × List jm_V) :=
  match S with
  | x :: r =>
    if x.1 = 0 then
      (if jm_n x.2 < i.2.1 ∨ i.2.1 + ((g_sw.getD i.2.2.2 []).length : Int) ≤ jm_n x.2 then some (i.2.2.1, L, r)
       else match (g_sw.getD i.2.2.2 [])[(jm_n x.2 - i.2.1).toNat]? with
         | some t => some (t, L, r)
         | none => none)
    else if 19 ≤ x.1 then
      (if (ax_box bx x.1).2 < i.2.1 ∨ i.2.1 + ((g_sw.getD i.2.2.2 []).length : Int) ≤ (ax_box bx x.1).1 then some (i.2.2.1, L, r) else none)
    else none
  | [] => none
def ax_spec (bx : ax_B) (i : jm_I) (pc : Nat) (L : jm_L) (S : List jm_V) : Option (Nat × jm_L × List jm_V) :=
  match S with
  | a :: r =>
    if i.2.2.1 = 2 then (if a = (4, 2) then some (pc + 1, L, (0, 6) :: r) else none)
    else if i.2.2.1 = 1 then match r with
      | b :: r' => if a.1 = 0 ∧ b = (4, 2) then (jm_ix a.2 6).map (fun n => (pc + 1, L, ax_sym bx n :: r')) else none
      | [] => none
    else none
  | [] => none
def ax_alen (pc : Nat) (L : jm_L) (S : List jm_V) (h : jm_H) : Option (Nat × jm_L × List jm_V) :=
  match S with
  | a :: r => if a.1 = 2 then match jm_cell h a.2 with
      | some c => if c.1 < 5 then some (pc + 1, L, (0, (c.2.length : Int)) :: r) else none
      | none => none
    else none
  | [] => none
def ax_mm (bx : ax_B) (i : jm_I) (pc : Nat) (L : jm_L) (S : List jm_V) : Option (Nat × jm_L × List jm_V) :=
  match S with
  | y :: x :: r =>
    if jm_cat r ≤ 8 then
      (if y.1 = 0 ∧ x.1 = 0 then some (pc + 3, L, (0, if i.2.2.1 = 0 then (if jm_n x.2 < jm_n y.2 then y.2 else x.2) else (if jm_n y.2 < jm_n x.2 then y.2 else x.2)) :: r)
       else if y.1 = 0 ∧ 19 ≤ x.1 ∧ ¬ i.2.2.1 = 0 ∧ (ax_box bx x.1).2 ≤ jm_n y.2 then some (pc + 3, L, x :: r) else none)
    else none
  | _ => none
def ax_pur (bx : ax_B) (i : jm_I) (pc : Nat) (L : jm_L) (S : List jm_V) (h : jm_H) : Option (Nat × jm_L × List jm_V) :=
  match i.1 with
  | 0 => some (pc + i.2.2.2, L, (0, i.2.1) :: S)
  | 1 => some (pc + i.2.2.2, L, (1, i.2.1) :: S)
  | 2 => ax_load i pc L S
  | 3 => ax_store i pc L S
  | 4 => ax_inc i pc L S
  | 5 => ax_arith bx i pc L S
  | 7 => ax_conv i pc L S
  | 8 => ax_stack i pc L S
  | 9 => ax_if bx i pc L S
  | 10 => ax_if2 bx i pc L S
  | 11 => some (i.2.2.2, L, S)
  | 13 => ax_getf i pc L S h
  | 15 => ax_ald i pc L S h
  | 20 => ax_tsw bx i L S
  | 22 => ax_spec bx i pc L S
  | 25 => ax_alen pc L S h
  | 26 => ax_mm bx i pc L S
  | _ => none
def ax_putf (i : jm_I) (pc : Nat) (L : jm_L) (S : List jm_V) (h : jm_H) : Option jm_T :=
  match S with
  | v :: o :: r => if o.1 = 2 ∧ i.2.2.1 < 900 ∧ ((19 ≤ v.1 ∧ i.2.1 = 0) ∨ (v.1 < 19 ∧ jm_fok i.2.1 v = true)) then match jm_cell h o.2 with
      | some c => if c.1 = 10 + i.2.2.1 ∧ i.2.2.2 < c.2.length then some (pc + 3, L, r, (h.1.set o.2.toNat (c.1, c.2.set i.2.2.2 (if 19 ≤ v.1 then ax_U else v.2)), h.2)) else none
      | none => none
    else none
  | _ => none
def ax_ast (i : jm_I) (pc : Nat) (L : jm_L) (S : List jm_V) (h : jm_H) : Option jm_T :=
  match S with
  | v :: j :: a :: r => if j.1 = 0 ∧ a.1 = 2 then match jm_cell h a.2 with
      | some c => match jm_ix j.2 c.2.length with
          | some n =>
            if i.2.2.1 = 0 ∧ c.1 = 0 ∧ v.1 = 0 then some (pc + 1, L, r, (h.1.set a.2.toNat (c.1, c.2.set n v.2), h.2))
            else if i.2.2.1 = 1 ∧ c.1 = 1 ∧ v.1 = 0 then some (pc + 1, L, r, (h.1.set a.2.toNat (c.1, c.2.set n (jm_b v.2)), h.2))
            else if i.2.2.1 = 1 ∧ c.1 = 3 ∧ v.1 = 0 then some (pc + 1, L, r, (h.1.set a.2.toNat (c.1, c.2.set n (jm_z v.2)), h.2))
            else if i.2.2.1 = 2 ∧ c.1 = 2 ∧ v.1 = 1 then some (pc + 1, L, r, (h.1.set a.2.toNat (c.1, c.2.set n v.2), h.2))
            else if 19 ≤ v.1 ∧ ((i.2.2.1 = 0 ∧ c.1 = 0) ∨ (i.2.2.1 = 1 ∧ c.1 = 1)) then some (pc + 1, L, r, (h.1.set a.2.toNat (c.1, c.2.set n ax_U), h.2))
            else none
          | none => none
      | none => none
    else none
  | _ => none
def ax_mod (i : jm_I) (pc : Nat) (L : jm_L) (S : List jm_V) (h : jm_H) : Option jm_T :=
  match i.1 with
  | 14 => ax_putf i pc L S h
  | 16 => ax_ast i pc L S h
  | 24 => jm_acpy pc L S h
  | _ => none
def ax_ret (i : jm_I) (S : List jm_V) : Option (Option jm_V) :=
  match S with
  | [] => if i.2.2.1 = 2 then some none else none
  | v :: r => if r = [] ∧ i.2.2.1 = 0 ∧ ((v.1 = 0 ∧ ((i.2.2.2 = 0) ∨ (i.2.2.2 = 1 ∧ (jm_n v.2 = 0 ∨ jm_n v.2 = 1)) ∨ (i.2.2.2 = 2 ∧ 0 ≤ jm_n v.2 ∧ jm_n v.2 < 65536) ∨ (i.2.2.2 = 3 ∧ jm_n v.2 = 0))) ∨ (19 ≤ v.1 ∧ i.2.2.2 = 0)) then some (some v) else none
def ax_pop (i : jm_I) (S : List jm_V) : Option (List jm_V) :=
  match S with
  | y :: r => if y.1 = 0 ∨ 19 ≤ y.1 then (if i.1 = 9 then some r else match r with
      | x :: r' => if i.1 = 10 ∧ (x.1 = 0 ∨ 19 ≤ x.1) then some r' else none
      | [] => none) else none
  | [] => none
def ax_jn (jn : List (Nat × Nat × Nat)) (m pc : Nat) : Option Nat := (jn.find? (fun q => q.1 == m && q.2.1 == pc)).map (fun q => q.2.2)
/-- the run: to the method's end (some r), or to the place 'stop' (none). ro: nothing in the heap may change -/
def ax (bx : ax_B) (jn : List (Nat × Nat × Nat)) : Nat → Bool → Nat → Nat → Nat → Nat → jm_L → List jm_V → jm_H → Option (Option (Option jm_V) × jm_T)
  | 0, _, _, _, _, _, _, _, _ => none
  | n + 1, ro, stop, d, m, pc, L, S, h =>
    match g_code m pc with
    | none => none
    | some i =>
      if i.1 = 40 then (ax_ret i S).map (fun r => (some r, (0, [], [], h)))
      else if i.1 = 41 then (if ro = false ∧ 10 ≤ d ∧ jm_cat S ≤ 8 then some (some (some (9, 0)), (0, [], [], (h.1, h.2 + 1))) else none)
      else if i.1 = 30 ∨ i.1 = 31 ∨ i.1 = 32 then
        match d with
        | 0 => none
        | d' + 1 =>
          if i.2.2.2 ≤ S.length ∧ jm_cat (S.drop i.2.2.2) ≤ 8 ∧ jm_cat (S.take i.2.2.2) ≤ (g_m i.2.2.1).2.2.1 ∧ jm_rcv (if i.1 = 31 then 10 + ((g_lnk m pc).getD 5 0 : Int) else i.2.1) (S.take i.2.2.2).reverse h = true ∧ (10 + ((g_lnk m pc).getD 5 0 : Int)) < 1000 ∧ i.2.1 < 1000 then
            match ax bx jn n ro 1000000 d' i.2.2.1 0 (jm_args 0 (S.take i.2.2.2).reverse) [] h with
            | some (some r, (_, _, _, h1)) =>
              if r = some (9, 0) then
                (if i.1 = 31 then
                  (if i.2.1.toNat = stop then some (none, (i.2.1.toNat, jm_drop L ((g_lnk m pc).getD 6 0), [], h1)) else ax bx jn n ro stop (d' + 1) m i.2.1.toNat (jm_drop L ((g_lnk m pc).getD 6 0)) [] h1)
                 else none)
              else (if pc + 3 = stop then some (none, (pc + 3, L, r.toList ++ S.drop i.2.2.2, h1)) else ax bx jn n ro stop (d' + 1) m (pc + 3) L (r.toList ++ S.drop i.2.2.2) h1)
            | _ => none
          else none
      else if i.1 = 14 ∨ i.1 = 16 ∨ i.1 = 24 then
        (if ro = true then none else match ax_mod i pc L S h with
          | some (pc', L', S', h') => if pc' = stop then some (none, (pc', L', S', h')) else ax bx jn n ro stop d m pc' L' S' h'
          | none => none)
      else match ax_pur bx i pc L S h with
        | some (pc', L', S') => if pc' = stop then some (none, (pc', L', S', h)) else ax bx jn n ro stop d m pc' L' S' h
        | none =>
          match ax_jn jn m pc, ax_pop i S with
          | some j, some r =>
            match (if i.2.2.2 = j then some (none, (i.2.2.2, L, r, h)) else ax bx jn n true j d m i.2.2.2 L r h), (if pc + 3 = j then some (none, (pc + 3, L, r, h)) else ax bx jn n true j d m (pc + 3) L r h) with
            | some (none, (p1, L1, S1, _)), some (none, (p2, L2, S2, _)) =>
              if p1 = j ∧ p2 = j ∧ L1 = L2 ∧ S1 = S2 then (if j = stop then some (none, (j, L1, S1, h)) else ax bx jn n ro stop d m j L1 S1 h) else none
            | _, _ => none
          | _, _ => none
end
section
/-! what the box machine's states stand for, and that it is sound -/
def ax_v (σ : Nat → Int) (v w : jm_V) : Prop := (v.1 < 19 ∧ w = v) ∨ (19 ≤ v.1 ∧ w.1 = 0 ∧ (v.1 = 19 ∨ w.2 = σ (v.1 - 20)))
def ax_s (σ : Nat → Int) : List jm_V → List jm_V → Prop
  | [], [] => True
  | v :: S, w :: T => ax_v σ v w ∧ ax_s σ S T
  | _, _ => False
def ax_l (σ : Nat → Int) : jm_L → jm_L → Prop
  | [], [] => True
  | q :: L, r :: M => q.1 = r.1 ∧ ax_v σ q.2 r.2 ∧ ax_l σ L M
  | _, _ => False
def ax_z (f g : List Int) : Prop := f.length = g.length ∧ ∀ k : Nat, f[k]? = some ax_U ∨ g[k]? = f[k]?
def ax_c (c e : jm_C) : Prop := (1000 ≤ c.1 ∧ e.2.length + 1000 = c.1) ∨ (c.1 < 1000 ∧ e.1 = c.1 ∧ ax_z c.2 e.2)
def ax_h (h g : jm_H) : Prop := h.2 = g.2 ∧ h.1.length = g.1.length ∧ ∀ (k : Nat) (c : jm_C), h.1[k]? = some c → ∃ e, g.1[k]? = some e ∧ ax_c c e
def ax_r (σ : Nat → Int) (r q : Option jm_V) : Prop := ax_s σ r.toList q.toList
/-- what is known of the symbols and of the script -/
def ax_H (bx : ax_B) (σ : Nat → Int) (sc : List Int) : Prop := (∀ k : Nat, (bx.getD k ax_top).1 ≤ jm_n (σ k) ∧ jm_n (σ k) ≤ (bx.getD k ax_top).2) ∧ sc.length = 6 ∧ (∀ n : Nat, n < 6 → sc.getD n 0 = σ n) ∧ (∀ n : Nat, n < 7 → jm_n (σ n) = σ n) ∧ jm_bin 3 (σ 0) 63 = some (σ 6)
section
variable {σ : Nat → Int} {bx : ax_B} {sc : List Int}
theorem ax_ve {v w : jm_V} (h : ax_v σ v w) (hv : v.1 < 19) : w = v := by
  rcases h with h | h
  · exact h.2
  · omega
theorem ax_vu {v w : jm_V} (h : ax_v σ v w) (hv : 19 ≤ v.1) : w.1 = 0 ∧ (v.1 = 19 ∨ w.2 = σ (v.1 - 20)) := by
  rcases h with h | h
  · omega
  · exact h.2
theorem ax_vx {t : Nat} {z : Int} (h : t < 19) : ax_v σ (t, z) (t, z) := Or.inl ⟨h, rfl⟩
theorem ax_v19 {w : jm_V} (h : w.1 = 0) : ax_v σ (19, 0) w := Or.inr ⟨Nat.le_refl _, h, Or.inl rfl⟩
theorem ax_v0 {v w : jm_V} (h : ax_v σ v w) (hv : v.1 = 0 ∨ 19 ≤ v.1) : w.1 = 0 := by
  rcases hv with hv | hv
  · rw [ax_ve h (by omega)]; exact hv
  · exact (ax_vu h hv).1
theorem ax_vt {v w : jm_V} (h : ax_v σ v w) : w.1 = 1 ↔ v.1 = 1 := by
  rcases h with h | h
  · rw [h.2]
  · omega
theorem ax_vl {v w : jm_V} (h : ax_v σ v w) : w.1 < 19 := by
  rcases h with h | h
  · rw [h.2]; exact h.1
  · omega
theorem ax_sc {v : jm_V} {S T : List jm_V} (h : ax_s σ (v :: S) T) : ∃ w U, T = w :: U ∧ ax_v σ v w ∧ ax_s σ S U := by
  match T, h with
  | w :: U, h => exact ⟨w, U, rfl, h.1, h.2⟩
theorem ax_sn {T : List jm_V} (h : ax_s σ [] T) : T = [] := by
  match T, h with
  | [], _ => rfl
theorem ax_slen : ∀ {S T : List jm_V}, ax_s σ S T → S.length = T.length
  | [], [], _ => rfl
  | _ :: _, _ :: _, h => congrArg (· + 1) (ax_slen h.2)
theorem ax_stake : ∀ (k : Nat) {S T : List jm_V}, ax_s σ S T → ax_s σ (S.take k) (T.take k)
  | 0, _, _, _ => trivial
  | _ + 1, [], [], _ => trivial
  | k + 1, _ :: _, _ :: _, h => ⟨h.1, ax_stake k h.2⟩
theorem ax_sdrop : ∀ (k : Nat) {S T : List jm_V}, ax_s σ S T → ax_s σ (S.drop k) (T.drop k)
  | 0, _, _, h => h
  | _ + 1, [], [], _ => trivial
  | k + 1, _ :: _, _ :: _, h => ax_sdrop k h.2
theorem ax_sapp : ∀ {S T U V : List jm_V}, ax_s σ S T → ax_s σ U V → ax_s σ (S ++ U) (T ++ V)
  | [], [], _, _, _, h => h
  | _ :: _, _ :: _, _, _, h, h2 => ⟨h.1, ax_sapp h.2 h2⟩
theorem ax_srev : ∀ {S T : List jm_V}, ax_s σ S T → ax_s σ S.reverse T.reverse
  | [], [], _ => trivial
  | v :: S, w :: T, h => by
    rw [List.reverse_cons, List.reverse_cons]
    exact ax_sapp (ax_srev h.2) ⟨h.1, trivial⟩
theorem ax_scat : ∀ {S T : List jm_V}, ax_s σ S T → jm_cat S = jm_cat T
  | [], [], _ => rfl
  | v :: S, w :: T, h => by
    have h1 := ax_scat h.2
    have h2 := ax_vt h.1
    unfold jm_cat at h1 ⊢
    rw [List.map_cons, List.map_cons, List.sum_cons, List.sum_cons, h1]
    by_cases hv : v.1 = 1
    · rw [if_pos hv, if_pos (h2.mpr hv)]
    · rw [if_neg hv, if_neg (fun q => hv (h2.mp q))]
theorem ax_sargs : ∀ {S T : List jm_V} (i : Nat), ax_s σ S T → ax_l σ (jm_args i S) (jm_args i T)
  | [], [], _, _ => trivial
  | v :: S, w :: T, i, h => by
    have h2 := ax_vt h.1
    unfold jm_args
    refine ⟨rfl, h.1, ?_⟩
    by_cases hv : v.1 = 1
    · rw [if_pos hv, if_pos (h2.mpr hv)]; exact ax_sargs _ h.2
    · rw [if_neg hv, if_neg (fun q => hv (h2.mp q))]; exact ax_sargs _ h.2
theorem ax_get : ∀ {L M : jm_L} {i : Nat} {v : jm_V}, ax_l σ L M → jm_get L i = some v → ∃ w, jm_get M i = some w ∧ ax_v σ v w
  | [], _, _, _, _, h => by simp [jm_get] at h
  | q :: L, r :: M, i, v, h, hg => by
    obtain ⟨h1, h2, h3⟩ := h
    unfold jm_get at hg ⊢
    rw [List.find?_cons] at hg ⊢
    rw [← h1]
    cases hq : (q.1 == i) with
    | true =>
      rw [hq] at hg
      cases hg
      exact ⟨_, rfl, h2⟩
    | false =>
      rw [hq] at hg
      exact ax_get (L := L) (M := M) h3 hg
theorem ax_fil (P : Nat × jm_V → Bool) (hP : ∀ q r : Nat × jm_V, q.1 = r.1 → ax_v σ q.2 r.2 → P q = P r) : ∀ {L M : jm_L}, ax_l σ L M → ax_l σ (L.filter P) (M.filter P)
  | [], [], _ => trivial
  | q :: L, r :: M, h => by
    have h1 := hP q r h.1 h.2.1
    rw [List.filter_cons, List.filter_cons, ← h1]
    cases hq : P q with
    | true => exact ⟨h.1, h.2.1, ax_fil P hP h.2.2⟩
    | false => exact ax_fil P hP h.2.2
theorem ax_tag1 {q r : Nat × jm_V} (h : ax_v σ q.2 r.2) : (q.2.1 == 1) = (r.2.1 == 1) := by
  have h2 := ax_vt h
  by_cases hv : q.2.1 = 1
  · rw [hv, h2.mpr hv]
  · rw [beq_eq_false_iff_ne.mpr hv, beq_eq_false_iff_ne.mpr (fun x => hv (h2.mp x))]
theorem ax_st1 {L M : jm_L} {i : Nat} {v w : jm_V} (h : ax_l σ L M) (hv : ax_v σ v w) : ax_l σ (jm_st1 L i v) (jm_st1 M i w) :=
  ⟨rfl, hv, ax_fil _ (fun q r h1 h2 => by rw [h1, ax_tag1 h2]) h⟩
theorem ax_drop {L M : jm_L} {i : Nat} (h : ax_l σ L M) : ax_l σ (jm_drop L i) (jm_drop M i) := ax_fil _ (fun q r h1 h2 => by rw [h1, ax_tag1 h2]) h
theorem ax_rng (z : Int) : -2147483648 ≤ jm_n z ∧ jm_n z ≤ 2147483647 := by
  have h1 := Int32.le_toInt (Int32.ofInt z)
  have h2 := Int32.toInt_lt (Int32.ofInt z)
  unfold jm_n
  omega
theorem ax_box_ok {v w : jm_V} (hH : ax_H bx σ sc) (h : ax_v σ v w) (hv : 19 ≤ v.1) : (ax_box bx v.1).1 ≤ jm_n w.2 ∧ jm_n w.2 ≤ (ax_box bx v.1).2 := by
  unfold ax_box
  split
  · exact ax_rng _
  · rename_i h19
    rcases (ax_vu h hv).2 with h2 | h2
    · exact absurd h2 h19
    · rw [h2]; exact hH.1 _
theorem ax_sym_ok {k : Nat} (hH : ax_H bx σ sc) (hk : k < 7) : ax_v σ (ax_sym bx k) (0, σ k) := by
  unfold ax_sym
  split
  · rename_i he
    have h1 := hH.1 k
    have h2 := hH.2.2.2.1 k hk
    refine Or.inl ⟨Nat.lt_of_lt_of_le (Nat.zero_lt_succ 0) (by decide), ?_⟩
    rw [Prod.mk.injEq]
    exact ⟨rfl, by omega⟩
  · exact Or.inr ⟨Nat.le_trans (by decide) (Nat.le_add_right 20 k), rfl, Or.inr (by show σ k = σ (20 + k - 20); rw [Nat.add_sub_cancel_left])⟩
theorem ax_cnd_ok {b : Nat} {q : Int × Int} {x y : Int} {t : Bool} (h : ax_cnd b q (jm_n y) = some t) (h1 : q.1 ≤ jm_n x) (h2 : jm_n x ≤ q.2) : jm_cnd b x y = t := by
  unfold ax_cnd at h
  split at h
  all_goals (repeat' split at h)
  all_goals first
    | (cases h; done)
    | (cases h; simp only [jm_cnd, decide_eq_true_eq, decide_eq_false_iff_not]; omega)
theorem ax_cnd_fl {b : Nat} {q : Int × Int} {x y : Int} {t : Bool} (h : ax_cnd (ax_flip b) q (jm_n x) = some t) (h1 : q.1 ≤ jm_n y) (h2 : jm_n y ≤ q.2) : jm_cnd b x y = t := by
  have h3 := ax_cnd_ok h h1 h2
  rw [← h3]
  match b, h with
  | 0, _ => simp only [ax_flip, jm_cnd]; exact decide_eq_decide.mpr ⟨Eq.symm, Eq.symm⟩
  | 1, _ => simp only [ax_flip, jm_cnd]; exact decide_eq_decide.mpr ⟨fun a b => a b.symm, fun a b => a b.symm⟩
  | 2, _ => rfl
  | 3, _ => rfl
  | 4, _ => rfl
  | 5, _ => rfl
  | b + 6, h => cases h
theorem ax_cmp_ok {b : Nat} {x y x' y' : jm_V} {t : Bool} (hH : ax_H bx σ sc) (h : ax_cmp bx b x y = some t) (hx : ax_v σ x x') (hy : ax_v σ y y') : x'.1 = 0 ∧ y'.1 = 0 ∧ jm_cnd b x'.2 y'.2 = t := by
  unfold ax_cmp at h
  split at h
  · rename_i hc
    cases h
    rw [ax_ve hx (by omega), ax_ve hy (by omega)]
    exact ⟨hc.1, hc.2, rfl⟩
  · split at h
    · rename_i hc
      have hb := ax_box_ok hH hx hc.1
      rw [ax_ve hy (by omega)]
      exact ⟨(ax_vu hx hc.1).1, hc.2, ax_cnd_ok h hb.1 hb.2⟩
    · split at h
      · rename_i hc
        have hb := ax_box_ok hH hy hc.2
        rw [ax_ve hx (by omega)]
        exact ⟨hc.1, (ax_vu hy hc.2).1, ax_cnd_fl h hb.1 hb.2⟩
      · split at h
        · rename_i hc
          obtain ⟨c1, c2, c3⟩ := hc
          cases h
          have hx2 := ax_vu hx (by omega)
          have hy2 := ax_vu hy (by omega)
          have e : x'.2 = y'.2 := by
            rw [hx2.2.resolve_left (by omega), hy2.2.resolve_left (by omega), c1]
          refine ⟨hx2.1, hy2.1, ?_⟩
          rw [e]
          match b, c3 with
          | 0, _ => simp [jm_cnd]
          | 1, _ => simp [jm_cnd]
          | b + 2, c3 => omega
        · cases h
/-! heaps -/
theorem ax_z_set {f g : List Int} {n : Nat} {z : Int} (h : ax_z f g) : ax_z (f.set n z) (g.set n z) := by
  refine ⟨by rw [List.length_set, List.length_set, h.1], fun k => ?_⟩
  rw [List.getElem?_set, List.getElem?_set, h.1]
  by_cases hk : n = k
  · right; rw [if_pos hk, if_pos hk]
  · rw [if_neg hk, if_neg hk]; exact h.2 k
theorem ax_z_setU {f g : List Int} {n : Nat} {z : Int} (h : ax_z f g) : ax_z (f.set n ax_U) (g.set n z) := by
  refine ⟨by rw [List.length_set, List.length_set, h.1], fun k => ?_⟩
  rw [List.getElem?_set, List.getElem?_set, h.1]
  by_cases hk : n = k
  · rw [if_pos hk, if_pos hk]
    by_cases hl : k < g.length
    · rw [hk, if_pos hl]; exact Or.inl rfl
    · rw [hk, if_neg hl]
      rw [if_neg hl]
      exact Or.inr rfl
  · rw [if_neg hk, if_neg hk]; exact h.2 k
theorem ax_z_take {f g : List Int} (n : Nat) (h : ax_z f g) : ax_z (f.take n) (g.take n) := by
  refine ⟨by rw [List.length_take, List.length_take, h.1], fun k => ?_⟩
  rw [List.getElem?_take, List.getElem?_take]
  by_cases hk : k < n
  · rw [if_pos hk, if_pos hk]; exact h.2 k
  · rw [if_neg hk, if_neg hk]; exact Or.inr rfl
theorem ax_z_drop {f g : List Int} (n : Nat) (h : ax_z f g) : ax_z (f.drop n) (g.drop n) := by
  refine ⟨by rw [List.length_drop, List.length_drop, h.1], fun k => ?_⟩
  rw [List.getElem?_drop, List.getElem?_drop]
  exact h.2 _
theorem ax_z_app {f g f' g' : List Int} (h : ax_z f g) (h2 : ax_z f' g') : ax_z (f ++ f') (g ++ g') := by
  refine ⟨by rw [List.length_append, List.length_append, h.1, h2.1], fun k => ?_⟩
  rw [List.getElem?_append, List.getElem?_append, h.1]
  by_cases hk : k < g.length
  · rw [if_pos hk, if_pos hk]; exact h.2 k
  · rw [if_neg hk, if_neg hk]; exact h2.2 _
theorem ax_z_cpy {f g f' g' : List Int} {sp dp n : Nat} (h : ax_z f f') (h2 : ax_z g g') : ax_z (jm_cpy f g sp dp n) (jm_cpy f' g' sp dp n) :=
  ax_z_app (ax_z_take _ h2) (ax_z_app (ax_z_take _ (ax_z_drop _ h)) (ax_z_drop _ h2))
theorem ax_c_k {c e : jm_C} (h : ax_c c e) (hc : c.1 < 1000) : e.1 = c.1 ∧ ax_z c.2 e.2 := by
  rcases h with h | h
  · omega
  · exact h.2
theorem ax_cell {h g : jm_H} {a : Int} {c : jm_C} (hh : ax_h h g) (hc : jm_cell h a = some c) : ∃ e, jm_cell g a = some e ∧ ax_c c e := by
  unfold jm_cell at hc ⊢
  split at hc
  · cases hc
  · rename_i ha
    rw [if_neg ha]
    exact hh.2.2 _ _ hc
theorem ax_h_set {h g : jm_H} {a : Nat} {c e : jm_C} (hh : ax_h h g) (hc : ax_c c e) : ax_h (h.1.set a c, h.2) (g.1.set a e, g.2) := by
  refine ⟨hh.1, by rw [List.length_set, List.length_set]; exact hh.2.1, fun k c' hk => ?_⟩
  rw [List.getElem?_set] at hk ⊢
  rw [← hh.2.1]
  by_cases hak : a = k
  · rw [if_pos hak] at hk ⊢
    split at hk
    · rename_i hl
      rw [if_pos hl]
      cases hk
      exact ⟨e, rfl, hc⟩
    · cases hk
  · rw [if_neg hak] at hk ⊢
    exact hh.2.2 k c' hk
theorem ax_h_thr {h g : jm_H} (hh : ax_h h g) : ax_h (h.1, h.2 + 1) (g.1, g.2 + 1) := ⟨congrArg (· + 1) hh.1, hh.2⟩
theorem ax_rcv {a : Int} {S T : List jm_V} {h g : jm_H} (hS : ax_s σ S T) (hh : ax_h h g) (ha : a < 1000) (hr : jm_rcv a S h = true) : jm_rcv a T g = true := by
  match S, T, hS with
  | [], [], _ => exact hr
  | o :: S', o' :: T', hS =>
    have hr2 : (if a = -1 then true else if a = -2 ∨ a = -3 then decide (o.1 = 2 ∧ 0 ≤ o.2) else if a = 5 then decide (o.1 = 4 ∧ 10 ≤ o.2 ∧ o.2 < 10 + 2 * g_str.length ∧ o.2 % 2 = 0) else match o.1, jm_cell h o.2 with
        | 2, some c => decide ((c.1 : Int) = a)
        | _, _ => false) = true := hr
    show (if a = -1 then true else if a = -2 ∨ a = -3 then decide (o'.1 = 2 ∧ 0 ≤ o'.2) else if a = 5 then decide (o'.1 = 4 ∧ 10 ≤ o'.2 ∧ o'.2 < 10 + 2 * g_str.length ∧ o'.2 % 2 = 0) else match o'.1, jm_cell g o'.2 with
        | 2, some c => decide ((c.1 : Int) = a)
        | _, _ => false) = true
    by_cases h1 : a = -1
    · rw [if_pos h1]
    · rw [if_neg h1] at hr2 ⊢
      by_cases h2 : a = -2 ∨ a = -3
      · rw [if_pos h2] at hr2 ⊢
        have := of_decide_eq_true hr2
        rw [ax_ve hS.1 (by omega)]
        exact hr2
      · rw [if_neg h2] at hr2 ⊢
        by_cases h3 : a = 5
        · rw [if_pos h3] at hr2 ⊢
          have := of_decide_eq_true hr2
          rw [ax_ve hS.1 (by omega)]
          exact hr2
        · rw [if_neg h3] at hr2 ⊢
          split at hr2
          · rename_i c ho hc
            rw [ax_ve hS.1 (by omega)]
            obtain ⟨e, he, hce⟩ := ax_cell hh hc
            have hk := of_decide_eq_true hr2
            rw [ho, he]
            show decide ((e.1 : Int) = a) = true
            rw [(ax_c_k hce (by omega)).1]
            exact hr2
          · cases hr2
end
end
section
/-! each step of the box machine is a step of the Int machine -/
section
variable {σ : Nat → Int} {bx : ax_B} {sc : List Int} {pc p1 : Nat} {L L1 M : jm_L} {S S1 T : List jm_V} {h g : jm_H} {a : Int} {b d : Nat}
def ax_Ok (σ : Nat → Int) (sc : List Int) (i : jm_I) (pc : Nat) (M : jm_L) (T : List jm_V) (g : jm_H) (p1 : Nat) (L1 : jm_L) (S1 : List jm_V) : Prop :=
  ∃ (M1 : jm_L) (T1 : List jm_V), jm_stp sc i pc M T g = some (p1, M1, T1, g) ∧ ax_l σ L1 M1 ∧ ax_s σ S1 T1
theorem ax_load_ok (hs : ax_load (2, a, b, d) pc L S = some (p1, L1, S1)) (hL : ax_l σ L M) (hS : ax_s σ S T) : ax_Ok σ sc (2, a, b, d) pc M T g p1 L1 S1 := by
  unfold ax_load at hs
  dsimp only at hs
  split at hs
  · rename_i v hv
    split at hs
    · rename_i hc
      cases hs
      obtain ⟨w, hw, hvw⟩ := ax_get hL hv
      refine ⟨M, w :: T, ?_, hL, hvw, hS⟩
      show jm_load (2, a, b, d) pc M T g = _
      unfold jm_load
      dsimp only
      rw [hw]
      dsimp only
      rw [if_pos]
      rcases hc with ⟨h1, h2⟩ | ⟨h1, h2⟩ | ⟨h1, h2⟩
      · exact Or.inl ⟨h1, ax_v0 hvw h2⟩
      · rw [ax_ve hvw (by omega)]; exact Or.inr (Or.inl ⟨h1, h2⟩)
      · rw [ax_ve hvw (by omega)]
        exact Or.inr (Or.inr ⟨h1, h2.imp id Or.inr⟩)
    · cases hs
  · cases hs
theorem ax_store_ok (hs : ax_store (3, a, b, d) pc L S = some (p1, L1, S1)) (hL : ax_l σ L M) (hS : ax_s σ S T) : ax_Ok σ sc (3, a, b, d) pc M T g p1 L1 S1 := by
  unfold ax_store at hs
  dsimp only at hs
  split at hs
  · rename_i v r
    obtain ⟨w, U, rfl, hvw, hr⟩ := ax_sc hS
    split at hs
    · rename_i hc
      cases hs
      refine ⟨_, U, ?_, ax_st1 hL hvw, hr⟩
      show jm_store (3, a, b, d) pc M (w :: U) g = _
      unfold jm_store
      dsimp only
      rcases hc with ⟨h1, h2⟩ | ⟨h1, h2, h3⟩
      · rw [if_pos ⟨h1, ax_v0 hvw h2⟩]
      · have e := ax_ve hvw (by omega)
        rw [if_neg (by omega), if_neg (by omega), e, if_pos ⟨h1, h2, h3⟩]
    · cases hs
  · cases hs
theorem ax_inc_ok (hs : ax_inc (4, a, b, d) pc L S = some (p1, L1, S1)) (hL : ax_l σ L M) (hS : ax_s σ S T) : ax_Ok σ sc (4, a, b, d) pc M T g p1 L1 S1 := by
  unfold ax_inc at hs
  dsimp only at hs
  split at hs
  · rename_i v hv
    split at hs
    · rename_i hc
      cases hs
      obtain ⟨w, hw, hvw⟩ := ax_get hL hv
      have e := ax_ve hvw (by omega)
      subst e
      refine ⟨_, T, ?_, ax_st1 hL (ax_vx (by decide)), hS⟩
      show jm_inc (4, a, b, d) pc M T g = _
      unfold jm_inc
      dsimp only
      rw [hw]
      dsimp only
      rw [if_pos hc]
    · cases hs
  · cases hs
theorem ax_bin8 {b : Nat} {x y : Int} (hb : b ≤ 8) : ∃ z, jm_bin b x y = some z := by
  match b, hb with
  | 0, _ => exact ⟨_, rfl⟩
  | 1, _ => exact ⟨_, rfl⟩
  | 2, _ => exact ⟨_, rfl⟩
  | 3, _ => exact ⟨_, rfl⟩
  | 4, _ => exact ⟨_, rfl⟩
  | 5, _ => exact ⟨_, rfl⟩
  | 6, _ => exact ⟨_, rfl⟩
  | 7, _ => exact ⟨_, rfl⟩
  | 8, _ => exact ⟨_, rfl⟩
  | b + 9, hb => omega
theorem ax_arith_ok (hH : ax_H bx σ sc) (hs : ax_arith bx (5, a, b, d) pc L S = some (p1, L1, S1)) (hL : ax_l σ L M) (hS : ax_s σ S T) : ax_Ok σ sc (5, a, b, d) pc M T g p1 L1 S1 := by
  unfold ax_arith at hs
  dsimp only at hs
  split at hs
  · rename_i y x r
    obtain ⟨y', U, rfl, hy, hS2⟩ := ax_sc hS
    obtain ⟨x', V, rfl, hx, hr⟩ := ax_sc hS2
    have key : ∀ z v, y'.1 = 0 → x'.1 = 0 → jm_bin b x'.2 y'.2 = some z → ax_v σ v (0, z) → ax_Ok σ sc (5, a, b, d) pc M (y' :: x' :: V) g (pc + 1) L (v :: r) := by
      intro z v h1 h2 h3 h4
      refine ⟨M, (0, z) :: V, ?_, hL, h4, hr⟩
      show jm_arith (5, a, b, d) pc M (y' :: x' :: V) g = _
      unfold jm_arith
      dsimp only
      rw [if_pos ⟨h1, h2⟩, h3]
      rfl
    split at hs
    · rename_i hc
      obtain ⟨z, hz, e⟩ := Option.map_eq_some_iff.mp hs
      cases e
      have e1 := ax_ve hy (by omega)
      have e2 := ax_ve hx (by omega)
      subst e1; subst e2
      exact key z _ hc.1 hc.2 hz (ax_vx (by decide))
    · split at hs
      · rename_i hc
        have y0 := ax_v0 hy hc.1
        have x0 := ax_v0 hx hc.2
        split at hs
        · rename_i h3
          cases hs
          obtain ⟨h3, h4, h5⟩ := h3
          have e1 := ax_ve hy (by rw [h5]; decide)
          rcases (ax_vu hx (by omega)).2 with h6 | h6
          · omega
          · rw [h4] at h6
            refine key (σ 6) _ y0 x0 ?_ (ax_sym_ok hH (by decide))
            rw [e1, h5, h6, h3]
            exact hH.2.2.2.2
        · split at hs
          · rename_i h8
            cases hs
            rcases h8 with h8 | ⟨h8, h9, h10⟩
            · obtain ⟨z, hz⟩ := ax_bin8 (x := x'.2) (y := y'.2) h8
              exact key z _ y0 x0 hz (ax_v19 rfl)
            · have e1 := ax_ve hy (by omega)
              subst h8
              refine key ((jm_n x'.2).tmod (jm_n y'.2)) _ y0 x0 ?_ (ax_v19 rfl)
              · show (if jm_n y'.2 = 0 then none else some ((jm_n x'.2).tmod (jm_n y'.2))) = _
                rw [if_neg (by rw [e1]; exact h10)]
          · cases hs
      · cases hs
  · cases hs
theorem ax_conv_ok (hs : ax_conv (7, a, b, d) pc L S = some (p1, L1, S1)) (hL : ax_l σ L M) (hS : ax_s σ S T) : ax_Ok σ sc (7, a, b, d) pc M T g p1 L1 S1 := by
  unfold ax_conv at hs
  dsimp only at hs
  split at hs
  · rename_i x r
    obtain ⟨x', U, rfl, hx, hr⟩ := ax_sc hS
    split at hs
    · rename_i hb
      subst hb
      have key : ∀ v, x'.1 = 0 → ax_v σ v (0, (Int32.ofInt x'.2).toInt8.toInt32.toInt) → ax_Ok σ sc (7, a, 2, d) pc M (x' :: U) g (pc + 1) L (v :: r) := by
        intro v h1 h2
        refine ⟨M, _ :: U, ?_, hL, h2, hr⟩
        show jm_conv (7, a, 2, d) pc M (x' :: U) g = _
        unfold jm_conv
        dsimp only
        rw [if_neg (by omega), if_neg (by omega), if_pos ⟨rfl, h1⟩]
      split at hs
      · rename_i h0
        cases hs
        have e := ax_ve hx (by omega)
        subst e
        exact key _ h0 (ax_vx (by decide))
      · split at hs
        · rename_i h19
          cases hs
          exact key _ (ax_vu hx h19).1 (ax_v19 rfl)
        · cases hs
    · cases hs
  · cases hs
theorem ax_stack_ok (hs : ax_stack (8, a, b, d) pc L S = some (p1, L1, S1)) (hL : ax_l σ L M) (hS : ax_s σ S T) : ax_Ok σ sc (8, a, b, d) pc M T g p1 L1 S1 := by
  unfold ax_stack at hs
  dsimp only at hs
  split at hs
  · rename_i x r
    obtain ⟨x', U, rfl, hx, hr⟩ := ax_sc hS
    split at hs
    · cases hs
    · rename_i h1
      have h1' : ¬ x'.1 = 1 := fun q => h1 ((ax_vt hx).mp q)
      split at hs
      · rename_i hb
        cases hs
        refine ⟨M, x' :: x' :: U, ?_, hL, hx, hx, hr⟩
        show jm_stack (8, a, b, d) pc M (x' :: U) g = _
        unfold jm_stack
        dsimp only
        rw [if_neg h1', if_pos hb]
      · rename_i hb
        split at hs
        · rename_i hb1
          cases hs
          refine ⟨M, U, ?_, hL, hr⟩
          show jm_stack (8, a, b, d) pc M (x' :: U) g = _
          unfold jm_stack
          dsimp only
          rw [if_neg h1', if_neg hb, if_pos hb1]
        · rename_i hb1
          split at hs
          · rename_i y r'
            obtain ⟨y', V, rfl, hy, hr'⟩ := ax_sc hr
            split at hs
            · cases hs
            · rename_i h2
              cases hs
              refine ⟨M, x' :: y' :: x' :: y' :: V, ?_, hL, hx, hy, hx, hy, hr'⟩
              show jm_stack (8, a, b, d) pc M (x' :: y' :: V) g = _
              unfold jm_stack
              dsimp only
              rw [if_neg h1', if_neg hb, if_neg hb1, if_neg (fun q => h2 ((ax_vt hy).mp q))]
          · cases hs
  · cases hs
theorem ax_if_ok (hH : ax_H bx σ sc) (hs : ax_if bx (9, a, b, d) pc L S = some (p1, L1, S1)) (hL : ax_l σ L M) (hS : ax_s σ S T) : ax_Ok σ sc (9, a, b, d) pc M T g p1 L1 S1 := by
  unfold ax_if at hs
  dsimp only at hs
  split at hs
  · rename_i x r
    obtain ⟨x', U, rfl, hx, hr⟩ := ax_sc hS
    obtain ⟨t, ht, e⟩ := Option.map_eq_some_iff.mp hs
    cases e
    obtain ⟨h1, -, h3⟩ := ax_cmp_ok hH ht hx (ax_vx (t := 0) (z := 0) (by decide))
    refine ⟨M, U, ?_, hL, hr⟩
    show jm_if (9, a, b, d) pc M (x' :: U) g = _
    unfold jm_if
    dsimp only
    dsimp only at h3
    rw [if_pos h1, h3]
  · cases hs
theorem ax_if2_ok (hH : ax_H bx σ sc) (hs : ax_if2 bx (10, a, b, d) pc L S = some (p1, L1, S1)) (hL : ax_l σ L M) (hS : ax_s σ S T) : ax_Ok σ sc (10, a, b, d) pc M T g p1 L1 S1 := by
  unfold ax_if2 at hs
  dsimp only at hs
  split at hs
  · rename_i y x r
    obtain ⟨y', U, rfl, hy, hS2⟩ := ax_sc hS
    obtain ⟨x', V, rfl, hx, hr⟩ := ax_sc hS2
    obtain ⟨t, ht, e⟩ := Option.map_eq_some_iff.mp hs
    cases e
    obtain ⟨h1, h2, h3⟩ := ax_cmp_ok hH ht hx hy
    refine ⟨M, V, ?_, hL, hr⟩
    show jm_if2 (10, a, b, d) pc M (y' :: x' :: V) g = _
    unfold jm_if2
    dsimp only
    rw [if_pos ⟨h2, h1⟩, h3]
  · cases hs
theorem ax_rd_ok {t : Nat} {z z' : Int} {v : jm_V} (h : ax_rd t z = some v) (hz : z = ax_U ∨ z' = z) : ax_v σ v (t, z') := by
  unfold ax_rd at h
  split at h
  · split at h
    · rename_i ht
      cases h
      exact ax_v19 ht
    · cases h
  · rename_i hu
    split at h
    · rename_i ht
      cases h
      rcases hz with hz | hz
      · exact absurd hz hu
      · rw [hz]; exact ax_vx ht
    · cases h
theorem ax_z_at {f g : List Int} {k : Nat} {z : Int} (h : ax_z f g) (hk : f[k]? = some z) : ∃ z', g[k]? = some z' ∧ (z = ax_U ∨ z' = z) := by
  rcases h.2 k with h2 | h2
  · rw [hk] at h2
    have hl : k < g.length := by rw [← h.1]; exact (List.getElem?_eq_some_iff.mp hk).1
    exact ⟨_, List.getElem?_eq_getElem hl, Or.inl (Option.some.inj h2)⟩
  · rw [hk] at h2
    exact ⟨z, h2, Or.inr rfl⟩
theorem ax_getf_ok (hs : ax_getf (13, a, b, d) pc L S h = some (p1, L1, S1)) (hL : ax_l σ L M) (hS : ax_s σ S T) (hh : ax_h h g) : ax_Ok σ sc (13, a, b, d) pc M T g p1 L1 S1 := by
  unfold ax_getf at hs
  dsimp only at hs
  split at hs
  · rename_i o r
    obtain ⟨o', U, rfl, ho, hr⟩ := ax_sc hS
    split at hs
    · rename_i h2
      have e := ax_ve ho (by omega)
      subst e
      split at hs
      · rename_i c hc
        obtain ⟨e, he, hce⟩ := ax_cell hh hc
        split at hs
        · rename_i hk
          obtain ⟨k1, k2⟩ := ax_c_k hce hk.2
          split at hs
          · rename_i z hz
            obtain ⟨z', hz', hzz⟩ := ax_z_at k2 hz
            obtain ⟨v, hv, e2⟩ := Option.map_eq_some_iff.mp hs
            cases e2
            refine ⟨M, _ :: U, ?_, hL, ax_rd_ok hv hzz, hr⟩
            show jm_getf (13, a, b, d) pc M (o' :: U) g = _
            unfold jm_getf
            dsimp only
            rw [if_pos h2, he]
            dsimp only
            rw [if_pos (k1.trans hk.1), hz']
          · cases hs
        · cases hs
      · cases hs
    · cases hs
  · cases hs
theorem ax_ald_ok (hs : ax_ald (15, a, b, d) pc L S h = some (p1, L1, S1)) (hL : ax_l σ L M) (hS : ax_s σ S T) (hh : ax_h h g) : ax_Ok σ sc (15, a, b, d) pc M T g p1 L1 S1 := by
  unfold ax_ald at hs
  dsimp only at hs
  split at hs
  · rename_i j o r
    obtain ⟨j', U, rfl, hj, hS2⟩ := ax_sc hS
    obtain ⟨o', V, rfl, ho, hr⟩ := ax_sc hS2
    split at hs
    · rename_i h2
      have e1 := ax_ve hj (by omega)
      have e2 := ax_ve ho (by omega)
      subst e1; subst e2
      split at hs
      · rename_i c hc
        obtain ⟨e, he, hce⟩ := ax_cell hh hc
        split at hs
        · rename_i hk
          obtain ⟨k1, k2⟩ := ax_c_k hce (by omega)
          split at hs
          · rename_i n hn
            obtain ⟨v, hv, e3⟩ := Option.map_eq_some_iff.mp hs
            cases e3
            have hlt := (jm_nl_in hn).2.2
            obtain ⟨z', hz', hzz⟩ := ax_z_at (z := c.2.getD n 0) k2 (by rw [List.getD_eq_getElem?_getD, List.getElem?_eq_getElem hlt]; rfl)
            refine ⟨M, _ :: V, ?_, hL, ax_rd_ok (z' := z') hv hzz, hr⟩
            show jm_ald (15, a, b, d) pc M (j' :: o' :: V) g = _
            unfold jm_ald
            dsimp only
            rw [if_pos h2, he]
            dsimp only
            rw [if_pos (by rw [k1]; exact hk), ← k2.1, hn]
            show some (pc + 1, M, (_, e.2.getD n 0) :: V, g) = _
            rw [List.getD_eq_getElem?_getD, hz']
            rfl
          · cases hs
        · cases hs
      · cases hs
    · cases hs
  · cases hs
theorem ax_tsw_ok (hH : ax_H bx σ sc) (hs : ax_tsw bx (20, a, b, d) L S = some (p1, L1, S1)) (hL : ax_l σ L M) (hS : ax_s σ S T) : ax_Ok σ sc (20, a, b, d) pc M T g p1 L1 S1 := by
  unfold ax_tsw at hs
  dsimp only at hs
  split at hs
  · rename_i x r
    obtain ⟨x', U, rfl, hx, hr⟩ := ax_sc hS
    split at hs
    · rename_i h0
      have e := ax_ve hx (by omega)
      subst e
      split at hs
      · rename_i hc
        cases hs
        refine ⟨M, U, ?_, hL, hr⟩
        show jm_tsw (20, a, _, d) M (x' :: U) g = _
        unfold jm_tsw
        dsimp only
        rw [if_pos h0, if_pos hc]
      · rename_i hc
        split at hs
        · rename_i t ht
          cases hs
          refine ⟨M, U, ?_, hL, hr⟩
          show jm_tsw (20, a, _, d) M (x' :: U) g = _
          unfold jm_tsw
          dsimp only
          rw [if_pos h0, if_neg hc, ht]
        · cases hs
    · split at hs
      · rename_i h19
        split at hs
        · rename_i hc
          cases hs
          have hb := ax_box_ok hH hx h19
          refine ⟨M, U, ?_, hL, hr⟩
          show jm_tsw (20, a, _, d) M (x' :: U) g = _
          unfold jm_tsw
          dsimp only
          rw [if_pos (ax_vu hx h19).1, if_pos (by omega)]
        · cases hs
      · cases hs
  · cases hs
theorem ax_spec_ok (hH : ax_H bx σ sc) (hs : ax_spec bx (22, a, b, d) pc L S = some (p1, L1, S1)) (hL : ax_l σ L M) (hS : ax_s σ S T) : ax_Ok σ sc (22, a, b, d) pc M T g p1 L1 S1 := by
  unfold ax_spec at hs
  dsimp only at hs
  split at hs
  · rename_i x r
    obtain ⟨x', U, rfl, hx, hr⟩ := ax_sc hS
    split at hs
    · rename_i hb
      subst hb
      split at hs
      · rename_i hx2
        cases hs
        have e := ax_ve hx (by rw [hx2]; decide)
        refine ⟨M, (0, 6) :: U, ?_, hL, ax_vx (by decide), hr⟩
        rw [e, hx2]
        show (if ((4, 2) : jm_V) = (4, 2) then some (pc + 1, M, (0, (sc.length : Int)) :: U, g) else none) = _
        rw [if_pos rfl, hH.2.1]
        rfl
      · cases hs
    · split at hs
      · rename_i hb
        subst hb
        split at hs
        · rename_i y r'
          obtain ⟨y', V, rfl, hy, hr'⟩ := ax_sc hr
          split at hs
          · rename_i hc
            obtain ⟨n, hn, e3⟩ := Option.map_eq_some_iff.mp hs
            cases e3
            have e1 := ax_ve hx (by omega)
            have e2 := ax_ve hy (by rw [hc.2]; decide)
            have hlt := (jm_nl_in hn).2.2
            refine ⟨M, (0, σ n) :: V, ?_, hL, ax_sym_ok hH (by omega), hr'⟩
            rw [e1, e2]
            show (if x.1 = 0 ∧ y = (4, 2) then (jm_ix x.2 sc.length).map (fun n => (pc + 1, M, (0, sc.getD n 0) :: V, g)) else none) = _
            rw [if_pos hc, hH.2.1, hn]
            show some (pc + 1, M, (0, sc.getD n 0) :: V, g) = _
            rw [hH.2.2.1 n hlt]
          · cases hs
        · cases hs
      · cases hs
  · cases hs
theorem ax_alen_ok (hs : ax_alen pc L S h = some (p1, L1, S1)) (hL : ax_l σ L M) (hS : ax_s σ S T) (hh : ax_h h g) : ax_Ok σ sc (25, a, b, d) pc M T g p1 L1 S1 := by
  unfold ax_alen at hs
  split at hs
  · rename_i o r
    obtain ⟨o', U, rfl, ho, hr⟩ := ax_sc hS
    split at hs
    · rename_i h2
      have e1 := ax_ve ho (by omega)
      subst e1
      split at hs
      · rename_i c hc
        obtain ⟨e, he, hce⟩ := ax_cell hh hc
        split at hs
        · rename_i hk
          cases hs
          obtain ⟨k1, k2⟩ := ax_c_k hce (by omega)
          refine ⟨M, _ :: U, ?_, hL, ax_vx (by decide), hr⟩
          show jm_alen pc M (o' :: U) g = _
          unfold jm_alen
          dsimp only
          rw [if_pos h2, he]
          dsimp only
          rw [if_pos (by rw [k1]; exact hk), k2.1]
        · cases hs
      · cases hs
    · cases hs
  · cases hs
theorem ax_mm_ok (hH : ax_H bx σ sc) (hs : ax_mm bx (26, a, b, d) pc L S = some (p1, L1, S1)) (hL : ax_l σ L M) (hS : ax_s σ S T) : ax_Ok σ sc (26, a, b, d) pc M T g p1 L1 S1 := by
  unfold ax_mm at hs
  dsimp only at hs
  split at hs
  · rename_i y x r
    obtain ⟨y', U, rfl, hy, hS2⟩ := ax_sc hS
    obtain ⟨x', V, rfl, hx, hr⟩ := ax_sc hS2
    split at hs
    · rename_i hcat
      have hcat' : jm_cat V ≤ 8 := by rw [← ax_scat hr]; exact hcat
      split at hs
      · rename_i hc
        cases hs
        have e1 := ax_ve hy (by omega)
        have e2 := ax_ve hx (by omega)
        subst e1; subst e2
        refine ⟨M, _ :: V, ?_, hL, ax_vx (by decide), hr⟩
        show jm_mm (26, a, b, d) pc M (y' :: x' :: V) g = _
        unfold jm_mm
        dsimp only
        rw [if_pos ⟨hc.1, hc.2, hcat'⟩]
      · split at hs
        · rename_i hc
          cases hs
          obtain ⟨c1, c2, c3, c4⟩ := hc
          have e1 := ax_ve hy (by omega)
          subst e1
          have hb := ax_box_ok hH hx c2
          have x0 := (ax_vu hx c2).1
          refine ⟨M, x' :: V, ?_, hL, hx, hr⟩
          show jm_mm (26, a, b, d) pc M (y' :: x' :: V) g = _
          unfold jm_mm
          dsimp only
          rw [if_pos ⟨c1, x0, hcat'⟩, if_neg c3, if_neg (by omega)]
          obtain ⟨xt, xz⟩ := x'
          dsimp only at x0
          subst x0
          rfl
        · cases hs
    · cases hs
  · cases hs
theorem ax_pur_ok {i : jm_I} (hH : ax_H bx σ sc) (hs : ax_pur bx i pc L S h = some (p1, L1, S1)) (hL : ax_l σ L M) (hS : ax_s σ S T) (hh : ax_h h g) : ax_Ok σ sc i pc M T g p1 L1 S1 := by
  obtain ⟨op, a, b, d⟩ := i
  unfold ax_pur at hs
  dsimp only at hs
  split at hs
  · cases hs; exact ⟨M, _, rfl, hL, ax_vx (by decide), hS⟩
  · cases hs; exact ⟨M, _, rfl, hL, ax_vx (by decide), hS⟩
  · exact ax_load_ok hs hL hS
  · exact ax_store_ok hs hL hS
  · exact ax_inc_ok hs hL hS
  · exact ax_arith_ok hH hs hL hS
  · exact ax_conv_ok hs hL hS
  · exact ax_stack_ok hs hL hS
  · exact ax_if_ok hH hs hL hS
  · exact ax_if2_ok hH hs hL hS
  · cases hs; exact ⟨M, _, rfl, hL, hS⟩
  · exact ax_getf_ok hs hL hS hh
  · exact ax_ald_ok hs hL hS hh
  · exact ax_tsw_ok hH hs hL hS
  · exact ax_spec_ok hH hs hL hS
  · exact ax_alen_ok hs hL hS hh
  · exact ax_mm_ok hH hs hL hS
  · cases hs
theorem ax_putf_ok {h1 : jm_H} (hs : ax_putf (14, a, b, d) pc L S h = some (p1, L1, S1, h1)) (hL : ax_l σ L M) (hS : ax_s σ S T) (hh : ax_h h g) : ∃ (M1 : jm_L) (T1 : List jm_V) (g1 : jm_H), jm_stp sc (14, a, b, d) pc M T g = some (p1, M1, T1, g1) ∧ ax_l σ L1 M1 ∧ ax_s σ S1 T1 ∧ ax_h h1 g1 := by
  unfold ax_putf at hs
  dsimp only at hs
  split at hs
  · rename_i v o r
    obtain ⟨v', U, rfl, hv, hS2⟩ := ax_sc hS
    obtain ⟨o', V, rfl, ho, hr⟩ := ax_sc hS2
    split at hs
    · rename_i hc
      obtain ⟨c1, c2, c3⟩ := hc
      have e1 := ax_ve ho (by omega)
      subst e1
      split at hs
      · rename_i c hcl
        obtain ⟨e, he, hce⟩ := ax_cell hh hcl
        split at hs
        · rename_i hk
          cases hs
          obtain ⟨k1, k2⟩ := ax_c_k hce (by omega)
          have hfok : jm_fok a v' = true := by
            rcases c3 with ⟨c3, c4⟩ | ⟨c3, c4⟩
            · unfold jm_fok
              exact decide_eq_true (Or.inl ⟨c4, (ax_vu hv c3).1⟩)
            · rw [ax_ve hv c3]; exact c4
          refine ⟨M, V, _, ?_, hL, hr, ax_h_set (e := (e.1, e.2.set d v'.2)) hh ?_⟩
          · show jm_putf (14, a, b, d) pc M (v' :: o' :: V) g = _
            unfold jm_putf
            dsimp only
            rw [if_pos ⟨c1, hfok⟩, he]
            dsimp only
            rw [if_pos ⟨k1.trans hk.1, by rw [← k2.1]; exact hk.2⟩]
          · refine Or.inr ⟨by show c.1 < 1000; omega, k1, ?_⟩
            show ax_z (c.2.set d (if 19 ≤ v.1 then ax_U else v.2)) (e.2.set d v'.2)
            split
            · exact ax_z_setU k2
            · rename_i h19
              rw [ax_ve hv (by omega)]
              exact ax_z_set k2
        · cases hs
      · cases hs
    · cases hs
  · cases hs
theorem ax_ast_ok {h1 : jm_H} (hs : ax_ast (16, a, b, d) pc L S h = some (p1, L1, S1, h1)) (hL : ax_l σ L M) (hS : ax_s σ S T) (hh : ax_h h g) : ∃ (M1 : jm_L) (T1 : List jm_V) (g1 : jm_H), jm_stp sc (16, a, b, d) pc M T g = some (p1, M1, T1, g1) ∧ ax_l σ L1 M1 ∧ ax_s σ S1 T1 ∧ ax_h h1 g1 := by
  unfold ax_ast at hs
  dsimp only at hs
  split at hs
  · rename_i v j o r
    obtain ⟨v', U, rfl, hv, hS2⟩ := ax_sc hS
    obtain ⟨j', V, rfl, hj, hS3⟩ := ax_sc hS2
    obtain ⟨o', Wt, rfl, ho, hr⟩ := ax_sc hS3
    split at hs
    · rename_i hc
      have e1 := ax_ve hj (by omega)
      have e2 := ax_ve ho (by omega)
      subst e1; subst e2
      split at hs
      · rename_i c hcl
        obtain ⟨e, he, hce⟩ := ax_cell hh hcl
        split at hs
        · rename_i n hn
          have key : ∀ z y, c.1 < 1000 → (c.1 = e.1 → (if b = 0 ∧ e.1 = 0 ∧ v'.1 = 0 then some (pc + 1, M, Wt, (g.1.set o'.2.toNat (e.1, e.2.set n v'.2), g.2))
              else if b = 1 ∧ e.1 = 1 ∧ v'.1 = 0 then some (pc + 1, M, Wt, (g.1.set o'.2.toNat (e.1, e.2.set n (jm_b v'.2)), g.2))
              else if b = 1 ∧ e.1 = 3 ∧ v'.1 = 0 then some (pc + 1, M, Wt, (g.1.set o'.2.toNat (e.1, e.2.set n (jm_z v'.2)), g.2))
              else if b = 2 ∧ e.1 = 2 ∧ v'.1 = 1 then some (pc + 1, M, Wt, (g.1.set o'.2.toNat (e.1, e.2.set n v'.2), g.2))
              else if b = 3 ∧ e.1 = 4 ∧ v'.1 = 2 then (match jm_cell g v'.2 with
                | some c' => if c'.1 = 10 + d then some (pc + 1, M, Wt, (g.1.set o'.2.toNat (e.1, e.2.set n v'.2), g.2)) else none
                | none => none)
              else none) = some (pc + 1, M, Wt, (g.1.set o'.2.toNat (e.1, e.2.set n z), g.2))) → (y = ax_U ∨ y = z) →
              ∃ (M1 : jm_L) (T1 : List jm_V) (g1 : jm_H), jm_stp sc (16, a, b, d) pc M (v' :: j' :: o' :: Wt) g = some (pc + 1, M1, T1, g1) ∧ ax_l σ L M1 ∧ ax_s σ r T1 ∧ ax_h (h.1.set o'.2.toNat (c.1, c.2.set n y), h.2) g1 := by
            intro z y hk hz hy
            obtain ⟨k1, k2⟩ := ax_c_k hce hk
            refine ⟨M, Wt, (g.1.set o'.2.toNat (e.1, e.2.set n z), g.2), ?_, hL, hr, ax_h_set hh (Or.inr ⟨hk, k1, ?_⟩)⟩
            · show jm_ast (16, a, b, d) pc M (v' :: j' :: o' :: Wt) g = _
              unfold jm_ast
              dsimp only
              rw [if_pos hc, he]
              dsimp only
              rw [← k2.1, hn]
              exact hz k1.symm
            · show ax_z (c.2.set n y) (e.2.set n z)
              rcases hy with rfl | rfl
              · exact ax_z_setU k2
              · exact ax_z_set k2
          split at hs
          · rename_i q
            cases hs
            have ev := ax_ve hv (by omega)
            refine key v.2 _ (by omega) (fun hce => ?_) (Or.inr rfl)
            rw [ev, if_pos (by omega)]
          · split at hs
            · rename_i q
              cases hs
              have ev := ax_ve hv (by omega)
              refine key (jm_b v.2) _ (by omega) (fun hce => ?_) (Or.inr rfl)
              rw [ev, if_neg (by omega), if_pos (by omega)]
            · split at hs
              · rename_i q
                cases hs
                have ev := ax_ve hv (by omega)
                refine key (jm_z v.2) _ (by omega) (fun hce => ?_) (Or.inr rfl)
                rw [ev, if_neg (by omega), if_neg (by omega), if_pos (by omega)]
              · split at hs
                · rename_i q
                  cases hs
                  have ev := ax_ve hv (by omega)
                  refine key v.2 _ (by omega) (fun hce => ?_) (Or.inr rfl)
                  rw [ev, if_neg (by omega), if_neg (by omega), if_neg (by omega), if_pos (by omega)]
                · split at hs
                  · rename_i q
                    cases hs
                    obtain ⟨q1, q2⟩ := q
                    have v0 := (ax_vu hv q1).1
                    rcases q2 with ⟨q2, q3⟩ | ⟨q2, q3⟩
                    · refine key v'.2 _ (by omega) (fun hce => ?_) (Or.inl rfl)
                      rw [if_pos (by omega)]
                    · refine key (jm_b v'.2) _ (by omega) (fun hce => ?_) (Or.inl rfl)
                      rw [if_neg (by omega), if_pos (by omega)]
                  · cases hs
        · cases hs
      · cases hs
    · cases hs
  · cases hs
theorem ax_acpy_ok {h1 : jm_H} (hs : jm_acpy pc L S h = some (p1, L1, S1, h1)) (hL : ax_l σ L M) (hS : ax_s σ S T) (hh : ax_h h g) : ∃ (M1 : jm_L) (T1 : List jm_V) (g1 : jm_H), jm_stp sc (24, a, b, d) pc M T g = some (p1, M1, T1, g1) ∧ ax_l σ L1 M1 ∧ ax_s σ S1 T1 ∧ ax_h h1 g1 := by
  unfold jm_acpy at hs
  split at hs
  · rename_i n dp o sp q r
    obtain ⟨n', U1, rfl, hn, hS2⟩ := ax_sc hS
    obtain ⟨dp', U2, rfl, hdp, hS3⟩ := ax_sc hS2
    obtain ⟨o', U3, rfl, ho, hS4⟩ := ax_sc hS3
    obtain ⟨sp', U4, rfl, hsp, hS5⟩ := ax_sc hS4
    obtain ⟨q', U5, rfl, hq, hr⟩ := ax_sc hS5
    split at hs
    · rename_i hc
      have e1 := ax_ve hn (by omega)
      have e2 := ax_ve hdp (by omega)
      have e3 := ax_ve ho (by omega)
      have e4 := ax_ve hsp (by omega)
      have e5 := ax_ve hq (by omega)
      subst e1; subst e2; subst e3; subst e4; subst e5
      split at hs
      · rename_i c c' hc1 hc2
        obtain ⟨e, he, hce⟩ := ax_cell hh hc1
        obtain ⟨e', he', hce'⟩ := ax_cell hh hc2
        split at hs
        · rename_i hk
          cases hs
          obtain ⟨k1, k2⟩ := ax_c_k hce (by omega)
          obtain ⟨k3, k4⟩ := ax_c_k hce' (by omega)
          refine ⟨M, U5, _, ?_, hL, hr, ax_h_set (e := (e'.1, jm_cpy e.2 e'.2 (jm_n sp'.2).toNat (jm_n dp'.2).toNat (jm_n n'.2).toNat)) hh (Or.inr ⟨?_, k3, ax_z_cpy k2 k4⟩)⟩
          · show jm_acpy pc M (n' :: dp' :: o' :: sp' :: q' :: U5) g = _
            unfold jm_acpy
            dsimp only
            rw [if_pos (by rw [← ax_scat hr]; exact hc), he, he']
            dsimp only
            rw [if_pos (by rw [k1, k3, ← k2.1, ← k4.1]; exact hk)]
          · show c'.1 < 1000
            omega
        · cases hs
      · cases hs
    · cases hs
  · cases hs
theorem ax_mod_ok {i : jm_I} {h1 : jm_H} (hs : ax_mod i pc L S h = some (p1, L1, S1, h1)) (hL : ax_l σ L M) (hS : ax_s σ S T) (hh : ax_h h g) : ∃ (M1 : jm_L) (T1 : List jm_V) (g1 : jm_H), jm_stp sc i pc M T g = some (p1, M1, T1, g1) ∧ ax_l σ L1 M1 ∧ ax_s σ S1 T1 ∧ ax_h h1 g1 := by
  obtain ⟨op, a, b, d⟩ := i
  unfold ax_mod at hs
  dsimp only at hs
  split at hs
  · exact ax_putf_ok hs hL hS hh
  · exact ax_ast_ok hs hL hS hh
  · exact ax_acpy_ok hs hL hS hh
  · cases hs
theorem ax_ret_ok {i : jm_I} {r : Option jm_V} (hs : ax_ret i S = some r) (hS : ax_s σ S T) : ∃ q, jm_ret i T g = some (q, g) ∧ ax_r σ r q ∧ ¬ r = some (9, 0) := by
  obtain ⟨op, a, b, d⟩ := i
  unfold ax_ret at hs
  dsimp only at hs
  split at hs
  · split at hs
    · rename_i hb
      subst hb
      cases hs
      rw [ax_sn hS]
      exact ⟨none, rfl, trivial, fun q => nomatch q⟩
    · cases hs
  · rename_i v r'
    obtain ⟨w, U, rfl, hv, hr⟩ := ax_sc hS
    split at hs
    · rename_i hc
      obtain ⟨c1, c2, c3⟩ := hc
      subst c1; subst c2
      cases hs
      rw [ax_sn hr]
      refine ⟨some w, ?_, ⟨hv, trivial⟩, fun q => ?_⟩
      · show (if w.1 = 0 ∧ ((d = 0) ∨ (d = 1 ∧ (jm_n w.2 = 0 ∨ jm_n w.2 = 1)) ∨ (d = 2 ∧ 0 ≤ jm_n w.2 ∧ jm_n w.2 < 65536) ∨ (d = 3 ∧ jm_n w.2 = 0)) then some (some w, g) else none) = _
        rcases c3 with ⟨c3, c4⟩ | ⟨c3, c4⟩
        · rw [ax_ve hv (by omega), if_pos ⟨c3, c4⟩]
        · rw [if_pos ⟨(ax_vu hv c3).1, Or.inl c4⟩]
      · have e := Option.some.inj q
        rw [e] at c3
        rcases c3 with ⟨c3, -⟩ | ⟨c3, -⟩
        · cases c3
        · exact absurd c3 (by decide)
    · cases hs
end
end
section
/-! runs of the box machine are runs of the Int machine -/
def ax_nx (bx : ax_B) (jn : List (Nat × Nat × Nat)) (n : Nat) (ro : Bool) (stop d m pc : Nat) (L : jm_L) (S : List jm_V) (h : jm_H) : Option (Option (Option jm_V) × jm_T) := if pc = stop then some (none, (pc, L, S, h)) else ax bx jn n ro stop d m pc L S h
section
variable {bx : ax_B} {jn : List (Nat × Nat × Nat)} {n : Nat} {ro : Bool} {stop d m pc : Nat} {L : jm_L} {S : List jm_V} {h : jm_H} {q : Option (Option jm_V)} {T : jm_T}
theorem ax_inv (hx : ax bx jn (n + 1) ro stop d m pc L S h = some (q, T)) : ∃ i : jm_I, g_code m pc = some i ∧
    ((i.1 = 40 ∧ ∃ r, ax_ret i S = some r ∧ q = some r ∧ T.2.2.2 = h) ∨
     (i.1 = 41 ∧ ro = false ∧ 10 ≤ d ∧ jm_cat S ≤ 8 ∧ q = some (some (9, 0)) ∧ T.2.2.2 = (h.1, h.2 + 1)) ∨
     ((i.1 = 30 ∨ i.1 = 31 ∨ i.1 = 32) ∧ ∃ (d' : Nat) (r : Option jm_V) (T1 : jm_T), d = d' + 1 ∧ jm_cc m pc i S h ∧ (10 + ((g_lnk m pc).getD 5 0 : Int)) < 1000 ∧ i.2.1 < 1000 ∧ ax bx jn n ro 1000000 d' i.2.2.1 0 (jm_args 0 (S.take i.2.2.2).reverse) [] h = some (some r, T1) ∧
        ((r = some (9, 0) ∧ i.1 = 31 ∧ ax_nx bx jn n ro stop (d' + 1) m i.2.1.toNat (jm_drop L ((g_lnk m pc).getD 6 0)) [] T1.2.2.2 = some (q, T)) ∨ (¬ r = some (9, 0) ∧ ax_nx bx jn n ro stop (d' + 1) m (pc + 3) L (r.toList ++ S.drop i.2.2.2) T1.2.2.2 = some (q, T)))) ∨
     ((i.1 = 14 ∨ i.1 = 16 ∨ i.1 = 24) ∧ ro = false ∧ ∃ (p1 : Nat) (L1 : jm_L) (S1 : List jm_V) (h1 : jm_H), ax_mod i pc L S h = some (p1, L1, S1, h1) ∧ ax_nx bx jn n ro stop d m p1 L1 S1 h1 = some (q, T)) ∨
     (¬ i.1 = 40 ∧ ¬ (i.1 = 30 ∨ i.1 = 31 ∨ i.1 = 32) ∧ ∃ (p1 : Nat) (L1 : jm_L) (S1 : List jm_V), ax_pur bx i pc L S h = some (p1, L1, S1) ∧ ax_nx bx jn n ro stop d m p1 L1 S1 h = some (q, T)) ∨
     (¬ i.1 = 40 ∧ ¬ (i.1 = 30 ∨ i.1 = 31 ∨ i.1 = 32) ∧ ∃ (j : Nat) (r : List jm_V) (L1 : jm_L) (S1 : List jm_V) (h1 h2 : jm_H), ax_pop i S = some r ∧ ax_nx bx jn n true j d m i.2.2.2 L r h = some (none, (j, L1, S1, h1)) ∧ ax_nx bx jn n true j d m (pc + 3) L r h = some (none, (j, L1, S1, h2)) ∧ ax_nx bx jn n ro stop d m j L1 S1 h = some (q, T))) := by
  unfold ax at hx
  cases hc : g_code m pc with
  | none => rw [hc] at hx; cases hx
  | some i =>
    rw [hc] at hx
    dsimp only at hx
    refine ⟨i, rfl, ?_⟩
    by_cases h40 : i.1 = 40
    · rw [if_pos h40] at hx
      obtain ⟨r, hr, e⟩ := Option.map_eq_some_iff.mp hx
      cases e
      exact Or.inl ⟨h40, r, hr, rfl, rfl⟩
    · rw [if_neg h40] at hx
      by_cases h41 : i.1 = 41
      · rw [if_pos h41] at hx
        split at hx
        · rename_i hk
          cases hx
          exact Or.inr (Or.inl ⟨h41, hk.1, hk.2.1, hk.2.2, rfl, rfl⟩)
        · cases hx
      · rw [if_neg h41] at hx
        by_cases h30 : i.1 = 30 ∨ i.1 = 31 ∨ i.1 = 32
        · rw [if_pos h30] at hx
          refine Or.inr (Or.inr (Or.inl ⟨h30, ?_⟩))
          match d, hx with
          | 0, hx => cases hx
          | d' + 1, hx =>
            dsimp only at hx
            by_cases hcc : i.2.2.2 ≤ S.length ∧ jm_cat (S.drop i.2.2.2) ≤ 8 ∧ jm_cat (S.take i.2.2.2) ≤ (g_m i.2.2.1).2.2.1 ∧ jm_rcv (if i.1 = 31 then 10 + ((g_lnk m pc).getD 5 0 : Int) else i.2.1) (S.take i.2.2.2).reverse h = true ∧ (10 + ((g_lnk m pc).getD 5 0 : Int)) < 1000 ∧ i.2.1 < 1000
            · rw [if_pos hcc] at hx
              obtain ⟨k1, k2, k3, k4, k5, k6⟩ := hcc
              cases hy : ax bx jn n ro 1000000 d' i.2.2.1 0 (jm_args 0 (S.take i.2.2.2).reverse) [] h with
              | none => rw [hy] at hx; cases hx
              | some z =>
                obtain ⟨z1, T1⟩ := z
                rw [hy] at hx
                cases z1 with
                | none => cases hx
                | some r =>
                  dsimp only at hx
                  refine ⟨d', r, T1, rfl, ⟨k1, k2, k3, k4⟩, k5, k6, hy, ?_⟩
                  by_cases hr : r = some (9, 0)
                  · rw [if_pos hr] at hx
                    by_cases h31 : i.1 = 31
                    · rw [if_pos h31] at hx
                      exact Or.inl ⟨hr, h31, hx⟩
                    · rw [if_neg h31] at hx
                      cases hx
                  · rw [if_neg hr] at hx
                    exact Or.inr ⟨hr, hx⟩
            · rw [if_neg hcc] at hx
              cases hx
        · rw [if_neg h30] at hx
          by_cases h14 : i.1 = 14 ∨ i.1 = 16 ∨ i.1 = 24
          · rw [if_pos h14] at hx
            refine Or.inr (Or.inr (Or.inr (Or.inl ⟨h14, ?_⟩)))
            cases ro with
            | true => cases hx
            | false =>
              rw [if_neg (by decide)] at hx
              refine ⟨rfl, ?_⟩
              cases hm : ax_mod i pc L S h with
              | none => rw [hm] at hx; cases hx
              | some z =>
                obtain ⟨p1, L1, S1, h1⟩ := z
                rw [hm] at hx
                exact ⟨p1, L1, S1, h1, rfl, hx⟩
          · rw [if_neg h14] at hx
            cases hp : ax_pur bx i pc L S h with
            | some z =>
              obtain ⟨p1, L1, S1⟩ := z
              rw [hp] at hx
              exact Or.inr (Or.inr (Or.inr (Or.inr (Or.inl ⟨h40, h30, p1, L1, S1, rfl, hx⟩))))
            | none =>
              rw [hp] at hx
              dsimp only at hx
              refine Or.inr (Or.inr (Or.inr (Or.inr (Or.inr ⟨h40, h30, ?_⟩))))
              cases hj : ax_jn jn m pc with
              | none => rw [hj] at hx; cases hx
              | some j =>
                cases hpp : ax_pop i S with
                | none => rw [hj, hpp] at hx; cases hx
                | some r =>
                  rw [hj, hpp] at hx
                  dsimp only at hx
                  split at hx
                  · rename_i p1 L1 S1 h1 p2 L2 S2 h2 hx1 hx2
                    split at hx
                    · rename_i hk
                      obtain ⟨e1, e2, e3, e4⟩ := hk
                      subst e1; subst e2; subst e3; subst e4
                      exact ⟨_, r, L1, S1, h1, h2, rfl, hx1, hx2, hx⟩
                    · cases hx
                  · cases hx
end
theorem ax_ro {bx : ax_B} {jn : List (Nat × Nat × Nat)} : ∀ (n : Nat) {stop d m pc : Nat} {L : jm_L} {S : List jm_V} {h : jm_H} {q : Option (Option jm_V)} {T : jm_T}, ax bx jn n true stop d m pc L S h = some (q, T) → T.2.2.2 = h
  | 0, stop, d, m, pc, L, S, h, q, T, hx => by cases hx
  | n + 1, stop, d, m, pc, L, S, h, q, T, hx => by
    have nx : ∀ {p1 : Nat} {L1 : jm_L} {S1 : List jm_V} {h1 : jm_H} {stop d : Nat} {q : Option (Option jm_V)} {T : jm_T}, ax_nx bx jn n true stop d m p1 L1 S1 h1 = some (q, T) → T.2.2.2 = h1 := by
      intro p1 L1 S1 h1 stop d q T hy
      unfold ax_nx at hy
      split at hy
      · cases hy; rfl
      · exact ax_ro n hy
    obtain ⟨i, hc, hcase⟩ := ax_inv hx
    rcases hcase with ⟨-, r, -, -, hT⟩ | ⟨-, hr, -⟩ | ⟨-, d', r, T1, -, -, -, -, hy, hz⟩ | ⟨-, hr, -⟩ | ⟨-, -, p1, L1, S1, -, hy⟩ | ⟨-, -, j, r, L1, S1, h1, h2, -, -, -, hy⟩
    · exact hT
    · cases hr
    · have h1 := ax_ro n hy
      rcases hz with ⟨-, -, hz⟩ | ⟨-, hz⟩
      · rw [nx hz]; exact h1
      · rw [nx hz]; exact h1
    · cases hr
    · exact nx hy
    · exact nx hy
def ax_Q (σ : Nat → Int) (sc : List Int) (d m : Nat) (q : Option (Option jm_V)) (T : jm_T) (P : Option jm_V → jm_H → Prop) : Prop :=
  match q with
  | some r => ∃ (r' : Option jm_V) (g : jm_H), P r' g ∧ ax_r σ r r' ∧ ax_h T.2.2.2 g
  | none => ∃ (M : jm_L) (U : List jm_V) (g : jm_H), ax_l σ T.2.1 M ∧ ax_s σ T.2.2.1 U ∧ ax_h T.2.2.2 g ∧ ∀ r' g', jm_R sc d m T.1 M U g r' g' → P r' g'
theorem ax_Q_mono {σ : Nat → Int} {sc : List Int} {d m : Nat} {q : Option (Option jm_V)} {T : jm_T} {P P' : Option jm_V → jm_H → Prop} (hP : ∀ r g, P r g → P' r g) (h : ax_Q σ sc d m q T P) : ax_Q σ sc d m q T P' := by
  cases q with
  | some r =>
    obtain ⟨r', g, h1, h2⟩ := h
    exact ⟨r', g, hP _ _ h1, h2⟩
  | none =>
    obtain ⟨M, U, g, h1, h2, h3, h4⟩ := h
    exact ⟨M, U, g, h1, h2, h3, fun r' g' hr => hP _ _ (h4 r' g' hr)⟩
theorem ax_pop_ok {σ : Nat → Int} {i : jm_I} {S T r : List jm_V} {sc : List Int} {pc : Nat} {M : jm_L} {g : jm_H} (h : ax_pop i S = some r) (hS : ax_s σ S T) : ∃ U, ax_s σ r U ∧ (jm_stp sc i pc M T g = some (i.2.2.2, M, U, g) ∨ jm_stp sc i pc M T g = some (pc + 3, M, U, g)) := by
  obtain ⟨op, a, b, d⟩ := i
  unfold ax_pop at h
  split at h
  · rename_i y r1
    obtain ⟨y', U, rfl, hy, hr⟩ := ax_sc hS
    split at h
    · rename_i hy0
      have y0 := ax_v0 hy hy0
      split at h
      · rename_i h9
        dsimp only at h9
        subst h9
        cases h
        refine ⟨U, hr, ?_⟩
        show jm_if (9, a, b, d) pc M (y' :: U) g = _ ∨ jm_if (9, a, b, d) pc M (y' :: U) g = _
        unfold jm_if
        dsimp only
        rw [if_pos y0]
        cases jm_cnd b y'.2 0
        · exact Or.inr rfl
        · exact Or.inl rfl
      · split at h
        · rename_i x r2
          obtain ⟨x', V, rfl, hx, hr2⟩ := ax_sc hr
          split at h
          · rename_i h10
            obtain ⟨h10, hx0⟩ := h10
            dsimp only at h10
            subst h10
            cases h
            have x0 := ax_v0 hx hx0
            refine ⟨V, hr2, ?_⟩
            show jm_if2 (10, a, b, d) pc M (y' :: x' :: V) g = _ ∨ jm_if2 (10, a, b, d) pc M (y' :: x' :: V) g = _
            unfold jm_if2
            dsimp only
            rw [if_pos ⟨y0, x0⟩]
            cases jm_cnd b x'.2 y'.2
            · exact Or.inr rfl
            · exact Or.inl rfl
          · cases h
        · cases h
    · cases h
  · cases h
theorem ax_r9 {σ : Nat → Int} {r r' : Option jm_V} (h : ax_r σ r r') : r' = some (9, 0) ↔ r = some (9, 0) := by
  cases r with
  | none =>
    cases r' with
    | none => exact Iff.rfl
    | some w => exact h.elim
  | some v =>
    cases r' with
    | none => exact h.elim
    | some w =>
      have hv : ax_v σ v w := h.1
      rcases hv with ⟨-, e⟩ | ⟨h1, h2, -⟩
      · rw [e]
      · constructor
        · intro e
          rw [Option.some.inj e] at h2
          cases h2
        · intro e
          rw [Option.some.inj e] at h1
          exact absurd h1 (by decide)
theorem ax_ok {σ : Nat → Int} {sc : List Int} {bx : ax_B} {jn : List (Nat × Nat × Nat)} (hH : ax_H bx σ sc) : ∀ (n : Nat) {ro : Bool} {stop d m pc : Nat} {L : jm_L} {S : List jm_V} {h : jm_H} {q : Option (Option jm_V)} {T : jm_T} {M : jm_L} {U : List jm_V} {g : jm_H}, ax bx jn n ro stop d m pc L S h = some (q, T) → ax_l σ L M → ax_s σ S U → ax_h h g → ax_Q σ sc d m q T (jm_R sc d m pc M U g)
  | 0, ro, stop, d, m, pc, L, S, h, q, T, M, U, g, hx, hL, hS, hh => by cases hx
  | n + 1, ro, stop, d, m, pc, L, S, h, q, T, M, U, g, hx, hL, hS, hh => by
    have nx : ∀ {ro : Bool} {p1 : Nat} {L1 : jm_L} {S1 : List jm_V} {h1 : jm_H} {stop : Nat} {q : Option (Option jm_V)} {T : jm_T} {M : jm_L} {U : List jm_V} {g : jm_H}, ax_nx bx jn n ro stop d m p1 L1 S1 h1 = some (q, T) → ax_l σ L1 M → ax_s σ S1 U → ax_h h1 g → ax_Q σ sc d m q T (jm_R sc d m p1 M U g) := by
      intro ro p1 L1 S1 h1 stop q T M U g hy hL hS hh
      unfold ax_nx at hy
      split at hy
      · cases hy
        exact ⟨M, U, g, hL, hS, hh, fun r' g' hr => hr⟩
      · exact ax_ok hH n hy hL hS hh
    obtain ⟨i, hc, hcase⟩ := ax_inv hx
    rcases hcase with ⟨h40, r, hr, rfl, hT⟩ | ⟨h41, -, hd, hcat, rfl, hT⟩ | ⟨h30, d', r, T1, rfl, hcc, hk1, hk2, hy, hz⟩ | ⟨h14, -, p1, L1, S1, h1, hm, hy⟩ | ⟨h40, h30, p1, L1, S1, hp, hy⟩ | ⟨h40, h30, j, r, L1, S1, h1, h2, hpp, hy1, hy2, hy⟩
    · obtain ⟨r', hr', hrr, -⟩ := ax_ret_ok (g := g) hr hS
      exact ⟨r', g, jm_R_ret hc h40 hr', hrr, by rw [hT]; exact hh⟩
    · exact ⟨some (9, 0), (g.1, g.2 + 1), jm_R_thr hc h41 hd (by rw [← ax_scat hS]; exact hcat), ⟨ax_vx (by decide), trivial⟩, by rw [hT]; exact ax_h_thr hh⟩
    · obtain ⟨k1, k2, k3, k4⟩ := hcc
      have hcc' : jm_cc m pc i U g := by
        refine ⟨by rw [← ax_slen hS]; exact k1, by rw [← ax_scat (ax_sdrop _ hS)]; exact k2, by rw [← ax_scat (ax_stake _ hS)]; exact k3, ax_rcv (ax_srev (ax_stake _ hS)) hh ?_ k4⟩
        split
        · exact hk1
        · exact hk2
      obtain ⟨r', g1, hrun, hrr, hg1⟩ := ax_ok hH n hy (ax_sargs 0 (ax_srev (ax_stake _ hS))) (show ax_s σ [] [] from trivial) hh
      rcases hz with ⟨hr9, h31, hz⟩ | ⟨hr9, hz⟩
      · have e := (ax_r9 hrr).mpr hr9
        subst e
        exact ax_Q_mono (fun r2 g2 h2 => jm_R_try hc h31 hcc' hrun h2) (nx hz (ax_drop hL) (show ax_s σ [] [] from trivial) hg1)
      · exact ax_Q_mono (fun r2 g2 h2 => jm_R_call hc h30 hcc' hrun (fun e => hr9 ((ax_r9 hrr).mp e)) h2) (nx hz hL (ax_sapp hrr (ax_sdrop _ hS)) hg1)
    · obtain ⟨M1, U1, g1, hs, hL1, hS1, hh1⟩ := ax_mod_ok (sc := sc) hm hL hS hh
      exact ax_Q_mono (fun r2 g2 h2 => jm_R_stp hc (by omega) (by omega) hs h2) (nx hy hL1 hS1 hh1)
    · obtain ⟨M1, U1, hs, hL1, hS1⟩ := ax_pur_ok (g := g) hH hp hL hS hh
      exact ax_Q_mono (fun r2 g2 h2 => jm_R_stp hc h40 h30 hs h2) (nx hy hL1 hS1 hh)
    · obtain ⟨V, hV, hs⟩ := ax_pop_ok (sc := sc) (pc := pc) (M := M) (g := g) hpp hS
      have e1 : h1 = h := by
        unfold ax_nx at hy1
        split at hy1
        · cases hy1; rfl
        · exact ax_ro n hy1
      have e2 : h2 = h := by
        unfold ax_nx at hy2
        split at hy2
        · cases hy2; rfl
        · exact ax_ro n hy2
      subst e1
      subst e2
      rcases hs with hs | hs
      · obtain ⟨M1, U1, g1, hL1, hS1, hh1, hk⟩ := nx hy1 hL hV hh
        exact ax_Q_mono (fun r2 g2 h2 => jm_R_stp hc h40 h30 hs (hk r2 g2 h2)) (nx hy hL1 hS1 hh1)
      · obtain ⟨M1, U1, g1, hL1, hS1, hh1, hk⟩ := nx hy2 hL hV hh
        exact ax_Q_mono (fun r2 g2 h2 => jm_R_stp hc h40 h30 hs (hk r2 g2 h2)) (nx hy hL1 hS1 hh1)
end
section
/-! triples of the box machine, and how they are put together -/
def ax_wk (c e : jm_C) : Bool := decide (e = c) || (decide (c.1 < 1000) && decide (e = (1000 + c.2.length, [])))
def ax_wkl : List jm_C → List jm_C → Bool
  | [], [] => true
  | c :: r, e :: s => ax_wk c e && ax_wkl r s
  | _, _ => false
def ax_wkh (h k : jm_H) : Bool := decide (h.2 = k.2) && ax_wkl h.1 k.1
theorem ax_wk_c {c e x : jm_C} (h : ax_wk c e = true) (hc : ax_c c x) : ax_c e x := by
  rcases Bool.or_eq_true_iff.mp h with h | h
  · rw [of_decide_eq_true h]; exact hc
  · obtain ⟨h1, h2⟩ := Bool.and_eq_true_iff.mp h
    have h1 := of_decide_eq_true h1
    rw [of_decide_eq_true h2]
    have := (ax_c_k hc h1).2.1
    refine Or.inl ⟨Nat.le_add_right _ _, ?_⟩
    show x.2.length + 1000 = 1000 + c.2.length
    omega
theorem ax_wkl_len : ∀ {l k : List jm_C}, ax_wkl l k = true → l.length = k.length
  | [], [], _ => rfl
  | _ :: _, _ :: _, h => congrArg (· + 1) (ax_wkl_len (Bool.and_eq_true_iff.mp h).2)
theorem ax_wkl_at : ∀ {l k : List jm_C} (i : Nat) {e : jm_C}, ax_wkl l k = true → k[i]? = some e → ∃ c, l[i]? = some c ∧ ax_wk c e = true
  | [], [], i, e, _, hk => by simp at hk
  | c :: l, e' :: k, 0, e, h, hk => by
    cases hk
    exact ⟨c, rfl, (Bool.and_eq_true_iff.mp h).1⟩
  | c :: l, e' :: k, i + 1, e, h, hk => by
    rw [List.getElem?_cons_succ] at hk ⊢
    exact ax_wkl_at i (Bool.and_eq_true_iff.mp h).2 hk
theorem ax_wkh_ok {h k g : jm_H} (hw : ax_wkh h k = true) (hh : ax_h h g) : ax_h k g := by
  obtain ⟨h1, h2⟩ := Bool.and_eq_true_iff.mp hw
  refine ⟨(of_decide_eq_true h1).symm.trans hh.1, (ax_wkl_len h2).symm.trans hh.2.1, fun i e hk => ?_⟩
  obtain ⟨c, hc, hce⟩ := ax_wkl_at i h2 hk
  obtain ⟨x, hx, hcx⟩ := hh.2.2 i c hc
  exact ⟨x, hx, ax_wk_c hce hcx⟩
def ax_M (σ : Nat → Int) (sc : List Int) (d m pc : Nat) (L : jm_L) (S : List jm_V) (h : jm_H) (r : Option jm_V) (k : jm_H) : Prop :=
  ∀ (M : jm_L) (U : List jm_V) (g : jm_H), ax_l σ L M → ax_s σ S U → ax_h h g → ∃ (r' : Option jm_V) (g' : jm_H), jm_R sc d m pc M U g r' g' ∧ ax_r σ r r' ∧ ax_h k g'
def ax_fin (bx : ax_B) (jn : List (Nat × Nat × Nat)) (n d m pc : Nat) (L : jm_L) (S : List jm_V) (h : jm_H) (r : Option jm_V) (k : jm_H) : Bool :=
  match ax bx jn n false 1000000 d m pc L S h with
  | some (some r', T) => decide (r' = r) && ax_wkh T.2.2.2 k
  | _ => false
def ax_seg (bx : ax_B) (jn : List (Nat × Nat × Nat)) (n stop d m pc : Nat) (L : jm_L) (S : List jm_V) (h : jm_H) (L1 : jm_L) (S1 : List jm_V) (k : jm_H) : Bool :=
  match ax bx jn n false stop d m pc L S h with
  | some (none, T) => decide (T.1 = stop) && (decide (T.2.1 = L1) && (decide (T.2.2.1 = S1) && ax_wkh T.2.2.2 k))
  | _ => false
def ax_ccl (m pc : Nat) (i : jm_I) (S : List jm_V) (h : jm_H) : Bool := decide (g_code m pc = some i) && (decide (i.1 = 30) && (decide (i.2.1 < 1000) && (decide (i.2.2.2 ≤ S.length) && (decide (jm_cat (S.drop i.2.2.2) ≤ 8) && (decide (jm_cat (S.take i.2.2.2) ≤ (g_m i.2.2.1).2.2.1) && jm_rcv i.2.1 (S.take i.2.2.2).reverse h)))))
section
variable {σ : Nat → Int} {sc : List Int} {bx : ax_B} {jn : List (Nat × Nat × Nat)} {n stop d m pc : Nat} {L L1 : jm_L} {S S1 : List jm_V} {h k k1 : jm_H} {r r1 : Option jm_V}
theorem ax_M_fin (hc : ax_fin bx jn n d m pc L S h r k = true) (hH : ax_H bx σ sc) : ax_M σ sc d m pc L S h r k := by
  intro M U g hL hS hh
  unfold ax_fin at hc
  split at hc
  · rename_i r' T hx
    obtain ⟨h1, h2⟩ := Bool.and_eq_true_iff.mp hc
    have e := of_decide_eq_true h1
    subst e
    obtain ⟨r2, g2, h3, h4, h5⟩ := ax_ok hH n hx hL hS hh
    exact ⟨r2, g2, h3, h4, ax_wkh_ok h2 h5⟩
  · cases hc
theorem ax_M_seg (hc : ax_seg bx jn n stop d m pc L S h L1 S1 k1 = true) (hH : ax_H bx σ sc) (hM : ax_M σ sc d m stop L1 S1 k1 r k) : ax_M σ sc d m pc L S h r k := by
  intro M U g hL hS hh
  unfold ax_seg at hc
  split at hc
  · rename_i T hx
    obtain ⟨h1, hc⟩ := Bool.and_eq_true_iff.mp hc
    obtain ⟨h2, hc⟩ := Bool.and_eq_true_iff.mp hc
    obtain ⟨h3, h4⟩ := Bool.and_eq_true_iff.mp hc
    obtain ⟨M2, U2, g2, q1, q2, q3, q4⟩ := ax_ok hH n hx hL hS hh
    rw [of_decide_eq_true h2] at q1
    rw [of_decide_eq_true h3] at q2
    rw [of_decide_eq_true h1] at q4
    obtain ⟨r', g', w1, w2⟩ := hM M2 U2 g2 q1 q2 (ax_wkh_ok h4 q3)
    exact ⟨r', g', q4 _ _ w1, w2⟩
  · cases hc
theorem ax_M_call {i : jm_I} (hc : ax_ccl m pc i S h = true) (hr : ¬ r1 = some (9, 0)) (hM1 : ax_M σ sc d i.2.2.1 0 (jm_args 0 (S.take i.2.2.2).reverse) [] h r1 k1) (hM2 : ax_M σ sc (d + 1) m (pc + 3) L (r1.toList ++ S.drop i.2.2.2) k1 r k) : ax_M σ sc (d + 1) m pc L S h r k := by
  intro M U g hL hS hh
  unfold ax_ccl at hc
  simp only [Bool.and_eq_true, decide_eq_true_eq] at hc
  obtain ⟨c1, c2, c3, c4, c5, c6, c7⟩ := hc
  obtain ⟨r', g', w1, w2, w3⟩ := hM1 _ [] g (ax_sargs 0 (ax_srev (ax_stake i.2.2.2 hS))) trivial hh
  obtain ⟨r2, g2, x1, x2⟩ := hM2 M (r'.toList ++ U.drop i.2.2.2) g' hL (ax_sapp w2 (ax_sdrop _ hS)) w3
  refine ⟨r2, g2, jm_R_call c1 (Or.inl c2) ⟨by rw [← ax_slen hS]; exact c4, by rw [← ax_scat (ax_sdrop _ hS)]; exact c5, by rw [← ax_scat (ax_stake _ hS)]; exact c6, ?_⟩ w1 (fun e => hr ((ax_r9 w2).mp e)) x1, x2⟩
  rw [if_neg (by omega)]
  exact ax_rcv (ax_srev (ax_stake _ hS)) hh c3 c7
theorem ax_M_res {r2 : Option jm_V} (hr : ∀ q, ax_r σ r1 q → ax_r σ r2 q) (hM : ax_M σ sc d m pc L S h r1 k) : ax_M σ sc d m pc L S h r2 k := by
  intro M U g hL hS hh
  obtain ⟨r', g', w1, w2, w3⟩ := hM M U g hL hS hh
  exact ⟨r', g', w1, hr _ w2, w3⟩
theorem ax_loop {Lf : Nat → jm_L} {Wf : Nat → jm_H} {rf : Nat → Option jm_V} {bs be : Nat → ax_B} {N : Nat} (hN : N ≤ 60)
    (hs : (List.range 60).all (fun i => ax_seg (bs i) jn n stop d m stop (Lf i) [] (Wf i) (Lf (i + 1)) [] (Wf (i + 1))) = true)
    (he : (List.range 61).all (fun i => ax_fin (be i) jn n d m stop (Lf i) [] (Wf i) (rf i) k) = true) (hHs : ∀ i, i < N → ax_H (bs i) σ sc) (hHe : ax_H (be N) σ sc) : ∀ j, j ≤ N → ax_M σ sc d m stop (Lf (N - j)) [] (Wf (N - j)) (rf N) k
  | 0, _ => ax_M_fin (List.all_eq_true.mp he N (List.mem_range.mpr (by omega))) hHe
  | j + 1, hj => by
    have h1 := List.all_eq_true.mp hs (N - (j + 1)) (List.mem_range.mpr (by omega))
    refine ax_M_seg h1 (hHs _ (by omega)) ?_
    rw [show N - (j + 1) + 1 = N - j by omega]
    exact ax_loop hN hs he hHs hHe j (by omega)
end
theorem ax_h_rf {h : jm_H} (hk : h.1.all (fun c => decide (c.1 < 1000)) = true) : ax_h h h :=
  ⟨rfl, rfl, fun k c hc => ⟨c, hc, Or.inr ⟨of_decide_eq_true (List.all_eq_true.mp hk c (List.mem_of_getElem? hc)), rfl, rfl, fun _ => Or.inr rfl⟩⟩⟩
def ax_sz (l : List jm_C) : Nat := (l.map (fun c => if 1000 ≤ c.1 then c.1 - 1000 else c.2.length)).sum
theorem ax_h_sz {h g : jm_H} (hh : ax_h h g) : jm_cn g = h.1.length + h.2 ∧ jm_sl g = ax_sz h.1 + 6 * h.2 := by
  have e : g.1.map (fun c => c.2.length) = h.1.map (fun c => if 1000 ≤ c.1 then c.1 - 1000 else c.2.length) := by
    apply List.ext_getElem?
    intro i
    rw [List.getElem?_map, List.getElem?_map]
    cases hc : h.1[i]? with
    | none =>
      have h1 := List.getElem?_eq_none_iff.mp hc
      rw [List.getElem?_eq_none (by rw [← hh.2.1]; exact h1)]
      rfl
    | some c =>
      obtain ⟨x, hx, hcx⟩ := hh.2.2 i c hc
      rw [hx]
      show some x.2.length = some (if 1000 ≤ c.1 then c.1 - 1000 else c.2.length)
      rcases hcx with ⟨h1, h2⟩ | ⟨h1, h2, h3⟩
      · rw [if_pos h1, show x.2.length = c.1 - 1000 by omega]
      · rw [if_neg (by omega), h3.1]
  unfold jm_cn jm_sl ax_sz
  rw [e, hh.1, hh.2.1]
  exact ⟨rfl, rfl⟩
end
section
/-! the heap behind the two constructors (and the row out), and that they make it -/
def g_cell0 : jm_C := (10, [1, 4, 30, 56, 82, 108, 182, 183, 187, 188, 189, 191, 0, -1, -1])
def g_cell1 : jm_C := (11, [2, 3, 0, 0, 0, 0, 0, 0, 0, 0, 0])
def g_cell2 : jm_C := (1, List.replicate 940 (0))
def g_cell3 : jm_C := (2, [599495, 627764, 769604, 19173554, 624435, 12343, 3540584, 452639379, 1486070419, 407947731, 24974578053, 664683, 498, 1476, 14836, 688, 448133, 404362868, 494, 12009203, 623908, 605580, 492210354])
def g_cell4 : jm_C := (12, [5, 17, 26, 0])
def g_cell5 : jm_C := (13, [6, 7, 8, 9, 10, 11, 12, 13, 14, 15, 16])
def g_cell6 : jm_C := (0, [0, 0, 0, 0, 0])
def g_cell7 : jm_C := (2, List.replicate 40 (0))
def g_cell8 : jm_C := (0, [0, 0, 0])
def g_cell9 : jm_C := (0, [0, 0, 0])
def g_cell10 : jm_C := (0, [0, 0, 0, 0, 0, 0, 0, 0])
def g_cell11 : jm_C := (0, [0, 0, 0, 0, 0, 0, 0, 0])
def g_cell12 : jm_C := (0, [0, 0, 0, 0, 0, 0, 0, 0])
def g_cell13 : jm_C := (0, [0, 0, 0, 0, 0, 0, 0, 0])
def g_cell14 : jm_C := (0, [0, 0, 0, 0, 0, 0, 0, 0])
def g_cell15 : jm_C := (0, [0, 0, 0, 0, 0, 0, 0, 0])
def g_cell16 : jm_C := (0, List.replicate 64 (-1))
def g_cell17 : jm_C := (14, [0, -1, -1, 0, 0, 0, 18, 19, 20, 21, 22, 23, 24, 25])
def g_cell18 : jm_C := (0, [0, 0, 0, 0, 0, 0, 0, 0])
def g_cell19 : jm_C := (0, [-1, -1, -1, -1, -1, -1, -1, -1])
def g_cell20 : jm_C := (0, [-1, -1, -1, -1, -1, -1])
def g_cell21 : jm_C := (0, [0, 0, 0, 0, 0, 0])
def g_cell22 : jm_C := (0, List.replicate 36 (0))
def g_cell23 : jm_C := (0, [0, 0, 0, 0, 0, 0])
def g_cell24 : jm_C := (0, [0, 0, 0, 0, 0, 0])
def g_cell25 : jm_C := (0, [0, 0, 0, 0, 0, 0, 0, 0])
def g_cell26 : jm_C := (15, [27, 28, 29, 0, 0, 0])
def g_cell27 : jm_C := (0, List.replicate 40 (0))
def g_cell28 : jm_C := (0, List.replicate 40 (0))
def g_cell29 : jm_C := (0, List.replicate 40 (0))
def g_cell30 : jm_C := (12, [31, 43, 52, 0])
def g_cell31 : jm_C := (13, [32, 33, 34, 35, 36, 37, 38, 39, 40, 41, 42])
def g_cell32 : jm_C := (0, [0, 0, 0, 0, 0])
def g_cell33 : jm_C := (2, List.replicate 40 (0))
def g_cell34 : jm_C := (0, [0, 0, 0])
def g_cell35 : jm_C := (0, [0, 0, 0])
def g_cell36 : jm_C := (0, [0, 0, 0, 0, 0, 0, 0, 0])
def g_cell37 : jm_C := (0, [0, 0, 0, 0, 0, 0, 0, 0])
def g_cell38 : jm_C := (0, [0, 0, 0, 0, 0, 0, 0, 0])
def g_cell39 : jm_C := (0, [0, 0, 0, 0, 0, 0, 0, 0])
def g_cell40 : jm_C := (0, [0, 0, 0, 0, 0, 0, 0, 0])
def g_cell41 : jm_C := (0, [0, 0, 0, 0, 0, 0, 0, 0])
def g_cell42 : jm_C := (0, List.replicate 64 (-1))
def g_cell43 : jm_C := (14, [0, -1, -1, 0, 0, 0, 44, 45, 46, 47, 48, 49, 50, 51])
def g_cell44 : jm_C := (0, [0, 0, 0, 0, 0, 0, 0, 0])
def g_cell45 : jm_C := (0, [-1, -1, -1, -1, -1, -1, -1, -1])
def g_cell46 : jm_C := (0, [-1, -1, -1, -1, -1, -1])
def g_cell47 : jm_C := (0, [0, 0, 0, 0, 0, 0])
def g_cell48 : jm_C := (0, List.replicate 36 (0))
def g_cell49 : jm_C := (0, [0, 0, 0, 0, 0, 0])
def g_cell50 : jm_C := (0, [0, 0, 0, 0, 0, 0])
def g_cell51 : jm_C := (0, [0, 0, 0, 0, 0, 0, 0, 0])
def g_cell52 : jm_C := (15, [53, 54, 55, 0, 0, 0])
def g_cell53 : jm_C := (0, List.replicate 40 (0))
def g_cell54 : jm_C := (0, List.replicate 40 (0))
def g_cell55 : jm_C := (0, List.replicate 40 (0))
def g_cell56 : jm_C := (12, [57, 69, 78, 0])
def g_cell57 : jm_C := (13, [58, 59, 60, 61, 62, 63, 64, 65, 66, 67, 68])
def g_cell58 : jm_C := (0, [0, 0, 0, 0, 0])
def g_cell59 : jm_C := (2, List.replicate 40 (0))
def g_cell60 : jm_C := (0, [0, 0, 0])
def g_cell61 : jm_C := (0, [0, 0, 0])
def g_cell62 : jm_C := (0, [0, 0, 0, 0, 0, 0, 0, 0])
def g_cell63 : jm_C := (0, [0, 0, 0, 0, 0, 0, 0, 0])
def g_cell64 : jm_C := (0, [0, 0, 0, 0, 0, 0, 0, 0])
def g_cell65 : jm_C := (0, [0, 0, 0, 0, 0, 0, 0, 0])
def g_cell66 : jm_C := (0, [0, 0, 0, 0, 0, 0, 0, 0])
def g_cell67 : jm_C := (0, [0, 0, 0, 0, 0, 0, 0, 0])
def g_cell68 : jm_C := (0, List.replicate 64 (-1))
def g_cell69 : jm_C := (14, [0, -1, -1, 0, 0, 0, 70, 71, 72, 73, 74, 75, 76, 77])
def g_cell70 : jm_C := (0, [0, 0, 0, 0, 0, 0, 0, 0])
def g_cell71 : jm_C := (0, [-1, -1, -1, -1, -1, -1, -1, -1])
def g_cell72 : jm_C := (0, [-1, -1, -1, -1, -1, -1])
def g_cell73 : jm_C := (0, [0, 0, 0, 0, 0, 0])
def g_cell74 : jm_C := (0, List.replicate 36 (0))
def g_cell75 : jm_C := (0, [0, 0, 0, 0, 0, 0])
def g_cell76 : jm_C := (0, [0, 0, 0, 0, 0, 0])
def g_cell77 : jm_C := (0, [0, 0, 0, 0, 0, 0, 0, 0])
def g_cell78 : jm_C := (15, [79, 80, 81, 0, 0, 0])
def g_cell79 : jm_C := (0, List.replicate 40 (0))
def g_cell80 : jm_C := (0, List.replicate 40 (0))
def g_cell81 : jm_C := (0, List.replicate 40 (0))
def g_cell82 : jm_C := (12, [83, 95, 104, 0])
def g_cell83 : jm_C := (13, [84, 85, 86, 87, 88, 89, 90, 91, 92, 93, 94])
def g_cell84 : jm_C := (0, [0, 0, 0, 0, 0])
def g_cell85 : jm_C := (2, List.replicate 40 (0))
def g_cell86 : jm_C := (0, [0, 0, 0])
def g_cell87 : jm_C := (0, [0, 0, 0])
def g_cell88 : jm_C := (0, [0, 0, 0, 0, 0, 0, 0, 0])
def g_cell89 : jm_C := (0, [0, 0, 0, 0, 0, 0, 0, 0])
def g_cell90 : jm_C := (0, [0, 0, 0, 0, 0, 0, 0, 0])
def g_cell91 : jm_C := (0, [0, 0, 0, 0, 0, 0, 0, 0])
def g_cell92 : jm_C := (0, [0, 0, 0, 0, 0, 0, 0, 0])
def g_cell93 : jm_C := (0, [0, 0, 0, 0, 0, 0, 0, 0])
def g_cell94 : jm_C := (0, List.replicate 64 (-1))
def g_cell95 : jm_C := (14, [0, -1, -1, 0, 0, 0, 96, 97, 98, 99, 100, 101, 102, 103])
def g_cell96 : jm_C := (0, [0, 0, 0, 0, 0, 0, 0, 0])
def g_cell97 : jm_C := (0, [-1, -1, -1, -1, -1, -1, -1, -1])
def g_cell98 : jm_C := (0, [-1, -1, -1, -1, -1, -1])
def g_cell99 : jm_C := (0, [0, 0, 0, 0, 0, 0])
def g_cell100 : jm_C := (0, List.replicate 36 (0))
def g_cell101 : jm_C := (0, [0, 0, 0, 0, 0, 0])
def g_cell102 : jm_C := (0, [0, 0, 0, 0, 0, 0])
def g_cell103 : jm_C := (0, [0, 0, 0, 0, 0, 0, 0, 0])
def g_cell104 : jm_C := (15, [105, 106, 107, 0, 0, 0])
def g_cell105 : jm_C := (0, List.replicate 40 (0))
def g_cell106 : jm_C := (0, List.replicate 40 (0))
def g_cell107 : jm_C := (0, List.replicate 40 (0))
def g_cell108 : jm_C := (16, [109, 0])
def g_cell109 : jm_C := (4, [110, 119, 128, 137, 146, 155, 164, 173])
def g_cell110 : jm_C := (14, [0, -1, -1, 0, 0, 0, 111, 112, 113, 114, 115, 116, 117, 118])
def g_cell111 : jm_C := (0, [0, 0, 0, 0, 0, 0, 0, 0])
def g_cell112 : jm_C := (0, [-1, -1, -1, -1, -1, -1, -1, -1])
def g_cell113 : jm_C := (0, [-1, -1, -1, -1, -1, -1])
def g_cell114 : jm_C := (0, [0, 0, 0, 0, 0, 0])
def g_cell115 : jm_C := (0, List.replicate 36 (0))
def g_cell116 : jm_C := (0, [0, 0, 0, 0, 0, 0])
def g_cell117 : jm_C := (0, [0, 0, 0, 0, 0, 0])
def g_cell118 : jm_C := (0, [0, 0, 0, 0, 0, 0, 0, 0])
def g_cell119 : jm_C := (14, [0, -1, -1, 0, 0, 0, 120, 121, 122, 123, 124, 125, 126, 127])
def g_cell120 : jm_C := (0, [0, 0, 0, 0, 0, 0, 0, 0])
def g_cell121 : jm_C := (0, [-1, -1, -1, -1, -1, -1, -1, -1])
def g_cell122 : jm_C := (0, [-1, -1, -1, -1, -1, -1])
def g_cell123 : jm_C := (0, [0, 0, 0, 0, 0, 0])
def g_cell124 : jm_C := (0, List.replicate 36 (0))
def g_cell125 : jm_C := (0, [0, 0, 0, 0, 0, 0])
def g_cell126 : jm_C := (0, [0, 0, 0, 0, 0, 0])
def g_cell127 : jm_C := (0, [0, 0, 0, 0, 0, 0, 0, 0])
def g_cell128 : jm_C := (14, [0, -1, -1, 0, 0, 0, 129, 130, 131, 132, 133, 134, 135, 136])
def g_cell129 : jm_C := (0, [0, 0, 0, 0, 0, 0, 0, 0])
def g_cell130 : jm_C := (0, [-1, -1, -1, -1, -1, -1, -1, -1])
def g_cell131 : jm_C := (0, [-1, -1, -1, -1, -1, -1])
def g_cell132 : jm_C := (0, [0, 0, 0, 0, 0, 0])
def g_cell133 : jm_C := (0, List.replicate 36 (0))
def g_cell134 : jm_C := (0, [0, 0, 0, 0, 0, 0])
def g_cell135 : jm_C := (0, [0, 0, 0, 0, 0, 0])
def g_cell136 : jm_C := (0, [0, 0, 0, 0, 0, 0, 0, 0])
def g_cell137 : jm_C := (14, [0, -1, -1, 0, 0, 0, 138, 139, 140, 141, 142, 143, 144, 145])
def g_cell138 : jm_C := (0, [0, 0, 0, 0, 0, 0, 0, 0])
def g_cell139 : jm_C := (0, [-1, -1, -1, -1, -1, -1, -1, -1])
def g_cell140 : jm_C := (0, [-1, -1, -1, -1, -1, -1])
def g_cell141 : jm_C := (0, [0, 0, 0, 0, 0, 0])
def g_cell142 : jm_C := (0, List.replicate 36 (0))
def g_cell143 : jm_C := (0, [0, 0, 0, 0, 0, 0])
def g_cell144 : jm_C := (0, [0, 0, 0, 0, 0, 0])
def g_cell145 : jm_C := (0, [0, 0, 0, 0, 0, 0, 0, 0])
def g_cell146 : jm_C := (14, [0, -1, -1, 0, 0, 0, 147, 148, 149, 150, 151, 152, 153, 154])
def g_cell147 : jm_C := (0, [0, 0, 0, 0, 0, 0, 0, 0])
def g_cell148 : jm_C := (0, [-1, -1, -1, -1, -1, -1, -1, -1])
def g_cell149 : jm_C := (0, [-1, -1, -1, -1, -1, -1])
def g_cell150 : jm_C := (0, [0, 0, 0, 0, 0, 0])
def g_cell151 : jm_C := (0, List.replicate 36 (0))
def g_cell152 : jm_C := (0, [0, 0, 0, 0, 0, 0])
def g_cell153 : jm_C := (0, [0, 0, 0, 0, 0, 0])
def g_cell154 : jm_C := (0, [0, 0, 0, 0, 0, 0, 0, 0])
def g_cell155 : jm_C := (14, [0, -1, -1, 0, 0, 0, 156, 157, 158, 159, 160, 161, 162, 163])
def g_cell156 : jm_C := (0, [0, 0, 0, 0, 0, 0, 0, 0])
def g_cell157 : jm_C := (0, [-1, -1, -1, -1, -1, -1, -1, -1])
def g_cell158 : jm_C := (0, [-1, -1, -1, -1, -1, -1])
def g_cell159 : jm_C := (0, [0, 0, 0, 0, 0, 0])
def g_cell160 : jm_C := (0, List.replicate 36 (0))
def g_cell161 : jm_C := (0, [0, 0, 0, 0, 0, 0])
def g_cell162 : jm_C := (0, [0, 0, 0, 0, 0, 0])
def g_cell163 : jm_C := (0, [0, 0, 0, 0, 0, 0, 0, 0])
def g_cell164 : jm_C := (14, [0, -1, -1, 0, 0, 0, 165, 166, 167, 168, 169, 170, 171, 172])
def g_cell165 : jm_C := (0, [0, 0, 0, 0, 0, 0, 0, 0])
def g_cell166 : jm_C := (0, [-1, -1, -1, -1, -1, -1, -1, -1])
def g_cell167 : jm_C := (0, [-1, -1, -1, -1, -1, -1])
def g_cell168 : jm_C := (0, [0, 0, 0, 0, 0, 0])
def g_cell169 : jm_C := (0, List.replicate 36 (0))
def g_cell170 : jm_C := (0, [0, 0, 0, 0, 0, 0])
def g_cell171 : jm_C := (0, [0, 0, 0, 0, 0, 0])
def g_cell172 : jm_C := (0, [0, 0, 0, 0, 0, 0, 0, 0])
def g_cell173 : jm_C := (14, [0, -1, -1, 0, 0, 0, 174, 175, 176, 177, 178, 179, 180, 181])
def g_cell174 : jm_C := (0, [0, 0, 0, 0, 0, 0, 0, 0])
def g_cell175 : jm_C := (0, [-1, -1, -1, -1, -1, -1, -1, -1])
def g_cell176 : jm_C := (0, [-1, -1, -1, -1, -1, -1])
def g_cell177 : jm_C := (0, [0, 0, 0, 0, 0, 0])
def g_cell178 : jm_C := (0, List.replicate 36 (0))
def g_cell179 : jm_C := (0, [0, 0, 0, 0, 0, 0])
def g_cell180 : jm_C := (0, [0, 0, 0, 0, 0, 0])
def g_cell181 : jm_C := (0, [0, 0, 0, 0, 0, 0, 0, 0])
def g_cell182 : jm_C := (17, [1, 31, 43])
def g_cell183 : jm_C := (18, [1, 5, 184, 185, 186, 0, 0])
def g_cell184 : jm_C := (0, List.replicate 40 (0))
def g_cell185 : jm_C := (0, List.replicate 40 (0))
def g_cell186 : jm_C := (0, List.replicate 40 (0))
def g_cell187 : jm_C := (19, [5, 17, 43])
def g_cell188 : jm_C := (20, [0])
def g_cell189 : jm_C := (21, [190, 0])
def g_cell190 : jm_C := (1, List.replicate 32 (0))
def g_cell191 : jm_C := (0, [-1, -1, -1, -1])
def g_cell192 : jm_C := (22, [0, 193, 0, 0, 0, 0, 194, 195, 196, 197, 198, 0, 0, 0, 0, 0, 0, 0, 0, 0, 199, 200, 0, 0, 0, 0, 0, 201, 0, 0, 0, 202, 0, 203, 0, 0, 0, 0, 0, 204, 205, 206, 207])
def g_cell193 : jm_C := (1, List.replicate 940 (0))
def g_cell194 : jm_C := (0, List.replicate 361 (0))
def g_cell195 : jm_C := (0, List.replicate 99 (0))
def g_cell196 : jm_C := (0, List.replicate 135 (0))
def g_cell197 : jm_C := (2, List.replicate 66 (0))
def g_cell198 : jm_C := (2, [1919512167, 1936023924, 2003792484, 491394458994, 1935767923, 7102839, 427020088168, 120325478970483, 27422272703198323, 119182682386035, 33610324346432613, 1953063787, 28530, 6385252, 7237492, 30064, 1836414053, 119165820433268, 28526, 461414299507, 1935763812, 1919904876, 121450625394034])
def g_cell199 : jm_C := (0, List.replicate 648 (0))
def g_cell200 : jm_C := (0, List.replicate 81 (0))
def g_cell201 : jm_C := (1, List.replicate 48 (0))
def g_cell202 : jm_C := (0, [0, 0, 0, 0])
def g_cell203 : jm_C := (0, List.replicate 45 (0))
def g_cell204 : jm_C := (3, List.replicate 45 (0))
def g_cell205 : jm_C := (0, List.replicate 722 (0))
def g_cell206 : jm_C := (2, List.replicate 66 (0))
def g_cell207 : jm_C := (3, [0, 0])
def g_cell208 : jm_C := (2, [0])
def g_A0 : List jm_C := [g_cell0, g_cell1, g_cell2, g_cell3, g_cell4, g_cell5, g_cell6, g_cell7, g_cell8, g_cell9, g_cell10, g_cell11, g_cell12, g_cell13, g_cell14, g_cell15, g_cell16, g_cell17, g_cell18, g_cell19, g_cell20, g_cell21, g_cell22, g_cell23, g_cell24, g_cell25, g_cell26, g_cell27, g_cell28, g_cell29, g_cell30, g_cell31, g_cell32, g_cell33, g_cell34, g_cell35, g_cell36, g_cell37, g_cell38, g_cell39, g_cell40, g_cell41, g_cell42, g_cell43, g_cell44, g_cell45, g_cell46, g_cell47, g_cell48, g_cell49, g_cell50, g_cell51, g_cell52, g_cell53, g_cell54, g_cell55, g_cell56, g_cell57, g_cell58, g_cell59, g_cell60, g_cell61, g_cell62, g_cell63, g_cell64, g_cell65, g_cell66, g_cell67, g_cell68, g_cell69, g_cell70, g_cell71, g_cell72, g_cell73, g_cell74, g_cell75, g_cell76, g_cell77, g_cell78, g_cell79, g_cell80, g_cell81, g_cell82, g_cell83, g_cell84, g_cell85, g_cell86, g_cell87, g_cell88, g_cell89, g_cell90, g_cell91, g_cell92, g_cell93, g_cell94, g_cell95, g_cell96, g_cell97, g_cell98, g_cell99, g_cell100, g_cell101, g_cell102, g_cell103, g_cell104, g_cell105, g_cell106, g_cell107, g_cell108, g_cell109, g_cell110, g_cell111, g_cell112, g_cell113, g_cell114, g_cell115, g_cell116, g_cell117, g_cell118, g_cell119, g_cell120, g_cell121, g_cell122, g_cell123, g_cell124, g_cell125, g_cell126, g_cell127, g_cell128, g_cell129, g_cell130, g_cell131, g_cell132, g_cell133, g_cell134, g_cell135, g_cell136, g_cell137, g_cell138, g_cell139, g_cell140, g_cell141, g_cell142, g_cell143, g_cell144, g_cell145, g_cell146, g_cell147, g_cell148, g_cell149, g_cell150, g_cell151, g_cell152, g_cell153, g_cell154, g_cell155, g_cell156, g_cell157, g_cell158, g_cell159, g_cell160, g_cell161, g_cell162, g_cell163, g_cell164, g_cell165, g_cell166, g_cell167, g_cell168, g_cell169, g_cell170, g_cell171, g_cell172, g_cell173, g_cell174, g_cell175, g_cell176, g_cell177, g_cell178, g_cell179, g_cell180, g_cell181, g_cell182, g_cell183, g_cell184, g_cell185, g_cell186, g_cell187, g_cell188, g_cell189, g_cell190, g_cell191, g_cell192, g_cell193, g_cell194, g_cell195, g_cell196, g_cell197, g_cell198, g_cell199, g_cell200, g_cell201, g_cell202, g_cell203, g_cell204, g_cell205, g_cell206, g_cell207, g_cell208]
def g_AU : List jm_C := [(1015, []), (1011, []), (1940, []), (1023, []), (1004, []), (1011, []), (1005, []), (1040, []), (1003, []), (1003, []), (1008, []), (1008, []), (1008, []), (1008, []), (1008, []), (1008, []), (1064, []), (1014, []), (1008, []), (1008, []), (1006, []), (1006, []), (1036, []), (1006, []), (1006, []), (1008, []), (1006, []), (1040, []), (1040, []), (1040, []), (1004, []), (1011, []), (1005, []), (1040, []), (1003, []), (1003, []), (1008, []), (1008, []), (1008, []), (1008, []), (1008, []), (1008, []), (1064, []), (1014, []), (1008, []), (1008, []), (1006, []), (1006, []), (1036, []), (1006, []), (1006, []), (1008, []), (1006, []), (1040, []), (1040, []), (1040, []), (1004, []), (1011, []), (1005, []), (1040, []), (1003, []), (1003, []), (1008, []), (1008, []), (1008, []), (1008, []), (1008, []), (1008, []), (1064, []), (1014, []), (1008, []), (1008, []), (1006, []), (1006, []), (1036, []), (1006, []), (1006, []), (1008, []), (1006, []), (1040, []), (1040, []), (1040, []), (1004, []), (1011, []), (1005, []), (1040, []), (1003, []), (1003, []), (1008, []), (1008, []), (1008, []), (1008, []), (1008, []), (1008, []), (1064, []), (1014, []), (1008, []), (1008, []), (1006, []), (1006, []), (1036, []), (1006, []), (1006, []), (1008, []), (1006, []), (1040, []), (1040, []), (1040, []), (1002, []), (1008, []), (1014, []), (1008, []), (1008, []), (1006, []), (1006, []), (1036, []), (1006, []), (1006, []), (1008, []), (1014, []), (1008, []), (1008, []), (1006, []), (1006, []), (1036, []), (1006, []), (1006, []), (1008, []), (1014, []), (1008, []), (1008, []), (1006, []), (1006, []), (1036, []), (1006, []), (1006, []), (1008, []), (1014, []), (1008, []), (1008, []), (1006, []), (1006, []), (1036, []), (1006, []), (1006, []), (1008, []), (1014, []), (1008, []), (1008, []), (1006, []), (1006, []), (1036, []), (1006, []), (1006, []), (1008, []), (1014, []), (1008, []), (1008, []), (1006, []), (1006, []), (1036, []), (1006, []), (1006, []), (1008, []), (1014, []), (1008, []), (1008, []), (1006, []), (1006, []), (1036, []), (1006, []), (1006, []), (1008, []), (1014, []), (1008, []), (1008, []), (1006, []), (1006, []), (1036, []), (1006, []), (1006, []), (1008, []), (1003, []), (1007, []), (1040, []), (1040, []), (1040, []), (1003, []), (1001, []), (1002, []), (1032, []), (1004, []), (1043, []), (1940, []), (1361, []), (1099, []), (1135, []), (1066, []), (1023, []), (1648, []), (1081, []), (1048, []), (1004, []), (1045, []), (1045, []), (1722, []), (1066, []), (1002, []), (1001, [])]
def g_L0 : jm_L := [(3, (2, 208)), (2, (2, 192)), (1, (2, 0)), (0, (4, 2))]
theorem jm_ctor1 : jm_exec [] 200000 99 0 0 [(0, (2, 0))] [] ([(10, jm_def 0)], 0) = some (none, (g_A0.take 192, 0)) := by decide +kernel
theorem jm_ctor2 : jm_exec [] 200000 99 172 0 [(0, (2, 192))] [] (g_A0.take 192 ++ [(22, jm_def 12)], 0) = some (none, (g_A0.take 208, 0)) := by decide +kernel
theorem g_A0_k : g_A0.all (fun c => decide (c.1 < 1000)) = true := by decide +kernel
end
section
/-! the one call on fresh objects, case by case: the boxes of its first argument, and that the law comes to 1 -/
def g_bx (c : Nat) : List (Int × Int) := match c with
  | 1 => [(-2147483648, -1), (0, 0), (1, 2147483647)]
  | 4 => [(-2147483648, -1), (0, 2147483647)]
  | 5 => [(-2147483648, -1), (0, 2147483647)]
  | 6 => [(-2147483648, -1), (0, 2147483647)]
  | 7 => [(-2147483648, -1), (0, 2147483647)]
  | 8 => [(-2147483648, -1), (0, 0), (1, 1), (2, 2), (3, 3), (4, 4), (5, 5), (6, 6), (7, 7), (8, 2147483647)]
  | 9 => [(-2147483648, -1), (0, 2147483647)]
  | 10 => [(-2147483648, -1), (0, 2147483647)]
  | 11 => [(-2147483648, -1), (0, 2147483647)]
  | 13 => [(-2147483648, 0), (1, 60), (61, 2147483647)]
  | 15 => [(-2147483648, -1), (0, 2147483647)]
  | 16 => [(-2147483648, -1), (0, 2147483647)]
  | 17 => [(-2147483648, -1), (0, 2147483647)]
  | 18 => [(-2147483648, -1), (0, 2147483647)]
  | 20 => [(-2147483648, -1), (0, 2147483647)]
  | 21 => [(-2147483648, -1), (0, 2147483647)]
  | 25 => [(-2147483648, -1), (0, 2147483647)]
  | 27 => [(-2147483648, -1), (0, 2147483647)]
  | 28 => [(-2147483648, -1), (0, 2147483647)]
  | 29 => [(-2147483648, 0), (1, 60), (61, 2147483647)]
  | 30 => [(-2147483648, -1), (0, 2147483647)]
  | 31 => [(-2147483648, -1), (0, 0), (1, 1), (2, 2147483647)]
  | 32 => [(-2147483648, -1), (0, 0), (1, 1), (2, 2), (3, 3), (4, 2147483647)]
  | 35 => [(-2147483648, -1), (0, 0), (1, 1), (2, 2147483647)]
  | 36 => [(-2147483648, -1), (0, 0), (1, 1), (2, 2147483647)]
  | 37 => [(-2147483648, -1), (0, 0), (1, 1), (2, 2), (3, 3), (4, 4), (5, 5), (6, 2147483647)]
  | _ => [ax_top]
def g_cov : Int → List (Int × Int) → Bool
  | lo, [] => decide (2147483647 < lo)
  | lo, q :: r => decide (q.1 ≤ lo) && g_cov (q.2 + 1) r
theorem g_cov_ok : ∀ (l : List (Int × Int)) (lo z : Int), g_cov lo l = true → lo ≤ z → z ≤ 2147483647 → ∃ q ∈ l, q.1 ≤ z ∧ z ≤ q.2
  | [], lo, z, h, h1, h2 => by
    have := of_decide_eq_true h
    omega
  | q :: r, lo, z, h, h1, h2 => by
    obtain ⟨h3, h4⟩ := Bool.and_eq_true_iff.mp h
    have h3 := of_decide_eq_true h3
    by_cases hz : z ≤ q.2
    · exact ⟨q, List.mem_cons_self, by omega, hz⟩
    · obtain ⟨q', hq, hz'⟩ := g_cov_ok r (q.2 + 1) z h4 (by omega) h2
      exact ⟨q', List.mem_cons_of_mem _ hq, hz'⟩
theorem g_cov_t : (List.range 64).all (fun c => g_cov (-2147483648) (g_bx c)) = true := by decide +kernel
def g_bxs (c : Nat) (q : Int × Int) : ax_B := [ax_top, q, ax_top, ax_top, ax_top, ax_top, ((c : Int), (c : Int))]
def g_thr (c : Nat) : Nat := if c = 4 ∨ c = 21 ∨ c = 25 then 1 else 0
def g_sk (c : Nat) (q : Int × Int) : Bool := ((decide (c = 13) || decide (c = 29)) && decide (q = (1, 60))) || (decide (c = 2) || (decide (c = 35) && (decide (q = (0, 0)) || decide (q = (1, 1)))))
def g_ev (c : Nat) : Bool := (g_bx c).all (fun q => g_sk c q || ax_fin (g_bxs c q) [] 30000 100 277 20 g_L0 [] (g_A0, 0) (some (0, 1)) (g_AU, g_thr c))
theorem g_ev_0 : (List.range 2).all (fun k => g_ev (0 + k)) = true := by decide +kernel
theorem g_ev_2 : (List.range 1).all (fun k => g_ev (2 + k)) = true := by decide +kernel
theorem g_ev_3 : (List.range 10).all (fun k => g_ev (3 + k)) = true := by decide +kernel
theorem g_ev_13 : (List.range 11).all (fun k => g_ev (13 + k)) = true := by decide +kernel
theorem g_ev_24 : (List.range 7).all (fun k => g_ev (24 + k)) = true := by decide +kernel
theorem g_ev_31 : (List.range 1).all (fun k => g_ev (31 + k)) = true := by decide +kernel
theorem g_ev_32 : (List.range 3).all (fun k => g_ev (32 + k)) = true := by decide +kernel
theorem g_ev_35 : (List.range 1).all (fun k => g_ev (35 + k)) = true := by decide +kernel
theorem g_ev_36 : (List.range 28).all (fun k => g_ev (36 + k)) = true := by decide +kernel
theorem g_ev_of {c : Nat} (h : c < 64) : g_ev c = true := by
  by_cases h_0 : c < 2
  · have := List.all_eq_true.mp g_ev_0 (c - 0) (List.mem_range.mpr (by omega))
    rwa [show 0 + (c - 0) = c by omega] at this
  by_cases h_2 : c < 3
  · have := List.all_eq_true.mp g_ev_2 (c - 2) (List.mem_range.mpr (by omega))
    rwa [show 2 + (c - 2) = c by omega] at this
  by_cases h_3 : c < 13
  · have := List.all_eq_true.mp g_ev_3 (c - 3) (List.mem_range.mpr (by omega))
    rwa [show 3 + (c - 3) = c by omega] at this
  by_cases h_13 : c < 24
  · have := List.all_eq_true.mp g_ev_13 (c - 13) (List.mem_range.mpr (by omega))
    rwa [show 13 + (c - 13) = c by omega] at this
  by_cases h_24 : c < 31
  · have := List.all_eq_true.mp g_ev_24 (c - 24) (List.mem_range.mpr (by omega))
    rwa [show 24 + (c - 24) = c by omega] at this
  by_cases h_31 : c < 32
  · have := List.all_eq_true.mp g_ev_31 (c - 31) (List.mem_range.mpr (by omega))
    rwa [show 31 + (c - 31) = c by omega] at this
  by_cases h_32 : c < 35
  · have := List.all_eq_true.mp g_ev_32 (c - 32) (List.mem_range.mpr (by omega))
    rwa [show 32 + (c - 32) = c by omega] at this
  by_cases h_35 : c < 36
  · have := List.all_eq_true.mp g_ev_35 (c - 35) (List.mem_range.mpr (by omega))
    rwa [show 35 + (c - 35) = c by omega] at this
  have := List.all_eq_true.mp g_ev_36 (c - 36) (List.mem_range.mpr (by omega))
  rwa [show 36 + (c - 36) = c by omega] at this
end
section
/-! ticks and drawn: the loops -/
def g_jn : List (Nat × Nat × Nat) := [(127, 33, 67), (127, 70, 117), (127, 120, 134), (257, 8, 97), (257, 99, 156), (257, 158, 172)]
def g_b1 (lo hi : Int) : ax_B := [ax_top, (lo, hi)]
def g_WT (i : Int) : List jm_C := [g_cell0, (1011, []), (1940, []), (1023, []), g_cell4, g_cell5, g_cell6, (1040, []), (1003, []), (1003, []), (1008, []), (1008, []), (1008, []), (1008, []), (1008, []), (1008, []), (1064, []), (14, [i] ++ [-1, -1, 0, 0, 0, 18, 19, 20, 21, 22, 23, 24, 25]), (1008, []), (1008, []), (1006, []), (1006, []), (1036, []), (1006, []), (1006, []), (1008, []), (1006, []), (1040, []), (1040, []), (1040, []), (1004, []), (1011, []), (1005, []), (1040, []), (1003, []), (1003, []), (1008, []), (1008, []), (1008, []), (1008, []), (1008, []), (1008, []), (1064, []), (1014, []), (1008, []), (1008, []), (1006, []), (1006, []), (1036, []), (1006, []), (1006, []), (1008, []), (1006, []), (1040, []), (1040, []), (1040, []), (1004, []), (1011, []), (1005, []), (1040, []), (1003, []), (1003, []), (1008, []), (1008, []), (1008, []), (1008, []), (1008, []), (1008, []), (1064, []), (1014, []), (1008, []), (1008, []), (1006, []), (1006, []), (1036, []), (1006, []), (1006, []), (1008, []), (1006, []), (1040, []), (1040, []), (1040, []), (1004, []), (1011, []), (1005, []), (1040, []), (1003, []), (1003, []), (1008, []), (1008, []), (1008, []), (1008, []), (1008, []), (1008, []), (1064, []), (1014, []), (1008, []), (1008, []), (1006, []), (1006, []), (1036, []), (1006, []), (1006, []), (1008, []), (1006, []), (1040, []), (1040, []), (1040, []), (1002, []), (1008, []), (1014, []), (1008, []), (1008, []), (1006, []), (1006, []), (1036, []), (1006, []), (1006, []), (1008, []), (1014, []), (1008, []), (1008, []), (1006, []), (1006, []), (1036, []), (1006, []), (1006, []), (1008, []), (1014, []), (1008, []), (1008, []), (1006, []), (1006, []), (1036, []), (1006, []), (1006, []), (1008, []), (1014, []), (1008, []), (1008, []), (1006, []), (1006, []), (1036, []), (1006, []), (1006, []), (1008, []), (1014, []), (1008, []), (1008, []), (1006, []), (1006, []), (1036, []), (1006, []), (1006, []), (1008, []), (1014, []), (1008, []), (1008, []), (1006, []), (1006, []), (1036, []), (1006, []), (1006, []), (1008, []), (1014, []), (1008, []), (1008, []), (1006, []), (1006, []), (1036, []), (1006, []), (1006, []), (1008, []), (1014, []), (1008, []), (1008, []), (1006, []), (1006, []), (1036, []), (1006, []), (1006, []), (1008, []), (1003, []), (1007, []), (1040, []), (1040, []), (1040, []), (1003, []), (1001, []), (1002, []), (1032, []), (1004, []), g_cell192, g_cell193, g_cell194, g_cell195, g_cell196, g_cell197, g_cell198, g_cell199, g_cell200, g_cell201, g_cell202, g_cell203, g_cell204, g_cell205, g_cell206, g_cell207, g_cell208]
def g_WD (i : Int) : List jm_C := [g_cell0, (1011, []), (1940, []), (1023, []), g_cell4, g_cell5, g_cell6, (1040, []), (1003, []), (1003, []), (1008, []), (1008, []), (1008, []), (1008, []), (1008, []), (1008, []), (1064, []), (14, [i] ++ [-1, -1, 0, 0, 0, 18, 19, 20, 21, 22, 23, 24, 25]), (1008, []), (1008, []), (1006, []), (1006, []), (1036, []), (1006, []), (1006, []), (1008, []), (1006, []), (1040, []), (1040, []), (1040, []), (1004, []), (1011, []), (1005, []), (1040, []), (1003, []), (1003, []), (1008, []), (1008, []), (1008, []), (1008, []), (1008, []), (1008, []), (1064, []), (1014, []), (1008, []), (1008, []), (1006, []), (1006, []), (1036, []), (1006, []), (1006, []), (1008, []), (1006, []), (1040, []), (1040, []), (1040, []), (1004, []), (1011, []), (1005, []), (1040, []), (1003, []), (1003, []), (1008, []), (1008, []), (1008, []), (1008, []), (1008, []), (1008, []), (1064, []), (1014, []), (1008, []), (1008, []), (1006, []), (1006, []), (1036, []), (1006, []), (1006, []), (1008, []), (1006, []), (1040, []), (1040, []), (1040, []), (1004, []), (1011, []), (1005, []), (1040, []), (1003, []), (1003, []), (1008, []), (1008, []), (1008, []), (1008, []), (1008, []), (1008, []), (1064, []), (1014, []), (1008, []), (1008, []), (1006, []), (1006, []), (1036, []), (1006, []), (1006, []), (1008, []), (1006, []), (1040, []), (1040, []), (1040, []), (1002, []), (1008, []), (1014, []), (1008, []), (1008, []), (1006, []), (1006, []), (1036, []), (1006, []), (1006, []), (1008, []), (1014, []), (1008, []), (1008, []), (1006, []), (1006, []), (1036, []), (1006, []), (1006, []), (1008, []), (1014, []), (1008, []), (1008, []), (1006, []), (1006, []), (1036, []), (1006, []), (1006, []), (1008, []), (1014, []), (1008, []), (1008, []), (1006, []), (1006, []), (1036, []), (1006, []), (1006, []), (1008, []), (1014, []), (1008, []), (1008, []), (1006, []), (1006, []), (1036, []), (1006, []), (1006, []), (1008, []), (1014, []), (1008, []), (1008, []), (1006, []), (1006, []), (1036, []), (1006, []), (1006, []), (1008, []), (1014, []), (1008, []), (1008, []), (1006, []), (1006, []), (1036, []), (1006, []), (1006, []), (1008, []), (1014, []), (1008, []), (1008, []), (1006, []), (1006, []), (1036, []), (1006, []), (1006, []), (1008, []), (1003, []), (1007, []), (1040, []), (1040, []), (1040, []), (1003, []), (20, [1208925819614629174706176]), (1002, []), (1032, []), (1004, []), g_cell192, g_cell193, g_cell194, g_cell195, g_cell196, g_cell197, g_cell198, g_cell199, g_cell200, g_cell201, g_cell202, g_cell203, g_cell204, g_cell205, g_cell206, g_cell207, g_cell208]
def g_AT : List jm_C := [(1015, []), (1011, []), (1940, []), (1023, []), (1004, []), (1011, []), (1005, []), (1040, []), (1003, []), (1003, []), (1008, []), (1008, []), (1008, []), (1008, []), (1008, []), (1008, []), (1064, []), (1014, []), (1008, []), (1008, []), (1006, []), (1006, []), (1036, []), (1006, []), (1006, []), (1008, []), (1006, []), (1040, []), (1040, []), (1040, []), (1004, []), (1011, []), (1005, []), (1040, []), (1003, []), (1003, []), (1008, []), (1008, []), (1008, []), (1008, []), (1008, []), (1008, []), (1064, []), (1014, []), (1008, []), (1008, []), (1006, []), (1006, []), (1036, []), (1006, []), (1006, []), (1008, []), (1006, []), (1040, []), (1040, []), (1040, []), (1004, []), (1011, []), (1005, []), (1040, []), (1003, []), (1003, []), (1008, []), (1008, []), (1008, []), (1008, []), (1008, []), (1008, []), (1064, []), (1014, []), (1008, []), (1008, []), (1006, []), (1006, []), (1036, []), (1006, []), (1006, []), (1008, []), (1006, []), (1040, []), (1040, []), (1040, []), (1004, []), (1011, []), (1005, []), (1040, []), (1003, []), (1003, []), (1008, []), (1008, []), (1008, []), (1008, []), (1008, []), (1008, []), (1064, []), (1014, []), (1008, []), (1008, []), (1006, []), (1006, []), (1036, []), (1006, []), (1006, []), (1008, []), (1006, []), (1040, []), (1040, []), (1040, []), (1002, []), (1008, []), (1014, []), (1008, []), (1008, []), (1006, []), (1006, []), (1036, []), (1006, []), (1006, []), (1008, []), (1014, []), (1008, []), (1008, []), (1006, []), (1006, []), (1036, []), (1006, []), (1006, []), (1008, []), (1014, []), (1008, []), (1008, []), (1006, []), (1006, []), (1036, []), (1006, []), (1006, []), (1008, []), (1014, []), (1008, []), (1008, []), (1006, []), (1006, []), (1036, []), (1006, []), (1006, []), (1008, []), (1014, []), (1008, []), (1008, []), (1006, []), (1006, []), (1036, []), (1006, []), (1006, []), (1008, []), (1014, []), (1008, []), (1008, []), (1006, []), (1006, []), (1036, []), (1006, []), (1006, []), (1008, []), (1014, []), (1008, []), (1008, []), (1006, []), (1006, []), (1036, []), (1006, []), (1006, []), (1008, []), (1014, []), (1008, []), (1008, []), (1006, []), (1006, []), (1036, []), (1006, []), (1006, []), (1008, []), (1003, []), (1007, []), (1040, []), (1040, []), (1040, []), (1003, []), (1001, []), (1002, []), (1032, []), (1004, []), g_cell192, g_cell193, g_cell194, g_cell195, g_cell196, g_cell197, g_cell198, g_cell199, g_cell200, g_cell201, g_cell202, g_cell203, g_cell204, g_cell205, g_cell206, g_cell207, g_cell208]
def g_WG (i : Int) : List jm_C := [(1015, []), (1011, []), (1940, []), (1023, []), (1004, []), (1011, []), (1005, []), (1040, []), (1003, []), (1003, []), (1008, []), (1008, []), (1008, []), (1008, []), (1008, []), (1008, []), (1064, []), (1014, []), (1008, []), (1008, []), (1006, []), (1006, []), (1036, []), (1006, []), (1006, []), (1008, []), (1006, []), (1040, []), (1040, []), (1040, []), (1004, []), (1011, []), (1005, []), (1040, []), (1003, []), (1003, []), (1008, []), (1008, []), (1008, []), (1008, []), (1008, []), (1008, []), (1064, []), (1014, []), (1008, []), (1008, []), (1006, []), (1006, []), (1036, []), (1006, []), (1006, []), (1008, []), (1006, []), (1040, []), (1040, []), (1040, []), (1004, []), (1011, []), (1005, []), (1040, []), (1003, []), (1003, []), (1008, []), (1008, []), (1008, []), (1008, []), (1008, []), (1008, []), (1064, []), (1014, []), (1008, []), (1008, []), (1006, []), (1006, []), (1036, []), (1006, []), (1006, []), (1008, []), (1006, []), (1040, []), (1040, []), (1040, []), (1004, []), (1011, []), (1005, []), (1040, []), (1003, []), (1003, []), (1008, []), (1008, []), (1008, []), (1008, []), (1008, []), (1008, []), (1064, []), (1014, []), (1008, []), (1008, []), (1006, []), (1006, []), (1036, []), (1006, []), (1006, []), (1008, []), (1006, []), (1040, []), (1040, []), (1040, []), (1002, []), (1008, []), (1014, []), (1008, []), (1008, []), (1006, []), (1006, []), (1036, []), (1006, []), (1006, []), (1008, []), (1014, []), (1008, []), (1008, []), (1006, []), (1006, []), (1036, []), (1006, []), (1006, []), (1008, []), (1014, []), (1008, []), (1008, []), (1006, []), (1006, []), (1036, []), (1006, []), (1006, []), (1008, []), (1014, []), (1008, []), (1008, []), (1006, []), (1006, []), (1036, []), (1006, []), (1006, []), (1008, []), (1014, []), (1008, []), (1008, []), (1006, []), (1006, []), (1036, []), (1006, []), (1006, []), (1008, []), (1014, []), (1008, []), (1008, []), (1006, []), (1006, []), (1036, []), (1006, []), (1006, []), (1008, []), (1014, []), (1008, []), (1008, []), (1006, []), (1006, []), (1036, []), (1006, []), (1006, []), (1008, []), (1014, []), (1008, []), (1008, []), (1006, []), (1006, []), (1036, []), (1006, []), (1006, []), (1008, []), (1003, []), (1007, []), (1040, []), (1040, []), (1040, []), (1003, []), (1001, []), (1002, []), (1032, []), (1004, []), (22, [0, 193, 0, 0, 0, 0, 194, 195, 196, 197, 198, 0, 0, 0, 0, 0, 0, 0, 0, 0, 199, 200, 1, 0, 0, 0, 0, 201, 0, 0, 0, 202, 0, 203, 0, 0, 0, 0, 0, 204, 205, 206, 207]), (1940, []), (0, List.replicate 99 (0) ++ [i] ++ List.replicate 261 (0)), (1099, []), (1135, []), (1066, []), (1023, []), (1648, []), (1081, []), (1048, []), (1004, []), (1045, []), (1045, []), (1722, []), (1066, []), (1002, []), (1001, [])]
def g_WE (i : Int) : List jm_C := [(1015, []), (1011, []), (1940, []), (1023, []), (1004, []), (1011, []), (1005, []), (1040, []), (1003, []), (1003, []), (1008, []), (1008, []), (1008, []), (1008, []), (1008, []), (1008, []), (1064, []), (1014, []), (1008, []), (1008, []), (1006, []), (1006, []), (1036, []), (1006, []), (1006, []), (1008, []), (1006, []), (1040, []), (1040, []), (1040, []), (1004, []), (1011, []), (1005, []), (1040, []), (1003, []), (1003, []), (1008, []), (1008, []), (1008, []), (1008, []), (1008, []), (1008, []), (1064, []), (1014, []), (1008, []), (1008, []), (1006, []), (1006, []), (1036, []), (1006, []), (1006, []), (1008, []), (1006, []), (1040, []), (1040, []), (1040, []), (1004, []), (1011, []), (1005, []), (1040, []), (1003, []), (1003, []), (1008, []), (1008, []), (1008, []), (1008, []), (1008, []), (1008, []), (1064, []), (1014, []), (1008, []), (1008, []), (1006, []), (1006, []), (1036, []), (1006, []), (1006, []), (1008, []), (1006, []), (1040, []), (1040, []), (1040, []), (1004, []), (1011, []), (1005, []), (1040, []), (1003, []), (1003, []), (1008, []), (1008, []), (1008, []), (1008, []), (1008, []), (1008, []), (1064, []), (1014, []), (1008, []), (1008, []), (1006, []), (1006, []), (1036, []), (1006, []), (1006, []), (1008, []), (1006, []), (1040, []), (1040, []), (1040, []), (1002, []), (1008, []), (1014, []), (1008, []), (1008, []), (1006, []), (1006, []), (1036, []), (1006, []), (1006, []), (1008, []), (1014, []), (1008, []), (1008, []), (1006, []), (1006, []), (1036, []), (1006, []), (1006, []), (1008, []), (1014, []), (1008, []), (1008, []), (1006, []), (1006, []), (1036, []), (1006, []), (1006, []), (1008, []), (1014, []), (1008, []), (1008, []), (1006, []), (1006, []), (1036, []), (1006, []), (1006, []), (1008, []), (1014, []), (1008, []), (1008, []), (1006, []), (1006, []), (1036, []), (1006, []), (1006, []), (1008, []), (1014, []), (1008, []), (1008, []), (1006, []), (1006, []), (1036, []), (1006, []), (1006, []), (1008, []), (1014, []), (1008, []), (1008, []), (1006, []), (1006, []), (1036, []), (1006, []), (1006, []), (1008, []), (1014, []), (1008, []), (1008, []), (1006, []), (1006, []), (1036, []), (1006, []), (1006, []), (1008, []), (1003, []), (1007, []), (1040, []), (1040, []), (1040, []), (1003, []), (1001, []), (1002, []), (1032, []), (1004, []), (22, [0, 193, 0, 0, 0, 0, 194, 195, 196, 197, 198, 0, 0, 0, 0, 0, 0, 0, 0, 0, 199, 200, 1, 0, 0, 0, 0, 201, 0, 1208925819614629174706176, 0, 202, 0, 203, 0, 0, 0, 0, 0, 204, 205, 206, 207]), (1940, []), (0, List.replicate 99 (0) ++ [i] ++ List.replicate 261 (0)), (1099, []), (1135, []), (1066, []), (1023, []), (1648, []), (1081, []), (1048, []), (1004, []), (1045, []), (1045, []), (1722, []), (1066, []), (1002, []), (1001, [])]
/-- the facts on the script that all boxes rest on -/
def ax_H0 (σ : Nat → Int) (sc : List Int) : Prop := sc.length = 6 ∧ (∀ n : Nat, n < 6 → sc.getD n 0 = σ n) ∧ (∀ n : Nat, n < 7 → jm_n (σ n) = σ n) ∧ jm_bin 3 (σ 0) 63 = some (σ 6)
theorem ax_H_b1 {σ : Nat → Int} {sc : List Int} (h0 : ax_H0 σ sc) {lo hi : Int} (h1 : lo ≤ σ 1) (h2 : σ 1 ≤ hi) : ax_H (g_b1 lo hi) σ sc := by
  refine ⟨fun k => ?_, h0⟩
  have h3 := h0.2.2.1 1 (by decide)
  match k with
  | 0 => exact ax_rng _
  | 1 => rw [h3]; exact ⟨h1, h2⟩
  | k + 2 => exact ax_rng _
theorem ax_H_bxs {σ : Nat → Int} {sc : List Int} (h0 : ax_H0 σ sc) {c : Nat} {q : Int × Int} (h1 : q.1 ≤ σ 1) (h2 : σ 1 ≤ q.2) (h6 : σ 6 = (c : Int)) : ax_H (g_bxs c q) σ sc := by
  refine ⟨fun k => ?_, h0⟩
  have h3 := h0.2.2.1 1 (by decide)
  have h4 := h0.2.2.1 6 (by decide)
  match k with
  | 0 => exact ax_rng _
  | 1 => rw [h3]; exact ⟨h1, h2⟩
  | 2 => exact ax_rng _
  | 3 => exact ax_rng _
  | 4 => exact ax_rng _
  | 5 => exact ax_rng _
  | 6 => rw [h4, h6]; exact ⟨Int.le_refl _, Int.le_refl _⟩
  | k + 7 => exact ax_rng _
def g_LT (i : Nat) : jm_L := [(3, (0, (i : Int))), (2, (21, 0)), (0, (2, 0)), (1, (21, 0))]
def g_LD (i : Nat) : jm_L := [(4, (0, (i : Int))), (3, (21, 0)), (0, (2, 0)), (1, (21, 0)), (2, (22, 0))]
def g_LG (i : Nat) : jm_L := [(2, (0, (i : Int))), (0, (2, 192)), (1, (21, 0))]
def g_LE (i : Nat) : jm_L := [(3, (0, (i : Int))), (0, (2, 192)), (1, (21, 0)), (2, (22, 0))]
theorem g_T1 : ax_seg (g_b1 1 60) g_jn 3000 48 99 89 0 [(0, (2, 0)), (1, (21, 0))] [] (g_A0, 0) (g_LT 0) [] (g_WT ((0 : Nat) : Int), 0) = true := by decide +kernel
theorem g_T2 : (List.range 60).all (fun i => ax_seg (g_b1 (i + 1) 60) g_jn 3000 48 99 89 48 (g_LT i) [] (g_WT (i : Int), 0) (g_LT (i + 1)) [] (g_WT ((i + 1 : Nat) : Int), 0)) = true := by decide +kernel
theorem g_T3 : (List.range 61).all (fun i => ax_fin (g_b1 i i) g_jn 3000 99 89 48 (g_LT i) [] (g_WT (i : Int), 0) (some (21, 0)) (g_AT, 0)) = true := by decide +kernel
theorem g_D1 : ax_seg (g_b1 1 60) g_jn 3000 57 99 126 0 [(0, (2, 0)), (1, (21, 0)), (2, (22, 0))] [] (g_A0, 0) (g_LD 0) [] (g_WD ((0 : Nat) : Int), 0) = true := by decide +kernel
theorem g_D2 : (List.range 60).all (fun i => ax_seg (g_b1 (i + 1) 60) g_jn 3000 57 99 126 57 (g_LD i) [] (g_WD (i : Int), 0) (g_LD (i + 1)) [] (g_WD ((i + 1 : Nat) : Int), 0)) = true := by decide +kernel
theorem g_D3 : (List.range 61).all (fun i => ax_fin (g_b1 i i) g_jn 3000 99 126 57 (g_LD i) [] (g_WD (i : Int), 0) (some (21, 0)) (g_AT, 0)) = true := by decide +kernel
theorem g_G0 : ax_seg (g_b1 1 60) g_jn 3000 38 99 225 0 [(0, (2, 192)), (1, (21, 0))] [] (g_AT, 0) [(0, (2, 192)), (1, (21, 0))] [(21, 0), (2, 192)] (g_WG ((0 : Nat) : Int), 0) = true := by decide +kernel
theorem g_G1 : ax_seg (g_b1 1 60) g_jn 3000 2 98 226 0 [(0, (2, 192)), (1, (21, 0))] [] (g_WG ((0 : Nat) : Int), 0) (g_LG 0) [] (g_WG ((0 : Nat) : Int), 0) = true := by decide +kernel
theorem g_G2 : (List.range 60).all (fun i => ax_seg (g_b1 (i + 1) 60) g_jn 3000 2 98 226 2 (g_LG i) [] (g_WG (i : Int), 0) (g_LG (i + 1)) [] (g_WG ((i + 1 : Nat) : Int), 0)) = true := by decide +kernel
theorem g_G3 : (List.range 61).all (fun i => ax_fin (g_b1 i i) g_jn 3000 98 226 2 (g_LG i) [] (g_WG (i : Int), 0) (some (0, (i : Int))) (g_AU, 0)) = true := by decide +kernel
theorem g_E0 : ax_seg (g_b1 1 60) g_jn 3000 37 99 255 0 [(0, (2, 192)), (1, (21, 0)), (2, (22, 0))] [] (g_AT, 0) [(0, (2, 192)), (1, (21, 0)), (2, (22, 0))] [(22, 0), (21, 0), (2, 192)] (g_WG ((0 : Nat) : Int), 0) = true := by decide +kernel
theorem g_E1 : ax_seg (g_b1 1 60) g_jn 3000 7 98 256 0 [(0, (2, 192)), (1, (21, 0)), (2, (22, 0))] [] (g_WG ((0 : Nat) : Int), 0) (g_LE 0) [] (g_WE ((0 : Nat) : Int), 0) = true := by decide +kernel
theorem g_E2 : (List.range 60).all (fun i => ax_seg (g_b1 (i + 1) 60) g_jn 3000 7 98 256 7 (g_LE i) [] (g_WE (i : Int), 0) (g_LE (i + 1)) [] (g_WE ((i + 1 : Nat) : Int), 0)) = true := by decide +kernel
theorem g_E3 : (List.range 61).all (fun i => ax_fin (g_b1 i i) g_jn 3000 98 256 7 (g_LE i) [] (g_WE (i : Int), 0) (some (0, (i : Int))) (g_AU, 0)) = true := by decide +kernel
theorem g_G4 : ax_ccl 225 38 (30, 22, 226, 2) [(21, 0), (2, 192)] (g_WG ((0 : Nat) : Int), 0) = true := by decide +kernel
theorem g_G5 : ax_fin (g_b1 1 60) g_jn 5 99 225 41 [(0, (2, 192)), (1, (21, 0))] [(21, 0)] (g_AU, 0) (some (21, 0)) (g_AU, 0) = true := by decide +kernel
theorem g_E4 : ax_ccl 255 37 (30, 22, 256, 3) [(22, 0), (21, 0), (2, 192)] (g_WG ((0 : Nat) : Int), 0) = true := by decide +kernel
theorem g_E5 : ax_fin (g_b1 1 60) g_jn 5 99 255 40 [(0, (2, 192)), (1, (21, 0)), (2, (22, 0))] [(21, 0)] (g_AU, 0) (some (21, 0)) (g_AU, 0) = true := by decide +kernel
def g_L4 : jm_L := [(4, (0, 0)), (3, (2, 208)), (2, (2, 192)), (1, (2, 0)), (0, (4, 2))]
theorem g_Q1 : ax_seg (g_bxs 13 (1, 60)) g_jn 100 655 100 277 20 g_L0 [] (g_A0, 0) g_L4 [(21, 0), (2, 0)] (g_A0, 0) = true := by decide +kernel
theorem g_Q2 : ax_ccl 277 655 (30, 10, 89, 2) [(21, 0), (2, 0)] (g_A0, 0) = true := by decide +kernel
theorem g_Q3 : ax_seg (g_bxs 13 (1, 60)) g_jn 100 665 100 277 658 g_L4 [(21, 0)] (g_AT, 0) g_L4 [(21, 0), (2, 192), (21, 0)] (g_AT, 0) = true := by decide +kernel
theorem g_Q4 : ax_ccl 277 665 (30, 22, 225, 2) [(21, 0), (2, 192), (21, 0)] (g_AT, 0) = true := by decide +kernel
theorem g_Q5 : ax_fin (g_bxs 13 (1, 60)) g_jn 100 100 277 668 g_L4 [(21, 0), (21, 0)] (g_AU, 0) (some (0, 1)) (g_AU, 0) = true := by decide +kernel
theorem g_Q6 : ax_seg (g_bxs 29 (1, 60)) g_jn 100 1111 100 277 20 g_L0 [] (g_A0, 0) g_L4 [(22, 0), (21, 0), (2, 0)] (g_A0, 0) = true := by decide +kernel
theorem g_Q7 : ax_ccl 277 1111 (30, 10, 126, 3) [(22, 0), (21, 0), (2, 0)] (g_A0, 0) = true := by decide +kernel
theorem g_Q8 : ax_seg (g_bxs 29 (1, 60)) g_jn 100 1127 100 277 1114 g_L4 [(21, 0)] (g_AT, 0) g_L4 [(22, 0), (21, 0), (2, 192), (21, 0)] (g_AT, 0) = true := by decide +kernel
theorem g_Q9 : ax_ccl 277 1127 (30, 22, 255, 3) [(22, 0), (21, 0), (2, 192), (21, 0)] (g_AT, 0) = true := by decide +kernel
theorem g_Q10 : ax_fin (g_bxs 29 (1, 60)) g_jn 100 100 277 1130 g_L4 [(21, 0), (21, 0)] (g_AU, 0) (some (0, 1)) (g_AU, 0) = true := by decide +kernel
end
section
/-! ride and image: the long loops of the model -/
def g_WR : List jm_C := [(1015, []), (1011, []), (1940, []), (1023, []), (1004, []), (1011, []), (1005, []), (1040, []), (1003, []), (1003, []), (1008, []), (1008, []), (1008, []), (1008, []), (1008, []), (1008, []), (1064, []), (1014, []), (1008, []), (1008, []), (1006, []), (1006, []), (1036, []), (1006, []), (1006, []), (1008, []), (1006, []), (1040, []), (1040, []), (1040, []), (1004, []), (1011, []), (1005, []), (1040, []), (1003, []), (1003, []), (1008, []), (1008, []), (1008, []), (1008, []), (1008, []), (1008, []), (1064, []), (1014, []), (1008, []), (1008, []), (1006, []), (1006, []), (1036, []), (1006, []), (1006, []), (1008, []), (1006, []), (1040, []), (1040, []), (1040, []), (1004, []), (1011, []), (1005, []), (1040, []), (1003, []), (1003, []), (1008, []), (1008, []), (1008, []), (1008, []), (1008, []), (1008, []), (1064, []), (1014, []), (1008, []), (1008, []), (1006, []), (1006, []), (1036, []), (1006, []), (1006, []), (1008, []), (1006, []), (1040, []), (1040, []), (1040, []), (1004, []), (1011, []), (1005, []), (1040, []), (1003, []), (1003, []), (1008, []), (1008, []), (1008, []), (1008, []), (1008, []), (1008, []), (1064, []), (1014, []), (1008, []), (1008, []), (1006, []), (1006, []), (1036, []), (1006, []), (1006, []), (1008, []), (1006, []), (1040, []), (1040, []), (1040, []), (1002, []), (1008, []), (1014, []), (1008, []), (1008, []), (1006, []), (1006, []), (1036, []), (1006, []), (1006, []), (1008, []), (1014, []), (1008, []), (1008, []), (1006, []), (1006, []), (1036, []), (1006, []), (1006, []), (1008, []), (1014, []), (1008, []), (1008, []), (1006, []), (1006, []), (1036, []), (1006, []), (1006, []), (1008, []), (1014, []), (1008, []), (1008, []), (1006, []), (1006, []), (1036, []), (1006, []), (1006, []), (1008, []), (1014, []), (1008, []), (1008, []), (1006, []), (1006, []), (1036, []), (1006, []), (1006, []), (1008, []), (1014, []), (1008, []), (1008, []), (1006, []), (1006, []), (1036, []), (1006, []), (1006, []), (1008, []), (1014, []), (1008, []), (1008, []), (1006, []), (1006, []), (1036, []), (1006, []), (1006, []), (1008, []), (1014, []), (1008, []), (1008, []), (1006, []), (1006, []), (1036, []), (1006, []), (1006, []), (1008, []), (1003, []), (1007, []), (1040, []), (1040, []), (1040, []), (1003, []), (1001, []), (1002, []), (1032, []), (1004, []), (22, [0, 193, 0, 0, 0, 900, 194, 195, 196, 197, 198, 0, 0, 0, 0, 0, 0, 0, 0, 0, 199, 200, 0, 0, 0, 0, 0, 201, 0, 0, 0, 202, 0, 203, 0, 0, 0, 0, 0, 204, 205, 206, 207]), (1940, []), g_cell194, g_cell195, (1135, []), g_cell197, (1023, []), (1648, []), (1081, []), (1048, []), (1004, []), (1045, []), (1045, []), (1722, []), (1066, []), (1002, []), (1001, [])]
def g_WI : List jm_C := [(1015, []), (1011, []), (1940, []), (1023, []), (1004, []), (1011, []), (1005, []), (1040, []), (1003, []), (1003, []), (1008, []), (1008, []), (1008, []), (1008, []), (1008, []), (1008, []), (1064, []), (1014, []), (1008, []), (1008, []), (1006, []), (1006, []), (1036, []), (1006, []), (1006, []), (1008, []), (1006, []), (1040, []), (1040, []), (1040, []), (1004, []), (1011, []), (1005, []), (1040, []), (1003, []), (1003, []), (1008, []), (1008, []), (1008, []), (1008, []), (1008, []), (1008, []), (1064, []), (1014, []), (1008, []), (1008, []), (1006, []), (1006, []), (1036, []), (1006, []), (1006, []), (1008, []), (1006, []), (1040, []), (1040, []), (1040, []), (1004, []), (1011, []), (1005, []), (1040, []), (1003, []), (1003, []), (1008, []), (1008, []), (1008, []), (1008, []), (1008, []), (1008, []), (1064, []), (1014, []), (1008, []), (1008, []), (1006, []), (1006, []), (1036, []), (1006, []), (1006, []), (1008, []), (1006, []), (1040, []), (1040, []), (1040, []), (1004, []), (1011, []), (1005, []), (1040, []), (1003, []), (1003, []), (1008, []), (1008, []), (1008, []), (1008, []), (1008, []), (1008, []), (1064, []), (1014, []), (1008, []), (1008, []), (1006, []), (1006, []), (1036, []), (1006, []), (1006, []), (1008, []), (1006, []), (1040, []), (1040, []), (1040, []), (1002, []), (1008, []), (1014, []), (1008, []), (1008, []), (1006, []), (1006, []), (1036, []), (1006, []), (1006, []), (1008, []), (1014, []), (1008, []), (1008, []), (1006, []), (1006, []), (1036, []), (1006, []), (1006, []), (1008, []), (1014, []), (1008, []), (1008, []), (1006, []), (1006, []), (1036, []), (1006, []), (1006, []), (1008, []), (1014, []), (1008, []), (1008, []), (1006, []), (1006, []), (1036, []), (1006, []), (1006, []), (1008, []), (1014, []), (1008, []), (1008, []), (1006, []), (1006, []), (1036, []), (1006, []), (1006, []), (1008, []), (1014, []), (1008, []), (1008, []), (1006, []), (1006, []), (1036, []), (1006, []), (1006, []), (1008, []), (1014, []), (1008, []), (1008, []), (1006, []), (1006, []), (1036, []), (1006, []), (1006, []), (1008, []), (1014, []), (1008, []), (1008, []), (1006, []), (1006, []), (1036, []), (1006, []), (1006, []), (1008, []), (1003, []), (1007, []), (1040, []), (1040, []), (1040, []), (1003, []), (1001, []), (1002, []), (1032, []), (1004, []), g_cell192, (1940, []), g_cell194, (1099, []), (1135, []), g_cell197, (1023, []), (1648, []), (1081, []), (1048, []), (1004, []), (1045, []), (1045, []), g_cell205, g_cell206, g_cell207, (1001, [])]
def g_LR (i : Nat) : jm_L := [(1, (0, (i : Int))), (0, (2, 192))]
def g_LI (k i : Nat) : jm_L := [(2, (0, (i : Int))), (0, (2, 192)), (1, (0, (k : Int)))]
def g_cr (a : Nat) : Bool := (List.range 40).all (fun i => decide (360 < a + i) || ax_seg [] [] 100 75 99 174 75 (g_LR (a + i)) [] (g_WR, 0) (g_LR (a + i + 1)) [] (g_WR, 0))
def g_ci (k a : Nat) : Bool := (List.range 40).all (fun i => decide (360 < a + i) || ax_seg [] [] 100 18 99 274 18 (g_LI k (a + i)) [] (g_WI, 0) (g_LI k (a + i + 1)) [] (g_WI, 0))
theorem g_cr_0 : g_cr 0 = true := by decide +kernel
theorem g_cr_40 : g_cr 40 = true := by decide +kernel
theorem g_cr_80 : g_cr 80 = true := by decide +kernel
theorem g_cr_120 : g_cr 120 = true := by decide +kernel
theorem g_cr_160 : g_cr 160 = true := by decide +kernel
theorem g_cr_200 : g_cr 200 = true := by decide +kernel
theorem g_cr_240 : g_cr 240 = true := by decide +kernel
theorem g_cr_280 : g_cr 280 = true := by decide +kernel
theorem g_cr_320 : g_cr 320 = true := by decide +kernel
theorem g_cr_360 : g_cr 360 = true := by decide +kernel
theorem g_ci0_0 : g_ci 0 0 = true := by decide +kernel
theorem g_ci0_40 : g_ci 0 40 = true := by decide +kernel
theorem g_ci0_80 : g_ci 0 80 = true := by decide +kernel
theorem g_ci0_120 : g_ci 0 120 = true := by decide +kernel
theorem g_ci0_160 : g_ci 0 160 = true := by decide +kernel
theorem g_ci0_200 : g_ci 0 200 = true := by decide +kernel
theorem g_ci0_240 : g_ci 0 240 = true := by decide +kernel
theorem g_ci0_280 : g_ci 0 280 = true := by decide +kernel
theorem g_ci0_320 : g_ci 0 320 = true := by decide +kernel
theorem g_ci0_360 : g_ci 0 360 = true := by decide +kernel
theorem g_ci1_0 : g_ci 1 0 = true := by decide +kernel
theorem g_ci1_40 : g_ci 1 40 = true := by decide +kernel
theorem g_ci1_80 : g_ci 1 80 = true := by decide +kernel
theorem g_ci1_120 : g_ci 1 120 = true := by decide +kernel
theorem g_ci1_160 : g_ci 1 160 = true := by decide +kernel
theorem g_ci1_200 : g_ci 1 200 = true := by decide +kernel
theorem g_ci1_240 : g_ci 1 240 = true := by decide +kernel
theorem g_ci1_280 : g_ci 1 280 = true := by decide +kernel
theorem g_ci1_320 : g_ci 1 320 = true := by decide +kernel
theorem g_ci1_360 : g_ci 1 360 = true := by decide +kernel
theorem g_cr_of {i : Nat} (hi : i < 361) : ax_seg [] [] 100 75 99 174 75 (g_LR i) [] (g_WR, 0) (g_LR (i + 1)) [] (g_WR, 0) = true := by
  by_cases h_0 : i < 40
  · have := List.all_eq_true.mp (show (List.range 40).all _ = true from g_cr_0) (i - 0) (List.mem_range.mpr (by omega))
    rw [show 0 + (i - 0) = i by omega, decide_eq_false (show ¬ 360 < i by omega)] at this
    exact this
  by_cases h_40 : i < 80
  · have := List.all_eq_true.mp (show (List.range 40).all _ = true from g_cr_40) (i - 40) (List.mem_range.mpr (by omega))
    rw [show 40 + (i - 40) = i by omega, decide_eq_false (show ¬ 360 < i by omega)] at this
    exact this
  by_cases h_80 : i < 120
  · have := List.all_eq_true.mp (show (List.range 40).all _ = true from g_cr_80) (i - 80) (List.mem_range.mpr (by omega))
    rw [show 80 + (i - 80) = i by omega, decide_eq_false (show ¬ 360 < i by omega)] at this
    exact this
  by_cases h_120 : i < 160
  · have := List.all_eq_true.mp (show (List.range 40).all _ = true from g_cr_120) (i - 120) (List.mem_range.mpr (by omega))
    rw [show 120 + (i - 120) = i by omega, decide_eq_false (show ¬ 360 < i by omega)] at this
    exact this
  by_cases h_160 : i < 200
  · have := List.all_eq_true.mp (show (List.range 40).all _ = true from g_cr_160) (i - 160) (List.mem_range.mpr (by omega))
    rw [show 160 + (i - 160) = i by omega, decide_eq_false (show ¬ 360 < i by omega)] at this
    exact this
  by_cases h_200 : i < 240
  · have := List.all_eq_true.mp (show (List.range 40).all _ = true from g_cr_200) (i - 200) (List.mem_range.mpr (by omega))
    rw [show 200 + (i - 200) = i by omega, decide_eq_false (show ¬ 360 < i by omega)] at this
    exact this
  by_cases h_240 : i < 280
  · have := List.all_eq_true.mp (show (List.range 40).all _ = true from g_cr_240) (i - 240) (List.mem_range.mpr (by omega))
    rw [show 240 + (i - 240) = i by omega, decide_eq_false (show ¬ 360 < i by omega)] at this
    exact this
  by_cases h_280 : i < 320
  · have := List.all_eq_true.mp (show (List.range 40).all _ = true from g_cr_280) (i - 280) (List.mem_range.mpr (by omega))
    rw [show 280 + (i - 280) = i by omega, decide_eq_false (show ¬ 360 < i by omega)] at this
    exact this
  by_cases h_320 : i < 360
  · have := List.all_eq_true.mp (show (List.range 40).all _ = true from g_cr_320) (i - 320) (List.mem_range.mpr (by omega))
    rw [show 320 + (i - 320) = i by omega, decide_eq_false (show ¬ 360 < i by omega)] at this
    exact this
  have := List.all_eq_true.mp (show (List.range 40).all _ = true from g_cr_360) (i - 360) (List.mem_range.mpr (by omega))
  rw [show 360 + (i - 360) = i by omega, decide_eq_false (show ¬ 360 < i by omega)] at this
  exact this
theorem g_ci0_of {i : Nat} (hi : i < 361) : ax_seg [] [] 100 18 99 274 18 (g_LI 0 i) [] (g_WI, 0) (g_LI 0 (i + 1)) [] (g_WI, 0) = true := by
  by_cases h_0 : i < 40
  · have := List.all_eq_true.mp (show (List.range 40).all _ = true from g_ci0_0) (i - 0) (List.mem_range.mpr (by omega))
    rw [show 0 + (i - 0) = i by omega, decide_eq_false (show ¬ 360 < i by omega)] at this
    exact this
  by_cases h_40 : i < 80
  · have := List.all_eq_true.mp (show (List.range 40).all _ = true from g_ci0_40) (i - 40) (List.mem_range.mpr (by omega))
    rw [show 40 + (i - 40) = i by omega, decide_eq_false (show ¬ 360 < i by omega)] at this
    exact this
  by_cases h_80 : i < 120
  · have := List.all_eq_true.mp (show (List.range 40).all _ = true from g_ci0_80) (i - 80) (List.mem_range.mpr (by omega))
    rw [show 80 + (i - 80) = i by omega, decide_eq_false (show ¬ 360 < i by omega)] at this
    exact this
  by_cases h_120 : i < 160
  · have := List.all_eq_true.mp (show (List.range 40).all _ = true from g_ci0_120) (i - 120) (List.mem_range.mpr (by omega))
    rw [show 120 + (i - 120) = i by omega, decide_eq_false (show ¬ 360 < i by omega)] at this
    exact this
  by_cases h_160 : i < 200
  · have := List.all_eq_true.mp (show (List.range 40).all _ = true from g_ci0_160) (i - 160) (List.mem_range.mpr (by omega))
    rw [show 160 + (i - 160) = i by omega, decide_eq_false (show ¬ 360 < i by omega)] at this
    exact this
  by_cases h_200 : i < 240
  · have := List.all_eq_true.mp (show (List.range 40).all _ = true from g_ci0_200) (i - 200) (List.mem_range.mpr (by omega))
    rw [show 200 + (i - 200) = i by omega, decide_eq_false (show ¬ 360 < i by omega)] at this
    exact this
  by_cases h_240 : i < 280
  · have := List.all_eq_true.mp (show (List.range 40).all _ = true from g_ci0_240) (i - 240) (List.mem_range.mpr (by omega))
    rw [show 240 + (i - 240) = i by omega, decide_eq_false (show ¬ 360 < i by omega)] at this
    exact this
  by_cases h_280 : i < 320
  · have := List.all_eq_true.mp (show (List.range 40).all _ = true from g_ci0_280) (i - 280) (List.mem_range.mpr (by omega))
    rw [show 280 + (i - 280) = i by omega, decide_eq_false (show ¬ 360 < i by omega)] at this
    exact this
  by_cases h_320 : i < 360
  · have := List.all_eq_true.mp (show (List.range 40).all _ = true from g_ci0_320) (i - 320) (List.mem_range.mpr (by omega))
    rw [show 320 + (i - 320) = i by omega, decide_eq_false (show ¬ 360 < i by omega)] at this
    exact this
  have := List.all_eq_true.mp (show (List.range 40).all _ = true from g_ci0_360) (i - 360) (List.mem_range.mpr (by omega))
  rw [show 360 + (i - 360) = i by omega, decide_eq_false (show ¬ 360 < i by omega)] at this
  exact this
theorem g_ci1_of {i : Nat} (hi : i < 361) : ax_seg [] [] 100 18 99 274 18 (g_LI 1 i) [] (g_WI, 0) (g_LI 1 (i + 1)) [] (g_WI, 0) = true := by
  by_cases h_0 : i < 40
  · have := List.all_eq_true.mp (show (List.range 40).all _ = true from g_ci1_0) (i - 0) (List.mem_range.mpr (by omega))
    rw [show 0 + (i - 0) = i by omega, decide_eq_false (show ¬ 360 < i by omega)] at this
    exact this
  by_cases h_40 : i < 80
  · have := List.all_eq_true.mp (show (List.range 40).all _ = true from g_ci1_40) (i - 40) (List.mem_range.mpr (by omega))
    rw [show 40 + (i - 40) = i by omega, decide_eq_false (show ¬ 360 < i by omega)] at this
    exact this
  by_cases h_80 : i < 120
  · have := List.all_eq_true.mp (show (List.range 40).all _ = true from g_ci1_80) (i - 80) (List.mem_range.mpr (by omega))
    rw [show 80 + (i - 80) = i by omega, decide_eq_false (show ¬ 360 < i by omega)] at this
    exact this
  by_cases h_120 : i < 160
  · have := List.all_eq_true.mp (show (List.range 40).all _ = true from g_ci1_120) (i - 120) (List.mem_range.mpr (by omega))
    rw [show 120 + (i - 120) = i by omega, decide_eq_false (show ¬ 360 < i by omega)] at this
    exact this
  by_cases h_160 : i < 200
  · have := List.all_eq_true.mp (show (List.range 40).all _ = true from g_ci1_160) (i - 160) (List.mem_range.mpr (by omega))
    rw [show 160 + (i - 160) = i by omega, decide_eq_false (show ¬ 360 < i by omega)] at this
    exact this
  by_cases h_200 : i < 240
  · have := List.all_eq_true.mp (show (List.range 40).all _ = true from g_ci1_200) (i - 200) (List.mem_range.mpr (by omega))
    rw [show 200 + (i - 200) = i by omega, decide_eq_false (show ¬ 360 < i by omega)] at this
    exact this
  by_cases h_240 : i < 280
  · have := List.all_eq_true.mp (show (List.range 40).all _ = true from g_ci1_240) (i - 240) (List.mem_range.mpr (by omega))
    rw [show 240 + (i - 240) = i by omega, decide_eq_false (show ¬ 360 < i by omega)] at this
    exact this
  by_cases h_280 : i < 320
  · have := List.all_eq_true.mp (show (List.range 40).all _ = true from g_ci1_280) (i - 280) (List.mem_range.mpr (by omega))
    rw [show 280 + (i - 280) = i by omega, decide_eq_false (show ¬ 360 < i by omega)] at this
    exact this
  by_cases h_320 : i < 360
  · have := List.all_eq_true.mp (show (List.range 40).all _ = true from g_ci1_320) (i - 320) (List.mem_range.mpr (by omega))
    rw [show 320 + (i - 320) = i by omega, decide_eq_false (show ¬ 360 < i by omega)] at this
    exact this
  have := List.all_eq_true.mp (show (List.range 40).all _ = true from g_ci1_360) (i - 360) (List.mem_range.mpr (by omega))
  rw [show 360 + (i - 360) = i by omega, decide_eq_false (show ¬ 360 < i by omega)] at this
  exact this
theorem g_R1 : ax_fin [] [] 3000 99 24 0 [(0, (2, 0))] [] (g_A0, 0) (some (0, 0)) (g_AT, 0) = true := by decide +kernel
theorem g_R2 : ax_seg [] [] 3000 75 99 174 0 [(0, (2, 192))] [] (g_AT, 0) (g_LR 0) [] (g_WR, 0) = true := by decide +kernel
theorem g_R3 : ax_fin [] [] 3000 99 174 75 (g_LR 361) [] (g_WR, 0) (some (0, 0)) (g_AU, 0) = true := by decide +kernel
theorem g_I10 : ax_fin [] [] 3000 99 156 0 [(0, (2, 0)), (1, (0, 0))] [] (g_A0, 0) (some (0, 1)) (g_AT, 0) = true := by decide +kernel
theorem g_I20 : ax_seg [] [] 3000 18 99 274 0 [(0, (2, 192)), (1, (0, 0))] [] (g_AT, 0) (g_LI 0 0) [] (g_WI, 0) = true := by decide +kernel
theorem g_I30 : ax_fin [] [] 3000 99 274 18 (g_LI 0 361) [] (g_WI, 0) (some (0, 1)) (g_AU, 0) = true := by decide +kernel
theorem g_I11 : ax_fin [] [] 3000 99 156 0 [(0, (2, 0)), (1, (0, 1))] [] (g_A0, 0) (some (0, 1)) (g_AT, 0) = true := by decide +kernel
theorem g_I21 : ax_seg [] [] 3000 18 99 274 0 [(0, (2, 192)), (1, (0, 1))] [] (g_AT, 0) (g_LI 1 0) [] (g_WI, 0) = true := by decide +kernel
theorem g_I31 : ax_fin [] [] 3000 99 274 18 (g_LI 1 361) [] (g_WI, 0) (some (0, 1)) (g_AU, 0) = true := by decide +kernel
theorem g_U1 : ax_seg (g_bxs 2 ax_top) [] 100 307 100 277 20 g_L0 [] (g_A0, 0) g_L4 [(2, 0)] (g_A0, 0) = true := by decide +kernel
theorem g_U2 : ax_ccl 277 307 (30, 10, 24, 1) [(2, 0)] (g_A0, 0) = true := by decide +kernel
theorem g_U3 : ax_seg (g_bxs 2 ax_top) [] 100 311 100 277 310 g_L4 [(0, 0)] (g_AT, 0) g_L4 [(2, 192), (0, 0)] (g_AT, 0) = true := by decide +kernel
theorem g_U4 : ax_ccl 277 311 (30, 22, 174, 1) [(2, 192), (0, 0)] (g_AT, 0) = true := by decide +kernel
theorem g_U5 : ax_fin (g_bxs 2 ax_top) [] 100 100 277 314 g_L4 [(0, 0), (0, 0)] (g_AU, 0) (some (0, 1)) (g_AU, 0) = true := by decide +kernel
theorem g_V10 : ax_seg (g_bxs 35 (0, 0)) [] 100 1279 100 277 20 g_L0 [] (g_A0, 0) g_L4 [(0, 0), (2, 0)] (g_A0, 0) = true := by decide +kernel
theorem g_V20 : ax_ccl 277 1279 (30, 10, 156, 2) [(0, 0), (2, 0)] (g_A0, 0) = true := by decide +kernel
theorem g_V30 : ax_seg (g_bxs 35 (0, 0)) [] 100 1289 100 277 1282 g_L4 [(0, 1)] (g_AT, 0) g_L4 [(0, 0), (2, 192), (0, 1)] (g_AT, 0) = true := by decide +kernel
theorem g_V40 : ax_ccl 277 1289 (30, 22, 274, 2) [(0, 0), (2, 192), (0, 1)] (g_AT, 0) = true := by decide +kernel
theorem g_V50 : ax_fin (g_bxs 35 (0, 0)) [] 100 100 277 1292 g_L4 [(0, 1), (0, 1)] (g_AU, 0) (some (0, 1)) (g_AU, 0) = true := by decide +kernel
theorem g_V11 : ax_seg (g_bxs 35 (1, 1)) [] 100 1279 100 277 20 g_L0 [] (g_A0, 0) g_L4 [(0, 1), (2, 0)] (g_A0, 0) = true := by decide +kernel
theorem g_V21 : ax_ccl 277 1279 (30, 10, 156, 2) [(0, 1), (2, 0)] (g_A0, 0) = true := by decide +kernel
theorem g_V31 : ax_seg (g_bxs 35 (1, 1)) [] 100 1289 100 277 1282 g_L4 [(0, 1)] (g_AT, 0) g_L4 [(0, 1), (2, 192), (0, 1)] (g_AT, 0) = true := by decide +kernel
theorem g_V41 : ax_ccl 277 1289 (30, 22, 274, 2) [(0, 1), (2, 192), (0, 1)] (g_AT, 0) = true := by decide +kernel
theorem g_V51 : ax_fin (g_bxs 35 (1, 1)) [] 100 100 277 1292 g_L4 [(0, 1), (0, 1)] (g_AU, 0) (some (0, 1)) (g_AU, 0) = true := by decide +kernel
end
