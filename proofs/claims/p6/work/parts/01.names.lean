-- ===== PART A: goes FIRST, ahead of the names: the tables' words, and 'selects' of the private methods out of them =====
/-- a private method of a class that the tables say can be made, by its rows of tables_1 -/
def lw_okq (q : MethodName × Nat) : Prop := (q.1.cls ≠ "java/lang/invoke/MethodHandle" ∧ q.1.cls ≠ "java/lang/invoke/VarHandle") ∧ Cond.instantiable q.1.cls q.2 ∈ tables_1 ∧ Cond.privateMethod q.1 ∈ tables_1 ∧ Cond.instanceMethod q.1 ∈ tables_1
theorem lw_p0 : lw_okq (⟨"PepperPolicy$Reader", "step", "()V"⟩, 8) := ⟨⟨by decide +kernel, by decide +kernel⟩, List.mem_of_getElem? (i := 69) (by decide +kernel), List.mem_of_getElem? (i := 351) (by decide +kernel), List.mem_of_getElem? (i := 352) (by decide +kernel)⟩
theorem lw_p1 : lw_okq (⟨"PepperPolicy$Reader", "kindAt", "(I)I"⟩, 8) := ⟨⟨by decide +kernel, by decide +kernel⟩, List.mem_of_getElem? (i := 69) (by decide +kernel), List.mem_of_getElem? (i := 355) (by decide +kernel), List.mem_of_getElem? (i := 356) (by decide +kernel)⟩
theorem lw_p2 : lw_okq (⟨"PepperPolicy$Reader", "readHouse", "()V"⟩, 8) := ⟨⟨by decide +kernel, by decide +kernel⟩, List.mem_of_getElem? (i := 69) (by decide +kernel), List.mem_of_getElem? (i := 362) (by decide +kernel), List.mem_of_getElem? (i := 363) (by decide +kernel)⟩
theorem lw_p3 : lw_okq (⟨"PepperPolicy$Reader", "word", "(Ljava/lang/String;)V"⟩, 8) := ⟨⟨by decide +kernel, by decide +kernel⟩, List.mem_of_getElem? (i := 69) (by decide +kernel), List.mem_of_getElem? (i := 367) (by decide +kernel), List.mem_of_getElem? (i := 368) (by decide +kernel)⟩
theorem lw_p4 : lw_okq (⟨"PepperPolicy$Reader", "isWord", "(Ljava/lang/String;)Z"⟩, 8) := ⟨⟨by decide +kernel, by decide +kernel⟩, List.mem_of_getElem? (i := 69) (by decide +kernel), List.mem_of_getElem? (i := 371) (by decide +kernel), List.mem_of_getElem? (i := 372) (by decide +kernel)⟩
theorem lw_p5 : lw_okq (⟨"PepperPolicy$Reader", "blame", "(I)V"⟩, 8) := ⟨⟨by decide +kernel, by decide +kernel⟩, List.mem_of_getElem? (i := 69) (by decide +kernel), List.mem_of_getElem? (i := 423) (by decide +kernel), List.mem_of_getElem? (i := 424) (by decide +kernel)⟩
theorem lw_p6 : lw_okq (⟨"PepperPolicy$Reader", "number", "(III)I"⟩, 8) := ⟨⟨by decide +kernel, by decide +kernel⟩, List.mem_of_getElem? (i := 69) (by decide +kernel), List.mem_of_getElem? (i := 428) (by decide +kernel), List.mem_of_getElem? (i := 429) (by decide +kernel)⟩
theorem lw_p7 : lw_okq (⟨"PepperPolicy$Reader", "value", "()I"⟩, 8) := ⟨⟨by decide +kernel, by decide +kernel⟩, List.mem_of_getElem? (i := 69) (by decide +kernel), List.mem_of_getElem? (i := 432) (by decide +kernel), List.mem_of_getElem? (i := 433) (by decide +kernel)⟩
theorem lw_p8 : lw_okq (⟨"PepperPolicy$Reader", "sign", "()V"⟩, 8) := ⟨⟨by decide +kernel, by decide +kernel⟩, List.mem_of_getElem? (i := 69) (by decide +kernel), List.mem_of_getElem? (i := 441) (by decide +kernel), List.mem_of_getElem? (i := 442) (by decide +kernel)⟩
theorem lw_p9 : lw_okq (⟨"PepperPolicy$Reader", "readLine", "()V"⟩, 8) := ⟨⟨by decide +kernel, by decide +kernel⟩, List.mem_of_getElem? (i := 69) (by decide +kernel), List.mem_of_getElem? (i := 445) (by decide +kernel), List.mem_of_getElem? (i := 446) (by decide +kernel)⟩
theorem lw_p10 : lw_okq (⟨"PepperPolicy$Reader", "readNose", "(I)V"⟩, 8) := ⟨⟨by decide +kernel, by decide +kernel⟩, List.mem_of_getElem? (i := 69) (by decide +kernel), List.mem_of_getElem? (i := 450) (by decide +kernel), List.mem_of_getElem? (i := 451) (by decide +kernel)⟩
theorem lw_p11 : lw_okq (⟨"PepperPolicy$Reader", "readGust", "(I)V"⟩, 8) := ⟨⟨by decide +kernel, by decide +kernel⟩, List.mem_of_getElem? (i := 69) (by decide +kernel), List.mem_of_getElem? (i := 456) (by decide +kernel), List.mem_of_getElem? (i := 457) (by decide +kernel)⟩
theorem lw_p12 : lw_okq (⟨"PepperPolicy$Reader", "readNet", "(I)V"⟩, 8) := ⟨⟨by decide +kernel, by decide +kernel⟩, List.mem_of_getElem? (i := 69) (by decide +kernel), List.mem_of_getElem? (i := 462) (by decide +kernel), List.mem_of_getElem? (i := 463) (by decide +kernel)⟩
theorem lw_p13 : lw_okq (⟨"PepperPolicy$Reader", "readPolicy", "(I)V"⟩, 8) := ⟨⟨by decide +kernel, by decide +kernel⟩, List.mem_of_getElem? (i := 69) (by decide +kernel), List.mem_of_getElem? (i := 467) (by decide +kernel), List.mem_of_getElem? (i := 468) (by decide +kernel)⟩
theorem lw_p14 : lw_okq (⟨"PepperPolicy", "liveAnew", "()V"⟩, 12) := ⟨⟨by decide +kernel, by decide +kernel⟩, List.mem_of_getElem? (i := 20) (by decide +kernel), List.mem_of_getElem? (i := 482) (by decide +kernel), List.mem_of_getElem? (i := 483) (by decide +kernel)⟩
theorem lw_p15 : lw_okq (⟨"PepperPolicy$Day", "tickleByNets", "(I)V"⟩, 14) := ⟨⟨by decide +kernel, by decide +kernel⟩, List.mem_of_getElem? (i := 129) (by decide +kernel), List.mem_of_getElem? (i := 507) (by decide +kernel), List.mem_of_getElem? (i := 508) (by decide +kernel)⟩
def lw_privs_1 : List (MethodName × Nat) := [(⟨"PepperPolicy$Reader", "step", "()V"⟩, 8), (⟨"PepperPolicy$Reader", "kindAt", "(I)I"⟩, 8), (⟨"PepperPolicy$Reader", "readHouse", "()V"⟩, 8), (⟨"PepperPolicy$Reader", "word", "(Ljava/lang/String;)V"⟩, 8), (⟨"PepperPolicy$Reader", "isWord", "(Ljava/lang/String;)Z"⟩, 8), (⟨"PepperPolicy$Reader", "blame", "(I)V"⟩, 8), (⟨"PepperPolicy$Reader", "number", "(III)I"⟩, 8), (⟨"PepperPolicy$Reader", "value", "()I"⟩, 8), (⟨"PepperPolicy$Reader", "sign", "()V"⟩, 8), (⟨"PepperPolicy$Reader", "readLine", "()V"⟩, 8), (⟨"PepperPolicy$Reader", "readNose", "(I)V"⟩, 8), (⟨"PepperPolicy$Reader", "readGust", "(I)V"⟩, 8), (⟨"PepperPolicy$Reader", "readNet", "(I)V"⟩, 8), (⟨"PepperPolicy$Reader", "readPolicy", "(I)V"⟩, 8), (⟨"PepperPolicy", "liveAnew", "()V"⟩, 12), (⟨"PepperPolicy$Day", "tickleByNets", "(I)V"⟩, 14)]
theorem lw_r1 : ∀ q ∈ lw_privs_1, lw_okq q := List.forall_mem_cons.mpr ⟨lw_p0, List.forall_mem_cons.mpr ⟨lw_p1, List.forall_mem_cons.mpr ⟨lw_p2, List.forall_mem_cons.mpr ⟨lw_p3, List.forall_mem_cons.mpr ⟨lw_p4, List.forall_mem_cons.mpr ⟨lw_p5, List.forall_mem_cons.mpr ⟨lw_p6, List.forall_mem_cons.mpr ⟨lw_p7, List.forall_mem_cons.mpr ⟨lw_p8, List.forall_mem_cons.mpr ⟨lw_p9, List.forall_mem_cons.mpr ⟨lw_p10, List.forall_mem_cons.mpr ⟨lw_p11, List.forall_mem_cons.mpr ⟨lw_p12, List.forall_mem_cons.mpr ⟨lw_p13, List.forall_mem_cons.mpr ⟨lw_p14, List.forall_mem_cons.mpr ⟨lw_p15, fun _ h => absurd h List.not_mem_nil⟩⟩⟩⟩⟩⟩⟩⟩⟩⟩⟩⟩⟩⟩⟩⟩
theorem lw_p16 : lw_okq (⟨"PepperPolicy$Day", "liveMinute", "(I)V"⟩, 14) := ⟨⟨by decide +kernel, by decide +kernel⟩, List.mem_of_getElem? (i := 129) (by decide +kernel), List.mem_of_getElem? (i := 514) (by decide +kernel), List.mem_of_getElem? (i := 515) (by decide +kernel)⟩
theorem lw_p17 : lw_okq (⟨"PepperPolicy", "isPerson", "(I)Z"⟩, 12) := ⟨⟨by decide +kernel, by decide +kernel⟩, List.mem_of_getElem? (i := 20) (by decide +kernel), List.mem_of_getElem? (i := 535) (by decide +kernel), List.mem_of_getElem? (i := 536) (by decide +kernel)⟩
theorem lw_p18 : lw_okq (⟨"PepperPolicy", "isPolicy", "(I)Z"⟩, 12) := ⟨⟨by decide +kernel, by decide +kernel⟩, List.mem_of_getElem? (i := 20) (by decide +kernel), List.mem_of_getElem? (i := 543) (by decide +kernel), List.mem_of_getElem? (i := 544) (by decide +kernel)⟩
theorem lw_p19 : lw_okq (⟨"PepperPolicy", "isMinute", "(I)Z"⟩, 12) := ⟨⟨by decide +kernel, by decide +kernel⟩, List.mem_of_getElem? (i := 20) (by decide +kernel), List.mem_of_getElem? (i := 563) (by decide +kernel), List.mem_of_getElem? (i := 564) (by decide +kernel)⟩
theorem lw_p20 : lw_okq (⟨"PepperPolicy", "isHouse", "()Z"⟩, 12) := ⟨⟨by decide +kernel, by decide +kernel⟩, List.mem_of_getElem? (i := 20) (by decide +kernel), List.mem_of_getElem? (i := 588) (by decide +kernel), List.mem_of_getElem? (i := 589) (by decide +kernel)⟩
theorem lw_p21 : lw_okq (⟨"PepperPolicy", "minutesCovered", "(I)I"⟩, 12) := ⟨⟨by decide +kernel, by decide +kernel⟩, List.mem_of_getElem? (i := 20) (by decide +kernel), List.mem_of_getElem? (i := 651) (by decide +kernel), List.mem_of_getElem? (i := 652) (by decide +kernel)⟩
theorem lw_p22 : lw_okq (⟨"PepperPolicy", "isNet", "(I)Z"⟩, 12) := ⟨⟨by decide +kernel, by decide +kernel⟩, List.mem_of_getElem? (i := 20) (by decide +kernel), List.mem_of_getElem? (i := 696) (by decide +kernel), List.mem_of_getElem? (i := 697) (by decide +kernel)⟩
theorem lw_p23 : lw_okq (⟨"PepperPolicy", "totalWithout", "(I)I"⟩, 12) := ⟨⟨by decide +kernel, by decide +kernel⟩, List.mem_of_getElem? (i := 20) (by decide +kernel), List.mem_of_getElem? (i := 700) (by decide +kernel), List.mem_of_getElem? (i := 701) (by decide +kernel)⟩
theorem lw_p24 : lw_okq (⟨"PepperPolicy", "ledgerNow", "()LPepperPolicy$Ledger;"⟩, 12) := ⟨⟨by decide +kernel, by decide +kernel⟩, List.mem_of_getElem? (i := 20) (by decide +kernel), List.mem_of_getElem? (i := 712) (by decide +kernel), List.mem_of_getElem? (i := 713) (by decide +kernel)⟩
theorem lw_p25 : lw_okq (⟨"PepperPolicy", "moneyInTheEnd", "(I)I"⟩, 12) := ⟨⟨by decide +kernel, by decide +kernel⟩, List.mem_of_getElem? (i := 20) (by decide +kernel), List.mem_of_getElem? (i := 786) (by decide +kernel), List.mem_of_getElem? (i := 787) (by decide +kernel)⟩
theorem lw_p26 : lw_okq (⟨"PepperPolicy", "bestOfMenu", "(I)I"⟩, 12) := ⟨⟨by decide +kernel, by decide +kernel⟩, List.mem_of_getElem? (i := 20) (by decide +kernel), List.mem_of_getElem? (i := 798) (by decide +kernel), List.mem_of_getElem? (i := 799) (by decide +kernel)⟩
theorem lw_p27 : lw_okq (⟨"PepperPolicy", "gainBy", "(II)I"⟩, 12) := ⟨⟨by decide +kernel, by decide +kernel⟩, List.mem_of_getElem? (i := 20) (by decide +kernel), List.mem_of_getElem? (i := 802) (by decide +kernel), List.mem_of_getElem? (i := 803) (by decide +kernel)⟩
theorem lw_p28 : lw_okq (⟨"PepperPolicy", "claimAsIfOf", "(II)I"⟩, 12) := ⟨⟨by decide +kernel, by decide +kernel⟩, List.mem_of_getElem? (i := 20) (by decide +kernel), List.mem_of_getElem? (i := 806) (by decide +kernel), List.mem_of_getElem? (i := 807) (by decide +kernel)⟩
theorem lw_p29 : lw_okq (⟨"PepperPolicy", "priceFor", "(II)I"⟩, 12) := ⟨⟨by decide +kernel, by decide +kernel⟩, List.mem_of_getElem? (i := 20) (by decide +kernel), List.mem_of_getElem? (i := 819) (by decide +kernel), List.mem_of_getElem? (i := 820) (by decide +kernel)⟩
theorem lw_p30 : lw_okq (⟨"PepperPolicy$Holding", "goOn", "(LPepperPolicy$Day;IIII)V"⟩, 2) := ⟨⟨by decide +kernel, by decide +kernel⟩, List.mem_of_getElem? (i := 222) (by decide +kernel), List.mem_of_getElem? (i := 837) (by decide +kernel), List.mem_of_getElem? (i := 838) (by decide +kernel)⟩
theorem lw_p31 : lw_okq (⟨"PepperPolicy", "minutesOfFraud", "(I)I"⟩, 12) := ⟨⟨by decide +kernel, by decide +kernel⟩, List.mem_of_getElem? (i := 20) (by decide +kernel), List.mem_of_getElem? (i := 862) (by decide +kernel), List.mem_of_getElem? (i := 863) (by decide +kernel)⟩
def lw_privs_2 : List (MethodName × Nat) := [(⟨"PepperPolicy$Day", "liveMinute", "(I)V"⟩, 14), (⟨"PepperPolicy", "isPerson", "(I)Z"⟩, 12), (⟨"PepperPolicy", "isPolicy", "(I)Z"⟩, 12), (⟨"PepperPolicy", "isMinute", "(I)Z"⟩, 12), (⟨"PepperPolicy", "isHouse", "()Z"⟩, 12), (⟨"PepperPolicy", "minutesCovered", "(I)I"⟩, 12), (⟨"PepperPolicy", "isNet", "(I)Z"⟩, 12), (⟨"PepperPolicy", "totalWithout", "(I)I"⟩, 12), (⟨"PepperPolicy", "ledgerNow", "()LPepperPolicy$Ledger;"⟩, 12), (⟨"PepperPolicy", "moneyInTheEnd", "(I)I"⟩, 12), (⟨"PepperPolicy", "bestOfMenu", "(I)I"⟩, 12), (⟨"PepperPolicy", "gainBy", "(II)I"⟩, 12), (⟨"PepperPolicy", "claimAsIfOf", "(II)I"⟩, 12), (⟨"PepperPolicy", "priceFor", "(II)I"⟩, 12), (⟨"PepperPolicy$Holding", "goOn", "(LPepperPolicy$Day;IIII)V"⟩, 2), (⟨"PepperPolicy", "minutesOfFraud", "(I)I"⟩, 12)]
theorem lw_r2 : ∀ q ∈ lw_privs_2, lw_okq q := List.forall_mem_cons.mpr ⟨lw_p16, List.forall_mem_cons.mpr ⟨lw_p17, List.forall_mem_cons.mpr ⟨lw_p18, List.forall_mem_cons.mpr ⟨lw_p19, List.forall_mem_cons.mpr ⟨lw_p20, List.forall_mem_cons.mpr ⟨lw_p21, List.forall_mem_cons.mpr ⟨lw_p22, List.forall_mem_cons.mpr ⟨lw_p23, List.forall_mem_cons.mpr ⟨lw_p24, List.forall_mem_cons.mpr ⟨lw_p25, List.forall_mem_cons.mpr ⟨lw_p26, List.forall_mem_cons.mpr ⟨lw_p27, List.forall_mem_cons.mpr ⟨lw_p28, List.forall_mem_cons.mpr ⟨lw_p29, List.forall_mem_cons.mpr ⟨lw_p30, List.forall_mem_cons.mpr ⟨lw_p31, fun _ h => absurd h List.not_mem_nil⟩⟩⟩⟩⟩⟩⟩⟩⟩⟩⟩⟩⟩⟩⟩⟩
theorem lw_p32 : lw_okq (⟨"PepperPolicy", "seek", "(I)I"⟩, 12) := ⟨⟨by decide +kernel, by decide +kernel⟩, List.mem_of_getElem? (i := 20) (by decide +kernel), List.mem_of_getElem? (i := 875) (by decide +kernel), List.mem_of_getElem? (i := 876) (by decide +kernel)⟩
theorem lw_p33 : lw_okq (⟨"PepperPolicy$Suspects", "meets", "(LPepperPolicy$Day;I)Z"⟩, 5) := ⟨⟨by decide +kernel, by decide +kernel⟩, List.mem_of_getElem? (i := 235) (by decide +kernel), List.mem_of_getElem? (i := 897) (by decide +kernel), List.mem_of_getElem? (i := 898) (by decide +kernel)⟩
theorem lw_p34 : lw_okq (⟨"PepperPolicy$Suspects", "note", "(LPepperPolicy$Day;II)V"⟩, 5) := ⟨⟨by decide +kernel, by decide +kernel⟩, List.mem_of_getElem? (i := 235) (by decide +kernel), List.mem_of_getElem? (i := 902) (by decide +kernel), List.mem_of_getElem? (i := 903) (by decide +kernel)⟩
theorem lw_p35 : lw_okq (⟨"PepperPolicy", "lossOf", "(IIII)I"⟩, 12) := ⟨⟨by decide +kernel, by decide +kernel⟩, List.mem_of_getElem? (i := 20) (by decide +kernel), List.mem_of_getElem? (i := 937) (by decide +kernel), List.mem_of_getElem? (i := 938) (by decide +kernel)⟩
theorem lw_p36 : lw_okq (⟨"PepperPolicy", "isPuffMinute", "(I)Z"⟩, 12) := ⟨⟨by decide +kernel, by decide +kernel⟩, List.mem_of_getElem? (i := 20) (by decide +kernel), List.mem_of_getElem? (i := 949) (by decide +kernel), List.mem_of_getElem? (i := 950) (by decide +kernel)⟩
theorem lw_p37 : lw_okq (⟨"PepperPolicy$Puffs", "weigh", "(II)V"⟩, 5) := ⟨⟨by decide +kernel, by decide +kernel⟩, List.mem_of_getElem? (i := 261) (by decide +kernel), List.mem_of_getElem? (i := 958) (by decide +kernel), List.mem_of_getElem? (i := 959) (by decide +kernel)⟩
theorem lw_p38 : lw_okq (⟨"PepperPolicy$Puffs", "worth", "(LPepperPolicy$House;III)J"⟩, 5) := ⟨⟨by decide +kernel, by decide +kernel⟩, List.mem_of_getElem? (i := 261) (by decide +kernel), List.mem_of_getElem? (i := 967) (by decide +kernel), List.mem_of_getElem? (i := 968) (by decide +kernel)⟩
theorem lw_p39 : lw_okq (⟨"PepperPolicy$Puffs", "lower", "()V"⟩, 5) := ⟨⟨by decide +kernel, by decide +kernel⟩, List.mem_of_getElem? (i := 261) (by decide +kernel), List.mem_of_getElem? (i := 974) (by decide +kernel), List.mem_of_getElem? (i := 975) (by decide +kernel)⟩
theorem lw_p40 : lw_okq (⟨"PepperPolicy", "liveDrawn", "(I)I"⟩, 12) := ⟨⟨by decide +kernel, by decide +kernel⟩, List.mem_of_getElem? (i := 20) (by decide +kernel), List.mem_of_getElem? (i := 994) (by decide +kernel), List.mem_of_getElem? (i := 995) (by decide +kernel)⟩
theorem lw_p41 : lw_okq (⟨"PepperPolicyModel", "advance", "()V"⟩, 46) := ⟨⟨by decide +kernel, by decide +kernel⟩, List.mem_of_getElem? (i := 1074) (by decide +kernel), List.mem_of_getElem? (i := 1246) (by decide +kernel), List.mem_of_getElem? (i := 1247) (by decide +kernel)⟩
theorem lw_p42 : lw_okq (⟨"PepperPolicyModel", "see", "(I)I"⟩, 46) := ⟨⟨by decide +kernel, by decide +kernel⟩, List.mem_of_getElem? (i := 1074) (by decide +kernel), List.mem_of_getElem? (i := 1250) (by decide +kernel), List.mem_of_getElem? (i := 1251) (by decide +kernel)⟩
theorem lw_p43 : lw_okq (⟨"PepperPolicyModel", "good", "()Z"⟩, 46) := ⟨⟨by decide +kernel, by decide +kernel⟩, List.mem_of_getElem? (i := 1074) (by decide +kernel), List.mem_of_getElem? (i := 1260) (by decide +kernel), List.mem_of_getElem? (i := 1261) (by decide +kernel)⟩
theorem lw_p44 : lw_okq (⟨"PepperPolicyModel", "readLine", "()V"⟩, 46) := ⟨⟨by decide +kernel, by decide +kernel⟩, List.mem_of_getElem? (i := 1074) (by decide +kernel), List.mem_of_getElem? (i := 1264) (by decide +kernel), List.mem_of_getElem? (i := 1265) (by decide +kernel)⟩
theorem lw_p45 : lw_okq (⟨"PepperPolicyModel", "readFirst", "()V"⟩, 46) := ⟨⟨by decide +kernel, by decide +kernel⟩, List.mem_of_getElem? (i := 1074) (by decide +kernel), List.mem_of_getElem? (i := 1268) (by decide +kernel), List.mem_of_getElem? (i := 1269) (by decide +kernel)⟩
theorem lw_p46 : lw_okq (⟨"PepperPolicyModel", "needs", "(Ljava/lang/String;)V"⟩, 46) := ⟨⟨by decide +kernel, by decide +kernel⟩, List.mem_of_getElem? (i := 1074) (by decide +kernel), List.mem_of_getElem? (i := 1273) (by decide +kernel), List.mem_of_getElem? (i := 1274) (by decide +kernel)⟩
theorem lw_p47 : lw_okq (⟨"PepperPolicyModel", "takes", "(Ljava/lang/String;)Z"⟩, 46) := ⟨⟨by decide +kernel, by decide +kernel⟩, List.mem_of_getElem? (i := 1074) (by decide +kernel), List.mem_of_getElem? (i := 1277) (by decide +kernel), List.mem_of_getElem? (i := 1278) (by decide +kernel)⟩
def lw_privs_3 : List (MethodName × Nat) := [(⟨"PepperPolicy", "seek", "(I)I"⟩, 12), (⟨"PepperPolicy$Suspects", "meets", "(LPepperPolicy$Day;I)Z"⟩, 5), (⟨"PepperPolicy$Suspects", "note", "(LPepperPolicy$Day;II)V"⟩, 5), (⟨"PepperPolicy", "lossOf", "(IIII)I"⟩, 12), (⟨"PepperPolicy", "isPuffMinute", "(I)Z"⟩, 12), (⟨"PepperPolicy$Puffs", "weigh", "(II)V"⟩, 5), (⟨"PepperPolicy$Puffs", "worth", "(LPepperPolicy$House;III)J"⟩, 5), (⟨"PepperPolicy$Puffs", "lower", "()V"⟩, 5), (⟨"PepperPolicy", "liveDrawn", "(I)I"⟩, 12), (⟨"PepperPolicyModel", "advance", "()V"⟩, 46), (⟨"PepperPolicyModel", "see", "(I)I"⟩, 46), (⟨"PepperPolicyModel", "good", "()Z"⟩, 46), (⟨"PepperPolicyModel", "readLine", "()V"⟩, 46), (⟨"PepperPolicyModel", "readFirst", "()V"⟩, 46), (⟨"PepperPolicyModel", "needs", "(Ljava/lang/String;)V"⟩, 46), (⟨"PepperPolicyModel", "takes", "(Ljava/lang/String;)Z"⟩, 46)]
theorem lw_r3 : ∀ q ∈ lw_privs_3, lw_okq q := List.forall_mem_cons.mpr ⟨lw_p32, List.forall_mem_cons.mpr ⟨lw_p33, List.forall_mem_cons.mpr ⟨lw_p34, List.forall_mem_cons.mpr ⟨lw_p35, List.forall_mem_cons.mpr ⟨lw_p36, List.forall_mem_cons.mpr ⟨lw_p37, List.forall_mem_cons.mpr ⟨lw_p38, List.forall_mem_cons.mpr ⟨lw_p39, List.forall_mem_cons.mpr ⟨lw_p40, List.forall_mem_cons.mpr ⟨lw_p41, List.forall_mem_cons.mpr ⟨lw_p42, List.forall_mem_cons.mpr ⟨lw_p43, List.forall_mem_cons.mpr ⟨lw_p44, List.forall_mem_cons.mpr ⟨lw_p45, List.forall_mem_cons.mpr ⟨lw_p46, List.forall_mem_cons.mpr ⟨lw_p47, fun _ h => absurd h List.not_mem_nil⟩⟩⟩⟩⟩⟩⟩⟩⟩⟩⟩⟩⟩⟩⟩⟩
theorem lw_p48 : lw_okq (⟨"PepperPolicyModel", "is", "(Ljava/lang/String;)Z"⟩, 46) := ⟨⟨by decide +kernel, by decide +kernel⟩, List.mem_of_getElem? (i := 1074) (by decide +kernel), List.mem_of_getElem? (i := 1281) (by decide +kernel), List.mem_of_getElem? (i := 1282) (by decide +kernel)⟩
theorem lw_p49 : lw_okq (⟨"PepperPolicyModel", "errs", "(I)V"⟩, 46) := ⟨⟨by decide +kernel, by decide +kernel⟩, List.mem_of_getElem? (i := 1074) (by decide +kernel), List.mem_of_getElem? (i := 1287) (by decide +kernel), List.mem_of_getElem? (i := 1288) (by decide +kernel)⟩
theorem lw_p50 : lw_okq (⟨"PepperPolicyModel", "told", "(Ljava/lang/String;II)I"⟩, 46) := ⟨⟨by decide +kernel, by decide +kernel⟩, List.mem_of_getElem? (i := 1074) (by decide +kernel), List.mem_of_getElem? (i := 1292) (by decide +kernel), List.mem_of_getElem? (i := 1293) (by decide +kernel)⟩
theorem lw_p51 : lw_okq (⟨"PepperPolicyModel", "number", "(II)I"⟩, 46) := ⟨⟨by decide +kernel, by decide +kernel⟩, List.mem_of_getElem? (i := 1074) (by decide +kernel), List.mem_of_getElem? (i := 1296) (by decide +kernel), List.mem_of_getElem? (i := 1297) (by decide +kernel)⟩
theorem lw_p52 : lw_okq (⟨"PepperPolicyModel", "readNext", "()V"⟩, 46) := ⟨⟨by decide +kernel, by decide +kernel⟩, List.mem_of_getElem? (i := 1074) (by decide +kernel), List.mem_of_getElem? (i := 1304) (by decide +kernel), List.mem_of_getElem? (i := 1305) (by decide +kernel)⟩
theorem lw_p53 : lw_okq (⟨"PepperPolicyModel", "readNet", "()V"⟩, 46) := ⟨⟨by decide +kernel, by decide +kernel⟩, List.mem_of_getElem? (i := 1074) (by decide +kernel), List.mem_of_getElem? (i := 1314) (by decide +kernel), List.mem_of_getElem? (i := 1315) (by decide +kernel)⟩
theorem lw_p54 : lw_okq (⟨"PepperPolicyModel", "readPolicy", "()V"⟩, 46) := ⟨⟨by decide +kernel, by decide +kernel⟩, List.mem_of_getElem? (i := 1074) (by decide +kernel), List.mem_of_getElem? (i := 1318) (by decide +kernel), List.mem_of_getElem? (i := 1319) (by decide +kernel)⟩
theorem lw_p55 : lw_okq (⟨"PepperPolicyModel", "isPerson", "(J)Z"⟩, 46) := ⟨⟨by decide +kernel, by decide +kernel⟩, List.mem_of_getElem? (i := 1074) (by decide +kernel), List.mem_of_getElem? (i := 1330) (by decide +kernel), List.mem_of_getElem? (i := 1331) (by decide +kernel)⟩
theorem lw_p56 : lw_okq (⟨"PepperPolicyModel", "isPolicy", "(I)Z"⟩, 46) := ⟨⟨by decide +kernel, by decide +kernel⟩, List.mem_of_getElem? (i := 1074) (by decide +kernel), List.mem_of_getElem? (i := 1338) (by decide +kernel), List.mem_of_getElem? (i := 1339) (by decide +kernel)⟩
theorem lw_p57 : lw_okq (⟨"PepperPolicyModel", "of", "(II)I"⟩, 46) := ⟨⟨by decide +kernel, by decide +kernel⟩, List.mem_of_getElem? (i := 1074) (by decide +kernel), List.mem_of_getElem? (i := 1343) (by decide +kernel), List.mem_of_getElem? (i := 1344) (by decide +kernel)⟩
theorem lw_p58 : lw_okq (⟨"PepperPolicyModel", "asItIs", "()V"⟩, 46) := ⟨⟨by decide +kernel, by decide +kernel⟩, List.mem_of_getElem? (i := 1074) (by decide +kernel), List.mem_of_getElem? (i := 1351) (by decide +kernel), List.mem_of_getElem? (i := 1352) (by decide +kernel)⟩
theorem lw_p59 : lw_okq (⟨"PepperPolicyModel", "minutes", "()I"⟩, 46) := ⟨⟨by decide +kernel, by decide +kernel⟩, List.mem_of_getElem? (i := 1074) (by decide +kernel), List.mem_of_getElem? (i := 1355) (by decide +kernel), List.mem_of_getElem? (i := 1356) (by decide +kernel)⟩
theorem lw_p60 : lw_okq (⟨"PepperPolicyModel", "netsTo", "(II)I"⟩, 46) := ⟨⟨by decide +kernel, by decide +kernel⟩, List.mem_of_getElem? (i := 1074) (by decide +kernel), List.mem_of_getElem? (i := 1359) (by decide +kernel), List.mem_of_getElem? (i := 1360) (by decide +kernel)⟩
theorem lw_p61 : lw_okq (⟨"PepperPolicyModel", "asksMinute", "(I)Z"⟩, 46) := ⟨⟨by decide +kernel, by decide +kernel⟩, List.mem_of_getElem? (i := 1074) (by decide +kernel), List.mem_of_getElem? (i := 1370) (by decide +kernel), List.mem_of_getElem? (i := 1371) (by decide +kernel)⟩
theorem lw_p62 : lw_okq (⟨"PepperPolicyModel", "asksHouse", "()Z"⟩, 46) := ⟨⟨by decide +kernel, by decide +kernel⟩, List.mem_of_getElem? (i := 1074) (by decide +kernel), List.mem_of_getElem? (i := 1374) (by decide +kernel), List.mem_of_getElem? (i := 1375) (by decide +kernel)⟩
theorem lw_p63 : lw_okq (⟨"PepperPolicyModel", "goAll", "()V"⟩, 46) := ⟨⟨by decide +kernel, by decide +kernel⟩, List.mem_of_getElem? (i := 1074) (by decide +kernel), List.mem_of_getElem? (i := 1378) (by decide +kernel), List.mem_of_getElem? (i := 1379) (by decide +kernel)⟩
def lw_privs_4 : List (MethodName × Nat) := [(⟨"PepperPolicyModel", "is", "(Ljava/lang/String;)Z"⟩, 46), (⟨"PepperPolicyModel", "errs", "(I)V"⟩, 46), (⟨"PepperPolicyModel", "told", "(Ljava/lang/String;II)I"⟩, 46), (⟨"PepperPolicyModel", "number", "(II)I"⟩, 46), (⟨"PepperPolicyModel", "readNext", "()V"⟩, 46), (⟨"PepperPolicyModel", "readNet", "()V"⟩, 46), (⟨"PepperPolicyModel", "readPolicy", "()V"⟩, 46), (⟨"PepperPolicyModel", "isPerson", "(J)Z"⟩, 46), (⟨"PepperPolicyModel", "isPolicy", "(I)Z"⟩, 46), (⟨"PepperPolicyModel", "of", "(II)I"⟩, 46), (⟨"PepperPolicyModel", "asItIs", "()V"⟩, 46), (⟨"PepperPolicyModel", "minutes", "()I"⟩, 46), (⟨"PepperPolicyModel", "netsTo", "(II)I"⟩, 46), (⟨"PepperPolicyModel", "asksMinute", "(I)Z"⟩, 46), (⟨"PepperPolicyModel", "asksHouse", "()Z"⟩, 46), (⟨"PepperPolicyModel", "goAll", "()V"⟩, 46)]
theorem lw_r4 : ∀ q ∈ lw_privs_4, lw_okq q := List.forall_mem_cons.mpr ⟨lw_p48, List.forall_mem_cons.mpr ⟨lw_p49, List.forall_mem_cons.mpr ⟨lw_p50, List.forall_mem_cons.mpr ⟨lw_p51, List.forall_mem_cons.mpr ⟨lw_p52, List.forall_mem_cons.mpr ⟨lw_p53, List.forall_mem_cons.mpr ⟨lw_p54, List.forall_mem_cons.mpr ⟨lw_p55, List.forall_mem_cons.mpr ⟨lw_p56, List.forall_mem_cons.mpr ⟨lw_p57, List.forall_mem_cons.mpr ⟨lw_p58, List.forall_mem_cons.mpr ⟨lw_p59, List.forall_mem_cons.mpr ⟨lw_p60, List.forall_mem_cons.mpr ⟨lw_p61, List.forall_mem_cons.mpr ⟨lw_p62, List.forall_mem_cons.mpr ⟨lw_p63, fun _ h => absurd h List.not_mem_nil⟩⟩⟩⟩⟩⟩⟩⟩⟩⟩⟩⟩⟩⟩⟩⟩
theorem lw_p64 : lw_okq (⟨"PepperPolicyModel", "goMinute", "(I)V"⟩, 46) := ⟨⟨by decide +kernel, by decide +kernel⟩, List.mem_of_getElem? (i := 1074) (by decide +kernel), List.mem_of_getElem? (i := 1382) (by decide +kernel), List.mem_of_getElem? (i := 1383) (by decide +kernel)⟩
theorem lw_p65 : lw_okq (⟨"PepperPolicyModel", "isHouse", "()Z"⟩, 46) := ⟨⟨by decide +kernel, by decide +kernel⟩, List.mem_of_getElem? (i := 1074) (by decide +kernel), List.mem_of_getElem? (i := 1386) (by decide +kernel), List.mem_of_getElem? (i := 1387) (by decide +kernel)⟩
theorem lw_p66 : lw_okq (⟨"PepperPolicyModel", "isMinute", "(J)Z"⟩, 46) := ⟨⟨by decide +kernel, by decide +kernel⟩, List.mem_of_getElem? (i := 1074) (by decide +kernel), List.mem_of_getElem? (i := 1390) (by decide +kernel), List.mem_of_getElem? (i := 1391) (by decide +kernel)⟩
theorem lw_p67 : lw_okq (⟨"PepperPolicyModel", "asksPerson", "(I)Z"⟩, 46) := ⟨⟨by decide +kernel, by decide +kernel⟩, List.mem_of_getElem? (i := 1074) (by decide +kernel), List.mem_of_getElem? (i := 1398) (by decide +kernel), List.mem_of_getElem? (i := 1399) (by decide +kernel)⟩
theorem lw_p68 : lw_okq (⟨"PepperPolicyModel", "allSneezes", "()I"⟩, 46) := ⟨⟨by decide +kernel, by decide +kernel⟩, List.mem_of_getElem? (i := 1074) (by decide +kernel), List.mem_of_getElem? (i := 1413) (by decide +kernel), List.mem_of_getElem? (i := 1414) (by decide +kernel)⟩
theorem lw_p69 : lw_okq (⟨"PepperPolicyModel", "quietBy", "(IIII)I"⟩, 46) := ⟨⟨by decide +kernel, by decide +kernel⟩, List.mem_of_getElem? (i := 1074) (by decide +kernel), List.mem_of_getElem? (i := 1477) (by decide +kernel), List.mem_of_getElem? (i := 1478) (by decide +kernel)⟩
theorem lw_p70 : lw_okq (⟨"PepperPolicyModel", "asksPolicy", "(I)Z"⟩, 46) := ⟨⟨by decide +kernel, by decide +kernel⟩, List.mem_of_getElem? (i := 1074) (by decide +kernel), List.mem_of_getElem? (i := 1493) (by decide +kernel), List.mem_of_getElem? (i := 1494) (by decide +kernel)⟩
theorem lw_p71 : lw_okq (⟨"PepperPolicyModel", "claimOf", "(I)I"⟩, 46) := ⟨⟨by decide +kernel, by decide +kernel⟩, List.mem_of_getElem? (i := 1074) (by decide +kernel), List.mem_of_getElem? (i := 1497) (by decide +kernel), List.mem_of_getElem? (i := 1498) (by decide +kernel)⟩
theorem lw_p72 : lw_okq (⟨"PepperPolicyModel", "claimOf", "(IIZ)I"⟩, 46) := ⟨⟨by decide +kernel, by decide +kernel⟩, List.mem_of_getElem? (i := 1074) (by decide +kernel), List.mem_of_getElem? (i := 1501) (by decide +kernel), List.mem_of_getElem? (i := 1502) (by decide +kernel)⟩
theorem lw_p73 : lw_okq (⟨"PepperPolicyModel", "windowOf", "(I)I"⟩, 46) := ⟨⟨by decide +kernel, by decide +kernel⟩, List.mem_of_getElem? (i := 1074) (by decide +kernel), List.mem_of_getElem? (i := 1505) (by decide +kernel), List.mem_of_getElem? (i := 1506) (by decide +kernel)⟩
theorem lw_p74 : lw_okq (⟨"PepperPolicyModel", "ahead", "(I)I"⟩, 46) := ⟨⟨by decide +kernel, by decide +kernel⟩, List.mem_of_getElem? (i := 1074) (by decide +kernel), List.mem_of_getElem? (i := 1509) (by decide +kernel), List.mem_of_getElem? (i := 1510) (by decide +kernel)⟩
theorem lw_p75 : lw_okq (⟨"PepperPolicyModel", "layPaid", "()V"⟩, 46) := ⟨⟨by decide +kernel, by decide +kernel⟩, List.mem_of_getElem? (i := 1074) (by decide +kernel), List.mem_of_getElem? (i := 1526) (by decide +kernel), List.mem_of_getElem? (i := 1527) (by decide +kernel)⟩
theorem lw_p76 : lw_okq (⟨"PepperPolicyModel", "moneyAt", "(I)I"⟩, 46) := ⟨⟨by decide +kernel, by decide +kernel⟩, List.mem_of_getElem? (i := 1074) (by decide +kernel), List.mem_of_getElem? (i := 1530) (by decide +kernel), List.mem_of_getElem? (i := 1531) (by decide +kernel)⟩
theorem lw_p77 : lw_okq (⟨"PepperPolicyModel", "ruinOf", "()I"⟩, 46) := ⟨⟨by decide +kernel, by decide +kernel⟩, List.mem_of_getElem? (i := 1074) (by decide +kernel), List.mem_of_getElem? (i := 1538) (by decide +kernel), List.mem_of_getElem? (i := 1539) (by decide +kernel)⟩
theorem lw_p78 : lw_okq (⟨"PepperPolicyModel", "coveredOf", "(I)I"⟩, 46) := ⟨⟨by decide +kernel, by decide +kernel⟩, List.mem_of_getElem? (i := 1074) (by decide +kernel), List.mem_of_getElem? (i := 1546) (by decide +kernel), List.mem_of_getElem? (i := 1547) (by decide +kernel)⟩
theorem lw_p79 : lw_okq (⟨"PepperPolicyModel", "byLaw", "(I)I"⟩, 46) := ⟨⟨by decide +kernel, by decide +kernel⟩, List.mem_of_getElem? (i := 1074) (by decide +kernel), List.mem_of_getElem? (i := 1582) (by decide +kernel), List.mem_of_getElem? (i := 1583) (by decide +kernel)⟩
def lw_privs_5 : List (MethodName × Nat) := [(⟨"PepperPolicyModel", "goMinute", "(I)V"⟩, 46), (⟨"PepperPolicyModel", "isHouse", "()Z"⟩, 46), (⟨"PepperPolicyModel", "isMinute", "(J)Z"⟩, 46), (⟨"PepperPolicyModel", "asksPerson", "(I)Z"⟩, 46), (⟨"PepperPolicyModel", "allSneezes", "()I"⟩, 46), (⟨"PepperPolicyModel", "quietBy", "(IIII)I"⟩, 46), (⟨"PepperPolicyModel", "asksPolicy", "(I)Z"⟩, 46), (⟨"PepperPolicyModel", "claimOf", "(I)I"⟩, 46), (⟨"PepperPolicyModel", "claimOf", "(IIZ)I"⟩, 46), (⟨"PepperPolicyModel", "windowOf", "(I)I"⟩, 46), (⟨"PepperPolicyModel", "ahead", "(I)I"⟩, 46), (⟨"PepperPolicyModel", "layPaid", "()V"⟩, 46), (⟨"PepperPolicyModel", "moneyAt", "(I)I"⟩, 46), (⟨"PepperPolicyModel", "ruinOf", "()I"⟩, 46), (⟨"PepperPolicyModel", "coveredOf", "(I)I"⟩, 46), (⟨"PepperPolicyModel", "byLaw", "(I)I"⟩, 46)]
theorem lw_r5 : ∀ q ∈ lw_privs_5, lw_okq q := List.forall_mem_cons.mpr ⟨lw_p64, List.forall_mem_cons.mpr ⟨lw_p65, List.forall_mem_cons.mpr ⟨lw_p66, List.forall_mem_cons.mpr ⟨lw_p67, List.forall_mem_cons.mpr ⟨lw_p68, List.forall_mem_cons.mpr ⟨lw_p69, List.forall_mem_cons.mpr ⟨lw_p70, List.forall_mem_cons.mpr ⟨lw_p71, List.forall_mem_cons.mpr ⟨lw_p72, List.forall_mem_cons.mpr ⟨lw_p73, List.forall_mem_cons.mpr ⟨lw_p74, List.forall_mem_cons.mpr ⟨lw_p75, List.forall_mem_cons.mpr ⟨lw_p76, List.forall_mem_cons.mpr ⟨lw_p77, List.forall_mem_cons.mpr ⟨lw_p78, List.forall_mem_cons.mpr ⟨lw_p79, fun _ h => absurd h List.not_mem_nil⟩⟩⟩⟩⟩⟩⟩⟩⟩⟩⟩⟩⟩⟩⟩⟩
theorem lw_p80 : lw_okq (⟨"PepperPolicyModel", "takesBy", "(III)I"⟩, 46) := ⟨⟨by decide +kernel, by decide +kernel⟩, List.mem_of_getElem? (i := 1074) (by decide +kernel), List.mem_of_getElem? (i := 1594) (by decide +kernel), List.mem_of_getElem? (i := 1595) (by decide +kernel)⟩
theorem lw_p81 : lw_okq (⟨"PepperPolicyModel", "isTaken", "(II)Z"⟩, 46) := ⟨⟨by decide +kernel, by decide +kernel⟩, List.mem_of_getElem? (i := 1074) (by decide +kernel), List.mem_of_getElem? (i := 1606) (by decide +kernel), List.mem_of_getElem? (i := 1607) (by decide +kernel)⟩
theorem lw_p82 : lw_okq (⟨"PepperPolicyModel", "layHolds", "(I)Z"⟩, 46) := ⟨⟨by decide +kernel, by decide +kernel⟩, List.mem_of_getElem? (i := 1074) (by decide +kernel), List.mem_of_getElem? (i := 1614) (by decide +kernel), List.mem_of_getElem? (i := 1615) (by decide +kernel)⟩
theorem lw_p83 : lw_okq (⟨"PepperPolicyModel", "layHold", "(IIII)V"⟩, 46) := ⟨⟨by decide +kernel, by decide +kernel⟩, List.mem_of_getElem? (i := 1074) (by decide +kernel), List.mem_of_getElem? (i := 1618) (by decide +kernel), List.mem_of_getElem? (i := 1619) (by decide +kernel)⟩
theorem lw_p84 : lw_okq (⟨"PepperPolicyModel", "tickleSince", "(III)I"⟩, 46) := ⟨⟨by decide +kernel, by decide +kernel⟩, List.mem_of_getElem? (i := 1074) (by decide +kernel), List.mem_of_getElem? (i := 1622) (by decide +kernel), List.mem_of_getElem? (i := 1623) (by decide +kernel)⟩
theorem lw_p85 : lw_okq (⟨"PepperPolicyModel", "fraudsOf", "(I)I"⟩, 46) := ⟨⟨by decide +kernel, by decide +kernel⟩, List.mem_of_getElem? (i := 1074) (by decide +kernel), List.mem_of_getElem? (i := 1634) (by decide +kernel), List.mem_of_getElem? (i := 1635) (by decide +kernel)⟩
theorem lw_p86 : lw_okq (⟨"PepperPolicyModel", "layPairs", "(I)I"⟩, 46) := ⟨⟨by decide +kernel, by decide +kernel⟩, List.mem_of_getElem? (i := 1074) (by decide +kernel), List.mem_of_getElem? (i := 1646) (by decide +kernel), List.mem_of_getElem? (i := 1647) (by decide +kernel)⟩
theorem lw_p87 : lw_okq (⟨"PepperPolicyModel", "numberAt", "(II)J"⟩, 46) := ⟨⟨by decide +kernel, by decide +kernel⟩, List.mem_of_getElem? (i := 1074) (by decide +kernel), List.mem_of_getElem? (i := 1653) (by decide +kernel), List.mem_of_getElem? (i := 1654) (by decide +kernel)⟩
theorem lw_p88 : lw_okq (⟨"PepperPolicyModel", "askOf", "()I"⟩, 46) := ⟨⟨by decide +kernel, by decide +kernel⟩, List.mem_of_getElem? (i := 1074) (by decide +kernel), List.mem_of_getElem? (i := 1669) (by decide +kernel), List.mem_of_getElem? (i := 1670) (by decide +kernel)⟩
theorem lw_p89 : lw_okq (⟨"PepperPolicyModel", "areTwo", "(II)Z"⟩, 46) := ⟨⟨by decide +kernel, by decide +kernel⟩, List.mem_of_getElem? (i := 1074) (by decide +kernel), List.mem_of_getElem? (i := 1681) (by decide +kernel), List.mem_of_getElem? (i := 1682) (by decide +kernel)⟩
theorem lw_p90 : lw_okq (⟨"PepperPolicyModel", "losesBy", "(IIIII)I"⟩, 46) := ⟨⟨by decide +kernel, by decide +kernel⟩, List.mem_of_getElem? (i := 1074) (by decide +kernel), List.mem_of_getElem? (i := 1685) (by decide +kernel), List.mem_of_getElem? (i := 1686) (by decide +kernel)⟩
theorem lw_p91 : lw_okq (⟨"PepperPolicyModel", "allWithout", "(I)I"⟩, 46) := ⟨⟨by decide +kernel, by decide +kernel⟩, List.mem_of_getElem? (i := 1074) (by decide +kernel), List.mem_of_getElem? (i := 1697) (by decide +kernel), List.mem_of_getElem? (i := 1698) (by decide +kernel)⟩
theorem lw_p92 : lw_okq (⟨"PepperPolicyModel", "isPuffs", "(II)Z"⟩, 46) := ⟨⟨by decide +kernel, by decide +kernel⟩, List.mem_of_getElem? (i := 1074) (by decide +kernel), List.mem_of_getElem? (i := 1709) (by decide +kernel), List.mem_of_getElem? (i := 1710) (by decide +kernel)⟩
theorem lw_p93 : lw_okq (⟨"PepperPolicyModel", "layPuffs", "(III)V"⟩, 46) := ⟨⟨by decide +kernel, by decide +kernel⟩, List.mem_of_getElem? (i := 1074) (by decide +kernel), List.mem_of_getElem? (i := 1715) (by decide +kernel), List.mem_of_getElem? (i := 1716) (by decide +kernel)⟩
theorem lw_p94 : lw_okq (⟨"PepperPolicyModel", "keepAct", "(I)I"⟩, 46) := ⟨⟨by decide +kernel, by decide +kernel⟩, List.mem_of_getElem? (i := 1074) (by decide +kernel), List.mem_of_getElem? (i := 1737) (by decide +kernel), List.mem_of_getElem? (i := 1738) (by decide +kernel)⟩
theorem lw_p95 : lw_okq (⟨"PepperPolicyModel", "goDrawn", "(J)I"⟩, 46) := ⟨⟨by decide +kernel, by decide +kernel⟩, List.mem_of_getElem? (i := 1074) (by decide +kernel), List.mem_of_getElem? (i := 1761) (by decide +kernel), List.mem_of_getElem? (i := 1762) (by decide +kernel)⟩
def lw_privs_6 : List (MethodName × Nat) := [(⟨"PepperPolicyModel", "takesBy", "(III)I"⟩, 46), (⟨"PepperPolicyModel", "isTaken", "(II)Z"⟩, 46), (⟨"PepperPolicyModel", "layHolds", "(I)Z"⟩, 46), (⟨"PepperPolicyModel", "layHold", "(IIII)V"⟩, 46), (⟨"PepperPolicyModel", "tickleSince", "(III)I"⟩, 46), (⟨"PepperPolicyModel", "fraudsOf", "(I)I"⟩, 46), (⟨"PepperPolicyModel", "layPairs", "(I)I"⟩, 46), (⟨"PepperPolicyModel", "numberAt", "(II)J"⟩, 46), (⟨"PepperPolicyModel", "askOf", "()I"⟩, 46), (⟨"PepperPolicyModel", "areTwo", "(II)Z"⟩, 46), (⟨"PepperPolicyModel", "losesBy", "(IIIII)I"⟩, 46), (⟨"PepperPolicyModel", "allWithout", "(I)I"⟩, 46), (⟨"PepperPolicyModel", "isPuffs", "(II)Z"⟩, 46), (⟨"PepperPolicyModel", "layPuffs", "(III)V"⟩, 46), (⟨"PepperPolicyModel", "keepAct", "(I)I"⟩, 46), (⟨"PepperPolicyModel", "goDrawn", "(J)I"⟩, 46)]
theorem lw_r6 : ∀ q ∈ lw_privs_6, lw_okq q := List.forall_mem_cons.mpr ⟨lw_p80, List.forall_mem_cons.mpr ⟨lw_p81, List.forall_mem_cons.mpr ⟨lw_p82, List.forall_mem_cons.mpr ⟨lw_p83, List.forall_mem_cons.mpr ⟨lw_p84, List.forall_mem_cons.mpr ⟨lw_p85, List.forall_mem_cons.mpr ⟨lw_p86, List.forall_mem_cons.mpr ⟨lw_p87, List.forall_mem_cons.mpr ⟨lw_p88, List.forall_mem_cons.mpr ⟨lw_p89, List.forall_mem_cons.mpr ⟨lw_p90, List.forall_mem_cons.mpr ⟨lw_p91, List.forall_mem_cons.mpr ⟨lw_p92, List.forall_mem_cons.mpr ⟨lw_p93, List.forall_mem_cons.mpr ⟨lw_p94, List.forall_mem_cons.mpr ⟨lw_p95, fun _ h => absurd h List.not_mem_nil⟩⟩⟩⟩⟩⟩⟩⟩⟩⟩⟩⟩⟩⟩⟩⟩
def lw_privs : List (MethodName × Nat) := lw_privs_1 ++ (lw_privs_2 ++ (lw_privs_3 ++ (lw_privs_4 ++ (lw_privs_5 ++ (lw_privs_6)))))
def lw_tbl : List Cond := k2_sels lw_privs ++ tables_1
theorem lw_privs_ok : ∀ q ∈ lw_privs, lw_okq q := by
  show ∀ q ∈ lw_privs_1 ++ (lw_privs_2 ++ (lw_privs_3 ++ (lw_privs_4 ++ (lw_privs_5 ++ (lw_privs_6))))), lw_okq q
  exact List.forall_mem_append.mpr ⟨lw_r1, List.forall_mem_append.mpr ⟨lw_r2, List.forall_mem_append.mpr ⟨lw_r3, List.forall_mem_append.mpr ⟨lw_r4, List.forall_mem_append.mpr ⟨lw_r5, lw_r6⟩⟩⟩⟩⟩
def RX0 : String := "PepperPolicy$Day"
def TX0 : u_T := fun k => match k with
  | 0 => ("PepperPolicy$Day", "minutes", "I", false)
  | 1 => ("PepperPolicy$Day", "persons", "I", false)
  | 2 => ("PepperPolicy$Day", "netCount", "I", false)
  | 3 => ("PepperPolicy$Day", "without", "I", false)
  | 4 => ("PepperPolicy$Day", "dusts", "[I", true)
  | 5 => ("PepperPolicy$Day", "keen", "[I", true)
  | 6 => ("PepperPolicy$Day", "limits", "[I", true)
  | 7 => ("PepperPolicy$Day", "held", "[I", true)
  | 8 => ("PepperPolicy$Day", "snuffed", "[I", true)
  | 9 => ("PepperPolicy$Day", "nets", "[I", true)
  | 10 => ("PepperPolicy$Day", "tickles", "[I", true)
  | 11 => ("PepperPolicy$Day", "came", "[I", true)
  | 12 => ("PepperPolicy$Day", "sneezers", "[I", true)
  | _ => ("PepperPolicy$Day", "sneezed", "[I", true)
def tyX0 : Nat → FieldType := fun k => match k with
  | 0 => .int
  | 1 => .int
  | 2 => .int
  | 3 => .int
  | 4 => .array .int
  | 5 => .array .int
  | 6 => .array .int
  | 7 => .array .int
  | 8 => .array .int
  | 9 => .array .int
  | 10 => .array .int
  | 11 => .array .int
  | 12 => .array .int
  | _ => .array .int
abbrev wsX00 : List Cond := u_ws RX0 TX0 14
theorem nmX0 : ∀ a, a < 14 → ∀ b, b < 14 → a ≠ b → (TX0 a).2.1 ≠ (TX0 b).2.1 := by decide +kernel
theorem tyX0_ok : ∀ k, k < 14 → parseFieldDescriptor (TX0 k).2.2.1 = some (tyX0 k) := by decide +kernel
abbrev cX0_init : ByteArray := prog_2_method_1_code
def yX0_init : MethodName := ⟨RX0, "<init>", "()V"⟩
abbrev cX0_tellFrom : ByteArray := prog_2_method_2_code
def yX0_tellFrom : MethodName := ⟨RX0, "tellFrom", "(LPepperPolicy$House;)V"⟩
abbrev cX0_copyFrom : ByteArray := prog_2_method_3_code
def yX0_copyFrom : MethodName := ⟨RX0, "copyFrom", "(LPepperPolicy$Day;)V"⟩
abbrev cX0_liveWhole : ByteArray := prog_2_method_4_code
def yX0_liveWhole : MethodName := ⟨RX0, "liveWhole", "()V"⟩
abbrev cX0_live : ByteArray := prog_2_method_5_code
def yX0_live : MethodName := ⟨RX0, "live", "(II)V"⟩
abbrev cX0_tickleByNets : ByteArray := prog_2_method_6_code
def yX0_tickleByNets : MethodName := ⟨RX0, "tickleByNets", "(I)V"⟩
abbrev cX0_liveMinute : ByteArray := prog_2_method_7_code
def yX0_liveMinute : MethodName := ⟨RX0, "liveMinute", "(I)V"⟩
abbrev cX0_comesTo : ByteArray := prog_2_method_8_code
def yX0_comesTo : MethodName := ⟨RX0, "comesTo", "(II)I"⟩
abbrev cX0_cameAt : ByteArray := prog_2_method_9_code
def yX0_cameAt : MethodName := ⟨RX0, "cameAt", "(II)I"⟩
abbrev cX0_tickleAt : ByteArray := prog_2_method_10_code
def yX0_tickleAt : MethodName := ⟨RX0, "tickleAt", "(II)I"⟩
abbrev cX0_total : ByteArray := prog_2_method_11_code
def yX0_total : MethodName := ⟨RX0, "total", "()I"⟩
def RX1 : String := "PepperPolicy$Holding"
def TX1 : u_T := fun k => match k with
  | 0 => ("PepperPolicy$Holding", "fresh", "[J", true)
  | _ => ("PepperPolicy$Holding", "best", "J", false)
def tyX1 : Nat → FieldType := fun k => match k with
  | 0 => .array .long
  | _ => .long
abbrev wsX10 : List Cond := u_ws RX1 TX1 2
theorem nmX1 : ∀ a, a < 2 → ∀ b, b < 2 → a ≠ b → (TX1 a).2.1 ≠ (TX1 b).2.1 := by decide +kernel
theorem tyX1_ok : ∀ k, k < 2 → parseFieldDescriptor (TX1 k).2.2.1 = some (tyX1 k) := by decide +kernel
abbrev cX1_init : ByteArray := prog_3_method_1_code
def yX1_init : MethodName := ⟨RX1, "<init>", "()V"⟩
abbrev cX1_reckon : ByteArray := prog_3_method_2_code
def yX1_reckon : MethodName := ⟨RX1, "reckon", "(LPepperPolicy$House;LPepperPolicy$Day;I)V"⟩
abbrev cX1_goOn : ByteArray := prog_3_method_3_code
def yX1_goOn : MethodName := ⟨RX1, "goOn", "(LPepperPolicy$Day;IIII)V"⟩
abbrev cX1_fewest : ByteArray := prog_3_method_4_code
def yX1_fewest : MethodName := ⟨RX1, "fewest", "()I"⟩
abbrev cX1_minutesHeld : ByteArray := prog_3_method_5_code
def yX1_minutesHeld : MethodName := ⟨RX1, "minutesHeld", "()I"⟩
def RX2 : String := "PepperPolicy$House"
def TX2 : u_T := fun k => match k with
  | 0 => ("PepperPolicy$House", "counts", "[I", true)
  | 1 => ("PepperPolicy$House", "noses", "[I", true)
  | 2 => ("PepperPolicy$House", "gusts", "[I", true)
  | 3 => ("PepperPolicy$House", "nets", "[I", true)
  | 4 => ("PepperPolicy$House", "policies", "[I", true)
  | _ => ("PepperPolicy$House", "acts", "[I", true)
def tyX2 : Nat → FieldType := fun k => match k with
  | 0 => .array .int
  | 1 => .array .int
  | 2 => .array .int
  | 3 => .array .int
  | 4 => .array .int
  | _ => .array .int
abbrev wsX20 : List Cond := u_ws RX2 TX2 6
theorem nmX2 : ∀ a, a < 6 → ∀ b, b < 6 → a ≠ b → (TX2 a).2.1 ≠ (TX2 b).2.1 := by decide +kernel
theorem tyX2_ok : ∀ k, k < 6 → parseFieldDescriptor (TX2 k).2.2.1 = some (tyX2 k) := by decide +kernel
abbrev cX2_init : ByteArray := prog_4_method_1_code
def yX2_init : MethodName := ⟨RX2, "<init>", "()V"⟩
abbrev cX2_clear : ByteArray := prog_4_method_2_code
def yX2_clear : MethodName := ⟨RX2, "clear", "()V"⟩
abbrev cX2_copyFrom : ByteArray := prog_4_method_3_code
def yX2_copyFrom : MethodName := ⟨RX2, "copyFrom", "(LPepperPolicy$House;)V"⟩
abbrev cX2_ofPolicy : ByteArray := prog_4_method_4_code
def yX2_ofPolicy : MethodName := ⟨RX2, "ofPolicy", "(II)I"⟩
abbrev cX2_window : ByteArray := prog_4_method_5_code
def yX2_window : MethodName := ⟨RX2, "window", "(I)I"⟩
abbrev cX2_gustMinutes : ByteArray := prog_4_method_6_code
def yX2_gustMinutes : MethodName := ⟨RX2, "gustMinutes", "()I"⟩
abbrev cX2_neighbours : ByteArray := prog_4_method_7_code
def yX2_neighbours : MethodName := ⟨RX2, "neighbours", "(I)I"⟩
abbrev cX2_act : ByteArray := prog_4_method_8_code
def yX2_act : MethodName := ⟨RX2, "act", "(III)Z"⟩
abbrev cX2_minutesOfActs : ByteArray := prog_4_method_9_code
def yX2_minutesOfActs : MethodName := ⟨RX2, "minutesOfActs", "(II)I"⟩
def RX3 : String := "PepperPolicy$Ledger"
def TX3 : u_T := fun k => match k with
  | 0 => ("PepperPolicy$Ledger", "due", "[I", true)
  | 1 => ("PepperPolicy$Ledger", "paidAt", "[I", true)
  | 2 => ("PepperPolicy$Ledger", "policies", "I", false)
  | _ => ("PepperPolicy$Ledger", "atFirst", "I", false)
def tyX3 : Nat → FieldType := fun k => match k with
  | 0 => .array .int
  | 1 => .array .int
  | 2 => .int
  | _ => .int
abbrev wsX30 : List Cond := u_ws RX3 TX3 4
theorem nmX3 : ∀ a, a < 4 → ∀ b, b < 4 → a ≠ b → (TX3 a).2.1 ≠ (TX3 b).2.1 := by decide +kernel
theorem tyX3_ok : ∀ k, k < 4 → parseFieldDescriptor (TX3 k).2.2.1 = some (tyX3 k) := by decide +kernel
abbrev cX3_init : ByteArray := prog_5_method_1_code
def yX3_init : MethodName := ⟨RX3, "<init>", "()V"⟩
abbrev cX3_reckon : ByteArray := prog_5_method_2_code
def yX3_reckon : MethodName := ⟨RX3, "reckon", "(LPepperPolicy$House;LPepperPolicy$Day;I)V"⟩
abbrev cX3_counting : ByteArray := prog_5_method_3_code
def yX3_counting : MethodName := ⟨RX3, "counting", "(LPepperPolicy$House;III)I"⟩
abbrev cX3_claimBy : ByteArray := prog_5_method_4_code
def yX3_claimBy : MethodName := ⟨RX3, "claimBy", "(LPepperPolicy$House;IIII)I"⟩
abbrev cX3_moneyAt : ByteArray := prog_5_method_5_code
def yX3_moneyAt : MethodName := ⟨RX3, "moneyAt", "(I)I"⟩
abbrev cX3_firstBelow : ByteArray := prog_5_method_6_code
def yX3_firstBelow : MethodName := ⟨RX3, "firstBelow", "(I)I"⟩
abbrev cX3_poorestMinute : ByteArray := prog_5_method_7_code
def yX3_poorestMinute : MethodName := ⟨RX3, "poorestMinute", "(I)I"⟩
def RX4 : String := "PepperPolicy$Puffs"
def TX4 : u_T := fun k => match k with
  | 0 => ("PepperPolicy$Puffs", "above", "J", false)
  | 1 => ("PepperPolicy$Puffs", "below", "J", false)
  | 2 => ("PepperPolicy$Puffs", "weights", "[J", true)
  | 3 => ("PepperPolicy$Puffs", "trial", "LPepperPolicy$Day;", true)
  | _ => ("PepperPolicy$Puffs", "ledger", "LPepperPolicy$Ledger;", true)
def tyX4 : Nat → FieldType := fun k => match k with
  | 0 => .long
  | 1 => .long
  | 2 => .array .long
  | 3 => .object "PepperPolicy$Day"
  | _ => .object "PepperPolicy$Ledger"
abbrev wsX40 : List Cond := u_ws RX4 TX4 5
theorem nmX4 : ∀ a, a < 5 → ∀ b, b < 5 → a ≠ b → (TX4 a).2.1 ≠ (TX4 b).2.1 := by decide +kernel
theorem tyX4_ok : ∀ k, k < 5 → parseFieldDescriptor (TX4 k).2.2.1 = some (tyX4 k) := by decide +kernel
abbrev cX4_init : ByteArray := prog_6_method_1_code
def yX4_init : MethodName := ⟨RX4, "<init>", "()V"⟩
abbrev cX4_reckon : ByteArray := prog_6_method_2_code
def yX4_reckon : MethodName := ⟨RX4, "reckon", "(LPepperPolicy$House;LPepperPolicy$Day;III)V"⟩
abbrev cX4_weigh : ByteArray := prog_6_method_3_code
def yX4_weigh : MethodName := ⟨RX4, "weigh", "(II)V"⟩
abbrev cX4_worth : ByteArray := prog_6_method_4_code
def yX4_worth : MethodName := ⟨RX4, "worth", "(LPepperPolicy$House;III)J"⟩
abbrev cX4_lower : ByteArray := prog_6_method_5_code
def yX4_lower : MethodName := ⟨RX4, "lower", "()V"⟩
def RX5 : String := "PepperPolicy$Reader"
def TX5 : u_T := fun k => match k with
  | 0 => ("PepperPolicy$Reader", "bytes", "[I", true)
  | 1 => ("PepperPolicy$Reader", "length", "I", false)
  | 2 => ("PepperPolicy$Reader", "fault", "I", false)
  | 3 => ("PepperPolicy$Reader", "place", "I", false)
  | 4 => ("PepperPolicy$Reader", "at", "I", false)
  | 5 => ("PepperPolicy$Reader", "stop", "I", false)
  | 6 => ("PepperPolicy$Reader", "kind", "I", false)
  | _ => ("PepperPolicy$Reader", "told", "LPepperPolicy$House;", false)
def tyX5 : Nat → FieldType := fun k => match k with
  | 0 => .array .int
  | 1 => .int
  | 2 => .int
  | 3 => .int
  | 4 => .int
  | 5 => .int
  | 6 => .int
  | _ => .object "PepperPolicy$House"
abbrev wsX50 : List Cond := u_ws RX5 TX5 8
theorem nmX5 : ∀ a, a < 8 → ∀ b, b < 8 → a ≠ b → (TX5 a).2.1 ≠ (TX5 b).2.1 := by decide +kernel
theorem tyX5_ok : ∀ k, k < 8 → parseFieldDescriptor (TX5 k).2.2.1 = some (tyX5 k) := by decide +kernel
abbrev cX5_init : ByteArray := prog_7_method_1_code
def yX5_init : MethodName := ⟨RX5, "<init>", "()V"⟩
abbrev cX5_put : ByteArray := prog_7_method_2_code
def yX5_put : MethodName := ⟨RX5, "put", "(I)V"⟩
abbrev cX5_read : ByteArray := prog_7_method_3_code
def yX5_read : MethodName := ⟨RX5, "read", "(LPepperPolicy$House;)V"⟩
abbrev cX5_readHouse : ByteArray := prog_7_method_4_code
def yX5_readHouse : MethodName := ⟨RX5, "readHouse", "()V"⟩
abbrev cX5_readLine : ByteArray := prog_7_method_5_code
def yX5_readLine : MethodName := ⟨RX5, "readLine", "()V"⟩
abbrev cX5_readNose : ByteArray := prog_7_method_6_code
def yX5_readNose : MethodName := ⟨RX5, "readNose", "(I)V"⟩
abbrev cX5_readGust : ByteArray := prog_7_method_7_code
def yX5_readGust : MethodName := ⟨RX5, "readGust", "(I)V"⟩
abbrev cX5_readNet : ByteArray := prog_7_method_8_code
def yX5_readNet : MethodName := ⟨RX5, "readNet", "(I)V"⟩
abbrev cX5_readPolicy : ByteArray := prog_7_method_9_code
def yX5_readPolicy : MethodName := ⟨RX5, "readPolicy", "(I)V"⟩
abbrev cX5_word : ByteArray := prog_7_method_10_code
def yX5_word : MethodName := ⟨RX5, "word", "(Ljava/lang/String;)V"⟩
abbrev cX5_sign : ByteArray := prog_7_method_11_code
def yX5_sign : MethodName := ⟨RX5, "sign", "()V"⟩
abbrev cX5_number : ByteArray := prog_7_method_12_code
def yX5_number : MethodName := ⟨RX5, "number", "(III)I"⟩
abbrev cX5_value : ByteArray := prog_7_method_13_code
def yX5_value : MethodName := ⟨RX5, "value", "()I"⟩
abbrev cX5_isWord : ByteArray := prog_7_method_14_code
def yX5_isWord : MethodName := ⟨RX5, "isWord", "(Ljava/lang/String;)Z"⟩
abbrev cX5_blame : ByteArray := prog_7_method_15_code
def yX5_blame : MethodName := ⟨RX5, "blame", "(I)V"⟩
abbrev cX5_step : ByteArray := prog_7_method_16_code
def yX5_step : MethodName := ⟨RX5, "step", "()V"⟩
abbrev cX5_kindAt : ByteArray := prog_7_method_17_code
def yX5_kindAt : MethodName := ⟨RX5, "kindAt", "(I)I"⟩
def RX6 : String := "PepperPolicy$Slots"
def TX6 : u_T := fun k => match k with
  | 0 => ("PepperPolicy$Slots", "rows", "[[J", true)
  | 1 => ("PepperPolicy$Slots", "widths", "[I", true)
  | _ => ("PepperPolicy$Slots", "lengths", "[I", true)
def tyX6 : Nat → FieldType := fun k => match k with
  | 0 => .array (.array .long)
  | 1 => .array .int
  | _ => .array .int
abbrev wsX60 : List Cond := u_ws RX6 TX6 3
theorem nmX6 : ∀ a, a < 3 → ∀ b, b < 3 → a ≠ b → (TX6 a).2.1 ≠ (TX6 b).2.1 := by decide +kernel
theorem tyX6_ok : ∀ k, k < 3 → parseFieldDescriptor (TX6 k).2.2.1 = some (tyX6 k) := by decide +kernel
abbrev cX6_init : ByteArray := prog_8_method_1_code
def yX6_init : MethodName := ⟨RX6, "<init>", "()V"⟩
abbrev cX6_isSlot : ByteArray := prog_8_method_2_code
def yX6_isSlot : MethodName := ⟨RX6, "isSlot", "(I)Z"⟩
abbrev cX6_has : ByteArray := prog_8_method_3_code
def yX6_has : MethodName := ⟨RX6, "has", "(I)Z"⟩
abbrev cX6_howMany : ByteArray := prog_8_method_4_code
def yX6_howMany : MethodName := ⟨RX6, "howMany", "()I"⟩
abbrev cX6_make : ByteArray := prog_8_method_5_code
def yX6_make : MethodName := ⟨RX6, "make", "(III)V"⟩
abbrev cX6_put : ByteArray := prog_8_method_6_code
def yX6_put : MethodName := ⟨RX6, "put", "(IIJ)V"⟩
abbrev cX6_spans : ByteArray := prog_8_method_7_code
def yX6_spans : MethodName := ⟨RX6, "spans", "(III)Z"⟩
def RX7 : String := "PepperPolicy$Suspects"
def TX7 : u_T := fun k => match k with
  | 0 => ("PepperPolicy$Suspects", "needed", "[I", true)
  | 1 => ("PepperPolicy$Suspects", "found", "I", false)
  | 2 => ("PepperPolicy$Suspects", "minutes", "I", false)
  | 3 => ("PepperPolicy$Suspects", "firstPair", "I", false)
  | _ => ("PepperPolicy$Suspects", "tally", "[I", true)
def tyX7 : Nat → FieldType := fun k => match k with
  | 0 => .array .int
  | 1 => .int
  | 2 => .int
  | 3 => .int
  | _ => .array .int
abbrev wsX70 : List Cond := u_ws RX7 TX7 5
theorem nmX7 : ∀ a, a < 5 → ∀ b, b < 5 → a ≠ b → (TX7 a).2.1 ≠ (TX7 b).2.1 := by decide +kernel
theorem tyX7_ok : ∀ k, k < 5 → parseFieldDescriptor (TX7 k).2.2.1 = some (tyX7 k) := by decide +kernel
abbrev cX7_init : ByteArray := prog_9_method_1_code
def yX7_init : MethodName := ⟨RX7, "<init>", "()V"⟩
abbrev cX7_forget : ByteArray := prog_9_method_2_code
def yX7_forget : MethodName := ⟨RX7, "forget", "()V"⟩
abbrev cX7_seekIn : ByteArray := prog_9_method_3_code
def yX7_seekIn : MethodName := ⟨RX7, "seekIn", "(LPepperPolicy$Day;LPepperPolicy$Day;)V"⟩
abbrev cX7_meets : ByteArray := prog_9_method_4_code
def yX7_meets : MethodName := ⟨RX7, "meets", "(LPepperPolicy$Day;I)Z"⟩
abbrev cX7_note : ByteArray := prog_9_method_5_code
def yX7_note : MethodName := ⟨RX7, "note", "(LPepperPolicy$Day;II)V"⟩
abbrev cX7_atWorst : ByteArray := prog_9_method_6_code
def yX7_atWorst : MethodName := ⟨RX7, "atWorst", "(I)I"⟩
abbrev cX7_whomToAsk : ByteArray := prog_9_method_7_code
def yX7_whomToAsk : MethodName := ⟨RX7, "whomToAsk", "(I)I"⟩
def RX8 : String := "PepperPolicy"
def TX8 : u_T := fun k => match k with
  | 0 => ("PepperPolicy", "house", "LPepperPolicy$House;", true)
  | 1 => ("PepperPolicy", "draft", "LPepperPolicy$House;", true)
  | 2 => ("PepperPolicy", "images", "[LPepperPolicy$House;", true)
  | 3 => ("PepperPolicy", "kept", "[Z", true)
  | 4 => ("PepperPolicy", "reader", "LPepperPolicy$Reader;", true)
  | 5 => ("PepperPolicy", "slots", "LPepperPolicy$Slots;", true)
  | 6 => ("PepperPolicy", "day", "LPepperPolicy$Day;", true)
  | 7 => ("PepperPolicy", "trial", "LPepperPolicy$Day;", true)
  | 8 => ("PepperPolicy", "ledger", "LPepperPolicy$Ledger;", true)
  | 9 => ("PepperPolicy", "holding", "LPepperPolicy$Holding;", true)
  | 10 => ("PepperPolicy", "suspects", "LPepperPolicy$Suspects;", true)
  | _ => ("PepperPolicy", "puffs", "LPepperPolicy$Puffs;", true)
def tyX8 : Nat → FieldType := fun k => match k with
  | 0 => .object "PepperPolicy$House"
  | 1 => .object "PepperPolicy$House"
  | 2 => .array (.object "PepperPolicy$House")
  | 3 => .array .boolean
  | 4 => .object "PepperPolicy$Reader"
  | 5 => .object "PepperPolicy$Slots"
  | 6 => .object "PepperPolicy$Day"
  | 7 => .object "PepperPolicy$Day"
  | 8 => .object "PepperPolicy$Ledger"
  | 9 => .object "PepperPolicy$Holding"
  | 10 => .object "PepperPolicy$Suspects"
  | _ => .object "PepperPolicy$Puffs"
abbrev wsX80 : List Cond := u_ws RX8 TX8 12
theorem nmX8 : ∀ a, a < 12 → ∀ b, b < 12 → a ≠ b → (TX8 a).2.1 ≠ (TX8 b).2.1 := by decide +kernel
theorem tyX8_ok : ∀ k, k < 12 → parseFieldDescriptor (TX8 k).2.2.1 = some (tyX8 k) := by decide +kernel
abbrev cX8_init : ByteArray := prog_1_method_1_code
def yX8_init : MethodName := ⟨RX8, "<init>", "()V"⟩
abbrev cX8_feed : ByteArray := prog_1_method_2_code
def yX8_feed : MethodName := ⟨RX8, "feed", "(IIIII)I"⟩
abbrev cX8_end : ByteArray := prog_1_method_3_code
def yX8_end : MethodName := ⟨RX8, "end", "(I)I"⟩
abbrev cX8_house : ByteArray := prog_1_method_4_code
def yX8_house : MethodName := ⟨RX8, "house", "()I"⟩
abbrev cX8_fault : ByteArray := prog_1_method_5_code
def yX8_fault : MethodName := ⟨RX8, "fault", "(I)I"⟩
abbrev cX8_nose : ByteArray := prog_1_method_6_code
def yX8_nose : MethodName := ⟨RX8, "nose", "(II)I"⟩
abbrev cX8_policy : ByteArray := prog_1_method_7_code
def yX8_policy : MethodName := ⟨RX8, "policy", "(II)I"⟩
abbrev cX8_beside : ByteArray := prog_1_method_8_code
def yX8_beside : MethodName := ⟨RX8, "beside", "(I)I"⟩
abbrev cX8_dust : ByteArray := prog_1_method_9_code
def yX8_dust : MethodName := ⟨RX8, "dust", "(I)I"⟩
abbrev cX8_sneezes : ByteArray := prog_1_method_10_code
def yX8_sneezes : MethodName := ⟨RX8, "sneezes", "(I)I"⟩
abbrev cX8_first : ByteArray := prog_1_method_11_code
def yX8_first : MethodName := ⟨RX8, "first", "(I)I"⟩
abbrev cX8_all : ByteArray := prog_1_method_12_code
def yX8_all : MethodName := ⟨RX8, "all", "()I"⟩
abbrev cX8_who : ByteArray := prog_1_method_13_code
def yX8_who : MethodName := ⟨RX8, "who", "(I)I"⟩
abbrev cX8_tickle : ByteArray := prog_1_method_14_code
def yX8_tickle : MethodName := ⟨RX8, "tickle", "(II)I"⟩
abbrev cX8_itch : ByteArray := prog_1_method_15_code
def yX8_itch : MethodName := ⟨RX8, "itch", "(I)I"⟩
abbrev cX8_caught : ByteArray := prog_1_method_16_code
def yX8_caught : MethodName := ⟨RX8, "caught", "(I)I"⟩
abbrev cX8_gave : ByteArray := prog_1_method_17_code
def yX8_gave : MethodName := ⟨RX8, "gave", "(I)I"⟩
abbrev cX8_worst : ByteArray := prog_1_method_18_code
def yX8_worst : MethodName := ⟨RX8, "worst", "()I"⟩
abbrev cX8_chorus : ByteArray := prog_1_method_19_code
def yX8_chorus : MethodName := ⟨RX8, "chorus", "()I"⟩
abbrev cX8_calm : ByteArray := prog_1_method_20_code
def yX8_calm : MethodName := ⟨RX8, "calm", "()I"⟩
abbrev cX8_pause : ByteArray := prog_1_method_21_code
def yX8_pause : MethodName := ⟨RX8, "pause", "(I)I"⟩
abbrev cX8_later : ByteArray := prog_1_method_22_code
def yX8_later : MethodName := ⟨RX8, "later", "(II)I"⟩
abbrev cX8_covered : ByteArray := prog_1_method_23_code
def yX8_covered : MethodName := ⟨RX8, "covered", "(I)I"⟩
abbrev cX8_naked : ByteArray := prog_1_method_24_code
def yX8_naked : MethodName := ⟨RX8, "naked", "()I"⟩
abbrev cX8_covers : ByteArray := prog_1_method_25_code
def yX8_covers : MethodName := ⟨RX8, "covers", "(I)I"⟩
abbrev cX8_dull : ByteArray := prog_1_method_26_code
def yX8_dull : MethodName := ⟨RX8, "dull", "(I)I"⟩
abbrev cX8_bears : ByteArray := prog_1_method_27_code
def yX8_bears : MethodName := ⟨RX8, "bears", "(I)I"⟩
abbrev cX8_clean : ByteArray := prog_1_method_28_code
def yX8_clean : MethodName := ⟨RX8, "clean", "()I"⟩
abbrev cX8_spreads : ByteArray := prog_1_method_29_code
def yX8_spreads : MethodName := ⟨RX8, "spreads", "(I)I"⟩
abbrev cX8_web : ByteArray := prog_1_method_30_code
def yX8_web : MethodName := ⟨RX8, "web", "(I)I"⟩
abbrev cX8_cut : ByteArray := prog_1_method_31_code
def yX8_cut : MethodName := ⟨RX8, "cut", "(I)I"⟩
abbrev cX8_cuts : ByteArray := prog_1_method_32_code
def yX8_cuts : MethodName := ⟨RX8, "cuts", "()I"⟩
abbrev cX8_totalWithout : ByteArray := prog_1_method_33_code
def yX8_totalWithout : MethodName := ⟨RX8, "totalWithout", "(I)I"⟩
abbrev cX8_claim : ByteArray := prog_1_method_34_code
def yX8_claim : MethodName := ⟨RX8, "claim", "(I)I"⟩
abbrev cX8_paid : ByteArray := prog_1_method_35_code
def yX8_paid : MethodName := ⟨RX8, "paid", "(I)I"⟩
abbrev cX8_claims : ByteArray := prog_1_method_36_code
def yX8_claims : MethodName := ⟨RX8, "claims", "()I"⟩
abbrev cX8_profit : ByteArray := prog_1_method_37_code
def yX8_profit : MethodName := ⟨RX8, "profit", "(I)I"⟩
abbrev cX8_money : ByteArray := prog_1_method_38_code
def yX8_money : MethodName := ⟨RX8, "money", "(I)I"⟩
abbrev cX8_lowest : ByteArray := prog_1_method_39_code
def yX8_lowest : MethodName := ⟨RX8, "lowest", "()I"⟩
abbrev cX8_ruin : ByteArray := prog_1_method_40_code
def yX8_ruin : MethodName := ⟨RX8, "ruin", "()I"⟩
abbrev cX8_dear : ByteArray := prog_1_method_41_code
def yX8_dear : MethodName := ⟨RX8, "dear", "()I"⟩
abbrev cX8_reserve : ByteArray := prog_1_method_42_code
def yX8_reserve : MethodName := ⟨RX8, "reserve", "()I"⟩
abbrev cX8_by : ByteArray := prog_1_method_43_code
def yX8_by : MethodName := ⟨RX8, "by", "(I)I"⟩
abbrev cX8_law : ByteArray := prog_1_method_44_code
def yX8_law : MethodName := ⟨RX8, "law", "()I"⟩
abbrev cX8_moneyInTheEnd : ByteArray := prog_1_method_45_code
def yX8_moneyInTheEnd : MethodName := ⟨RX8, "moneyInTheEnd", "(I)I"⟩
abbrev cX8_ledgerNow : ByteArray := prog_1_method_46_code
def yX8_ledgerNow : MethodName := ⟨RX8, "ledgerNow", "()LPepperPolicy$Ledger;"⟩
abbrev cX8_takes : ByteArray := prog_1_method_47_code
def yX8_takes : MethodName := ⟨RX8, "takes", "(I)I"⟩
abbrev cX8_gains : ByteArray := prog_1_method_48_code
def yX8_gains : MethodName := ⟨RX8, "gains", "(I)I"⟩
abbrev cX8_price : ByteArray := prog_1_method_49_code
def yX8_price : MethodName := ⟨RX8, "price", "(I)I"⟩
abbrev cX8_bestOfMenu : ByteArray := prog_1_method_50_code
def yX8_bestOfMenu : MethodName := ⟨RX8, "bestOfMenu", "(I)I"⟩
abbrev cX8_gainBy : ByteArray := prog_1_method_51_code
def yX8_gainBy : MethodName := ⟨RX8, "gainBy", "(II)I"⟩
abbrev cX8_claimAsIfOf : ByteArray := prog_1_method_52_code
def yX8_claimAsIfOf : MethodName := ⟨RX8, "claimAsIfOf", "(II)I"⟩
abbrev cX8_priceFor : ByteArray := prog_1_method_53_code
def yX8_priceFor : MethodName := ⟨RX8, "priceFor", "(II)I"⟩
abbrev cX8_hold : ByteArray := prog_1_method_54_code
def yX8_hold : MethodName := ⟨RX8, "hold", "(I)I"⟩
abbrev cX8_holds : ByteArray := prog_1_method_55_code
def yX8_holds : MethodName := ⟨RX8, "holds", "(I)I"⟩
abbrev cX8_snuff : ByteArray := prog_1_method_56_code
def yX8_snuff : MethodName := ⟨RX8, "snuff", "(I)I"⟩
abbrev cX8_frauds : ByteArray := prog_1_method_57_code
def yX8_frauds : MethodName := ⟨RX8, "frauds", "(I)I"⟩
abbrev cX8_minutesOfFraud : ByteArray := prog_1_method_58_code
def yX8_minutesOfFraud : MethodName := ⟨RX8, "minutesOfFraud", "(I)I"⟩
abbrev cX8_which : ByteArray := prog_1_method_59_code
def yX8_which : MethodName := ⟨RX8, "which", "(I)I"⟩
abbrev cX8_when : ByteArray := prog_1_method_60_code
def yX8_when : MethodName := ⟨RX8, "when", "(I)I"⟩
abbrev cX8_gust : ByteArray := prog_1_method_61_code
def yX8_gust : MethodName := ⟨RX8, "gust", "(I)I"⟩
abbrev cX8_ask : ByteArray := prog_1_method_62_code
def yX8_ask : MethodName := ⟨RX8, "ask", "(I)I"⟩
abbrev cX8_leaves : ByteArray := prog_1_method_63_code
def yX8_leaves : MethodName := ⟨RX8, "leaves", "(I)I"⟩
abbrev cX8_seek : ByteArray := prog_1_method_64_code
def yX8_seek : MethodName := ⟨RX8, "seek", "(I)I"⟩
abbrev cX8_rests : ByteArray := prog_1_method_65_code
def yX8_rests : MethodName := ⟨RX8, "rests", "(II)I"⟩
abbrev cX8_loses : ByteArray := prog_1_method_66_code
def yX8_loses : MethodName := ⟨RX8, "loses", "(IIII)I"⟩
abbrev cX8_lossOf : ByteArray := prog_1_method_67_code
def yX8_lossOf : MethodName := ⟨RX8, "lossOf", "(IIII)I"⟩
abbrev cX8_chance : ByteArray := prog_1_method_68_code
def yX8_chance : MethodName := ⟨RX8, "chance", "(III)J"⟩
abbrev cX8_fair : ByteArray := prog_1_method_69_code
def yX8_fair : MethodName := ⟨RX8, "fair", "(III)J"⟩
abbrev cX8_risk : ByteArray := prog_1_method_70_code
def yX8_risk : MethodName := ⟨RX8, "risk", "(II)J"⟩
abbrev cX8_drawn : ByteArray := prog_1_method_71_code
def yX8_drawn : MethodName := ⟨RX8, "drawn", "(II)I"⟩
abbrev cX8_luck : ByteArray := prog_1_method_72_code
def yX8_luck : MethodName := ⟨RX8, "luck", "(III)I"⟩
abbrev cX8_liveDrawn : ByteArray := prog_1_method_73_code
def yX8_liveDrawn : MethodName := ⟨RX8, "liveDrawn", "(I)I"⟩
abbrev cX8_stifle : ByteArray := prog_1_method_74_code
def yX8_stifle : MethodName := ⟨RX8, "stifle", "(II)I"⟩
abbrev cX8_sniff : ByteArray := prog_1_method_75_code
def yX8_sniff : MethodName := ⟨RX8, "sniff", "(II)I"⟩
abbrev cX8_undo : ByteArray := prog_1_method_76_code
def yX8_undo : MethodName := ⟨RX8, "undo", "()I"⟩
abbrev cX8_anew : ByteArray := prog_1_method_77_code
def yX8_anew : MethodName := ⟨RX8, "anew", "()I"⟩
abbrev cX8_rate : ByteArray := prog_1_method_78_code
def yX8_rate : MethodName := ⟨RX8, "rate", "(II)I"⟩
abbrev cX8_count : ByteArray := prog_1_method_79_code
def yX8_count : MethodName := ⟨RX8, "count", "(I)I"⟩
abbrev cX8_image : ByteArray := prog_1_method_80_code
def yX8_image : MethodName := ⟨RX8, "image", "(I)I"⟩
abbrev cX8_back : ByteArray := prog_1_method_81_code
def yX8_back : MethodName := ⟨RX8, "back", "(I)I"⟩
abbrev cX8_row : ByteArray := prog_1_method_82_code
def yX8_row : MethodName := ⟨RX8, "row", "(III)I"⟩
abbrev cX8_write : ByteArray := prog_1_method_83_code
def yX8_write : MethodName := ⟨RX8, "write", "(IIJ)I"⟩
abbrev cX8_paste : ByteArray := prog_1_method_84_code
def yX8_paste : MethodName := ⟨RX8, "paste", "(IIIII)I"⟩
abbrev cX8_liveAnew : ByteArray := prog_1_method_85_code
def yX8_liveAnew : MethodName := ⟨RX8, "liveAnew", "()V"⟩
abbrev cX8_isHouse : ByteArray := prog_1_method_86_code
def yX8_isHouse : MethodName := ⟨RX8, "isHouse", "()Z"⟩
abbrev cX8_isPerson : ByteArray := prog_1_method_87_code
def yX8_isPerson : MethodName := ⟨RX8, "isPerson", "(I)Z"⟩
abbrev cX8_isPolicy : ByteArray := prog_1_method_88_code
def yX8_isPolicy : MethodName := ⟨RX8, "isPolicy", "(I)Z"⟩
abbrev cX8_isNet : ByteArray := prog_1_method_89_code
def yX8_isNet : MethodName := ⟨RX8, "isNet", "(I)Z"⟩
abbrev cX8_isMinute : ByteArray := prog_1_method_90_code
def yX8_isMinute : MethodName := ⟨RX8, "isMinute", "(I)Z"⟩
abbrev cX8_isPuffMinute : ByteArray := prog_1_method_91_code
def yX8_isPuffMinute : MethodName := ⟨RX8, "isPuffMinute", "(I)Z"⟩
abbrev cX8_isSeed : ByteArray := prog_1_method_92_code
def yX8_isSeed : MethodName := ⟨RX8, "isSeed", "(I)Z"⟩
abbrev cX8_minutesCovered : ByteArray := prog_1_method_93_code
def yX8_minutesCovered : MethodName := ⟨RX8, "minutesCovered", "(I)I"⟩
abbrev cX8_hasBit : ByteArray := prog_1_method_94_code
def yX8_hasBit : MethodName := ⟨RX8, "hasBit", "(II)Z"⟩
abbrev cX8_firstMinutes : ByteArray := prog_1_method_95_code
def yX8_firstMinutes : MethodName := ⟨RX8, "firstMinutes", "(I)I"⟩
abbrev cX8_lowestBit : ByteArray := prog_1_method_96_code
def yX8_lowestBit : MethodName := ⟨RX8, "lowestBit", "(I)I"⟩
def RX9 : String := "PepperPolicyModel"
def TX9 : u_T := fun k => match k with
  | 0 => ("PepperPolicyModel", "thrown", "I", false)
  | 1 => ("PepperPolicyModel", "world", "[I", true)
  | 2 => ("PepperPolicyModel", "images", "[I", true)
  | 3 => ("PepperPolicyModel", "hasImage", "[Z", true)
  | 4 => ("PepperPolicyModel", "tape", "[B", true)
  | 5 => ("PepperPolicyModel", "taped", "I", false)
  | 6 => ("PepperPolicyModel", "five", "[I", true)
  | 7 => ("PepperPolicyModel", "size", "I", false)
  | 8 => ("PepperPolicyModel", "at", "I", false)
  | 9 => ("PepperPolicyModel", "from", "I", false)
  | 10 => ("PepperPolicyModel", "token", "I", false)
  | 11 => ("PepperPolicyModel", "value", "I", false)
  | 12 => ("PepperPolicyModel", "faultKind", "I", false)
  | 13 => ("PepperPolicyModel", "faultPlace", "I", false)
  | 14 => ("PepperPolicyModel", "fresh", "[I", true)
  | 15 => ("PepperPolicyModel", "dustAt", "[I", true)
  | 16 => ("PepperPolicyModel", "heldOf", "[I", true)
  | 17 => ("PepperPolicyModel", "snuffOf", "[I", true)
  | 18 => ("PepperPolicyModel", "gustSet", "I", false)
  | 19 => ("PepperPolicyModel", "noNet", "I", false)
  | 20 => ("PepperPolicyModel", "lawNow", "I", false)
  | 21 => ("PepperPolicyModel", "moneyNow", "I", false)
  | 22 => ("PepperPolicyModel", "lastMinute", "I", false)
  | 23 => ("PepperPolicyModel", "sneezesOf", "[I", true)
  | 24 => ("PepperPolicyModel", "sneezeAt", "[I", true)
  | 25 => ("PepperPolicyModel", "tickleAt", "[I", true)
  | 26 => ("PepperPolicyModel", "moreAt", "[I", true)
  | 27 => ("PepperPolicyModel", "caughtOf", "[I", true)
  | 28 => ("PepperPolicyModel", "oftenNow", "[I", true)
  | 29 => ("PepperPolicyModel", "paidAt", "[I", true)
  | 30 => ("PepperPolicyModel", "paidFirst", "I", false)
  | 31 => ("PepperPolicyModel", "gainsMost", "I", false)
  | 32 => ("PepperPolicyModel", "heldFew", "[I", true)
  | 33 => ("PepperPolicyModel", "heldSet", "[I", true)
  | 34 => ("PepperPolicyModel", "pairs", "[I", true)
  | 35 => ("PepperPolicyModel", "oftenBy", "[I", true)
  | 36 => ("PepperPolicyModel", "pairMany", "I", false)
  | 37 => ("PepperPolicyModel", "askWorst", "I", false)
  | 38 => ("PepperPolicyModel", "oftenAll", "J", false)
  | 39 => ("PepperPolicyModel", "oftenSneezes", "J", false)
  | 40 => ("PepperPolicyModel", "oftenClaim", "J", false)
  | 41 => ("PepperPolicyModel", "oftenRuin", "J", false)
  | 42 => ("PepperPolicyModel", "many", "[I", true)
  | 43 => ("PepperPolicyModel", "width", "[I", true)
  | 44 => ("PepperPolicyModel", "numbers", "[J", true)
  | _ => ("PepperPolicyModel", "moving", "[J", true)
def tyX9 : Nat → FieldType := fun k => match k with
  | 0 => .int
  | 1 => .array .int
  | 2 => .array .int
  | 3 => .array .boolean
  | 4 => .array .byte
  | 5 => .int
  | 6 => .array .int
  | 7 => .int
  | 8 => .int
  | 9 => .int
  | 10 => .int
  | 11 => .int
  | 12 => .int
  | 13 => .int
  | 14 => .array .int
  | 15 => .array .int
  | 16 => .array .int
  | 17 => .array .int
  | 18 => .int
  | 19 => .int
  | 20 => .int
  | 21 => .int
  | 22 => .int
  | 23 => .array .int
  | 24 => .array .int
  | 25 => .array .int
  | 26 => .array .int
  | 27 => .array .int
  | 28 => .array .int
  | 29 => .array .int
  | 30 => .int
  | 31 => .int
  | 32 => .array .int
  | 33 => .array .int
  | 34 => .array .int
  | 35 => .array .int
  | 36 => .int
  | 37 => .int
  | 38 => .long
  | 39 => .long
  | 40 => .long
  | 41 => .long
  | 42 => .array .int
  | 43 => .array .int
  | 44 => .array .long
  | _ => .array .long
abbrev wsX90 : List Cond := u_ws RX9 TX9 46
theorem nmX9 : ∀ a, a < 46 → ∀ b, b < 46 → a ≠ b → (TX9 a).2.1 ≠ (TX9 b).2.1 := by decide +kernel
theorem tyX9_ok : ∀ k, k < 46 → parseFieldDescriptor (TX9 k).2.2.1 = some (tyX9 k) := by decide +kernel
abbrev cX9_init : ByteArray := prog_11_method_1_code
def yX9_init : MethodName := ⟨RX9, "<init>", "()V"⟩
abbrev cX9_in : ByteArray := prog_11_method_3_code
def yX9_in : MethodName := ⟨RX9, "in", "(JJJ)Z"⟩
abbrev cX9_bits : ByteArray := prog_11_method_4_code
def yX9_bits : MethodName := ⟨RX9, "bits", "(I)I"⟩
abbrev cX9_bit : ByteArray := prog_11_method_5_code
def yX9_bit : MethodName := ⟨RX9, "bit", "(II)I"⟩
abbrev cX9_image : ByteArray := prog_11_method_6_code
def yX9_image : MethodName := ⟨RX9, "image", "(I)I"⟩
abbrev cX9_back : ByteArray := prog_11_method_7_code
def yX9_back : MethodName := ⟨RX9, "back", "(I)I"⟩
abbrev cX9_isHouse : ByteArray := prog_11_method_8_code
def yX9_isHouse : MethodName := ⟨RX9, "isHouse", "()Z"⟩
abbrev cX9_isMinute : ByteArray := prog_11_method_9_code
def yX9_isMinute : MethodName := ⟨RX9, "isMinute", "(J)Z"⟩
abbrev cX9_isPerson : ByteArray := prog_11_method_10_code
def yX9_isPerson : MethodName := ⟨RX9, "isPerson", "(J)Z"⟩
abbrev cX9_isPolicy : ByteArray := prog_11_method_11_code
def yX9_isPolicy : MethodName := ⟨RX9, "isPolicy", "(I)Z"⟩
abbrev cX9_isLaw : ByteArray := prog_11_method_12_code
def yX9_isLaw : MethodName := ⟨RX9, "isLaw", "(I)Z"⟩
abbrev cX9_of : ByteArray := prog_11_method_13_code
def yX9_of : MethodName := ⟨RX9, "of", "(II)I"⟩
abbrev cX9_minutes : ByteArray := prog_11_method_14_code
def yX9_minutes : MethodName := ⟨RX9, "minutes", "()I"⟩
abbrev cX9_feed : ByteArray := prog_11_method_15_code
def yX9_feed : MethodName := ⟨RX9, "feed", "(IIIII)I"⟩
abbrev cX9_end : ByteArray := prog_11_method_16_code
def yX9_end : MethodName := ⟨RX9, "end", "(I)I"⟩
abbrev cX9_see : ByteArray := prog_11_method_17_code
def yX9_see : MethodName := ⟨RX9, "see", "(I)I"⟩
abbrev cX9_advance : ByteArray := prog_11_method_18_code
def yX9_advance : MethodName := ⟨RX9, "advance", "()V"⟩
abbrev cX9_good : ByteArray := prog_11_method_19_code
def yX9_good : MethodName := ⟨RX9, "good", "()Z"⟩
abbrev cX9_errs : ByteArray := prog_11_method_20_code
def yX9_errs : MethodName := ⟨RX9, "errs", "(I)V"⟩
abbrev cX9_is : ByteArray := prog_11_method_21_code
def yX9_is : MethodName := ⟨RX9, "is", "(Ljava/lang/String;)Z"⟩
abbrev cX9_takes : ByteArray := prog_11_method_22_code
def yX9_takes : MethodName := ⟨RX9, "takes", "(Ljava/lang/String;)Z"⟩
abbrev cX9_needs : ByteArray := prog_11_method_23_code
def yX9_needs : MethodName := ⟨RX9, "needs", "(Ljava/lang/String;)V"⟩
abbrev cX9_number : ByteArray := prog_11_method_24_code
def yX9_number : MethodName := ⟨RX9, "number", "(II)I"⟩
abbrev cX9_told : ByteArray := prog_11_method_25_code
def yX9_told : MethodName := ⟨RX9, "told", "(Ljava/lang/String;II)I"⟩
abbrev cX9_fault : ByteArray := prog_11_method_26_code
def yX9_fault : MethodName := ⟨RX9, "fault", "(I)I"⟩
abbrev cX9_readFirst : ByteArray := prog_11_method_27_code
def yX9_readFirst : MethodName := ⟨RX9, "readFirst", "()V"⟩
abbrev cX9_readNet : ByteArray := prog_11_method_28_code
def yX9_readNet : MethodName := ⟨RX9, "readNet", "()V"⟩
abbrev cX9_readPolicy : ByteArray := prog_11_method_29_code
def yX9_readPolicy : MethodName := ⟨RX9, "readPolicy", "()V"⟩
abbrev cX9_readNext : ByteArray := prog_11_method_30_code
def yX9_readNext : MethodName := ⟨RX9, "readNext", "()V"⟩
abbrev cX9_readLine : ByteArray := prog_11_method_31_code
def yX9_readLine : MethodName := ⟨RX9, "readLine", "()V"⟩
abbrev cX9_house : ByteArray := prog_11_method_32_code
def yX9_house : MethodName := ⟨RX9, "house", "()I"⟩
abbrev cX9_nose : ByteArray := prog_11_method_33_code
def yX9_nose : MethodName := ⟨RX9, "nose", "(II)I"⟩
abbrev cX9_policy : ByteArray := prog_11_method_34_code
def yX9_policy : MethodName := ⟨RX9, "policy", "(II)I"⟩
abbrev cX9_asItIs : ByteArray := prog_11_method_35_code
def yX9_asItIs : MethodName := ⟨RX9, "asItIs", "()V"⟩
abbrev cX9_netsTo : ByteArray := prog_11_method_36_code
def yX9_netsTo : MethodName := ⟨RX9, "netsTo", "(II)I"⟩
abbrev cX9_goMinute : ByteArray := prog_11_method_37_code
def yX9_goMinute : MethodName := ⟨RX9, "goMinute", "(I)V"⟩
abbrev cX9_goAll : ByteArray := prog_11_method_38_code
def yX9_goAll : MethodName := ⟨RX9, "goAll", "()V"⟩
abbrev cX9_asksHouse : ByteArray := prog_11_method_39_code
def yX9_asksHouse : MethodName := ⟨RX9, "asksHouse", "()Z"⟩
abbrev cX9_asksPerson : ByteArray := prog_11_method_40_code
def yX9_asksPerson : MethodName := ⟨RX9, "asksPerson", "(I)Z"⟩
abbrev cX9_asksMinute : ByteArray := prog_11_method_41_code
def yX9_asksMinute : MethodName := ⟨RX9, "asksMinute", "(I)Z"⟩
abbrev cX9_firstOf : ByteArray := prog_11_method_42_code
def yX9_firstOf : MethodName := ⟨RX9, "firstOf", "(I)I"⟩
abbrev cX9_allSneezes : ByteArray := prog_11_method_43_code
def yX9_allSneezes : MethodName := ⟨RX9, "allSneezes", "()I"⟩
abbrev cX9_beside : ByteArray := prog_11_method_44_code
def yX9_beside : MethodName := ⟨RX9, "beside", "(I)I"⟩
abbrev cX9_dust : ByteArray := prog_11_method_45_code
def yX9_dust : MethodName := ⟨RX9, "dust", "(I)I"⟩
abbrev cX9_sneezes : ByteArray := prog_11_method_46_code
def yX9_sneezes : MethodName := ⟨RX9, "sneezes", "(I)I"⟩
abbrev cX9_first : ByteArray := prog_11_method_47_code
def yX9_first : MethodName := ⟨RX9, "first", "(I)I"⟩
abbrev cX9_all : ByteArray := prog_11_method_48_code
def yX9_all : MethodName := ⟨RX9, "all", "()I"⟩
abbrev cX9_who : ByteArray := prog_11_method_49_code
def yX9_who : MethodName := ⟨RX9, "who", "(I)I"⟩
abbrev cX9_tickle : ByteArray := prog_11_method_50_code
def yX9_tickle : MethodName := ⟨RX9, "tickle", "(II)I"⟩
abbrev cX9_itch : ByteArray := prog_11_method_51_code
def yX9_itch : MethodName := ⟨RX9, "itch", "(I)I"⟩
abbrev cX9_caught : ByteArray := prog_11_method_52_code
def yX9_caught : MethodName := ⟨RX9, "caught", "(I)I"⟩
abbrev cX9_gave : ByteArray := prog_11_method_53_code
def yX9_gave : MethodName := ⟨RX9, "gave", "(I)I"⟩
abbrev cX9_worst : ByteArray := prog_11_method_54_code
def yX9_worst : MethodName := ⟨RX9, "worst", "()I"⟩
abbrev cX9_chorus : ByteArray := prog_11_method_55_code
def yX9_chorus : MethodName := ⟨RX9, "chorus", "()I"⟩
abbrev cX9_calm : ByteArray := prog_11_method_56_code
def yX9_calm : MethodName := ⟨RX9, "calm", "()I"⟩
abbrev cX9_firstFrom : ByteArray := prog_11_method_57_code
def yX9_firstFrom : MethodName := ⟨RX9, "firstFrom", "(II)I"⟩
abbrev cX9_pause : ByteArray := prog_11_method_58_code
def yX9_pause : MethodName := ⟨RX9, "pause", "(I)I"⟩
abbrev cX9_later : ByteArray := prog_11_method_59_code
def yX9_later : MethodName := ⟨RX9, "later", "(II)I"⟩
abbrev cX9_web : ByteArray := prog_11_method_60_code
def yX9_web : MethodName := ⟨RX9, "web", "(I)I"⟩
abbrev cX9_spreads : ByteArray := prog_11_method_61_code
def yX9_spreads : MethodName := ⟨RX9, "spreads", "(I)I"⟩
abbrev cX9_quietBy : ByteArray := prog_11_method_62_code
def yX9_quietBy : MethodName := ⟨RX9, "quietBy", "(IIII)I"⟩
abbrev cX9_dull : ByteArray := prog_11_method_63_code
def yX9_dull : MethodName := ⟨RX9, "dull", "(I)I"⟩
abbrev cX9_bears : ByteArray := prog_11_method_64_code
def yX9_bears : MethodName := ⟨RX9, "bears", "(I)I"⟩
abbrev cX9_clean : ByteArray := prog_11_method_65_code
def yX9_clean : MethodName := ⟨RX9, "clean", "()I"⟩
abbrev cX9_windowOf : ByteArray := prog_11_method_66_code
def yX9_windowOf : MethodName := ⟨RX9, "windowOf", "(I)I"⟩
abbrev cX9_ahead : ByteArray := prog_11_method_67_code
def yX9_ahead : MethodName := ⟨RX9, "ahead", "(I)I"⟩
abbrev cX9_claimOf : ByteArray := prog_11_method_68_code
def yX9_claimOf : MethodName := ⟨RX9, "claimOf", "(IIZ)I"⟩
abbrev cX9_claimOf_ : ByteArray := prog_11_method_69_code
def yX9_claimOf_ : MethodName := ⟨RX9, "claimOf", "(I)I"⟩
abbrev cX9_layPaid : ByteArray := prog_11_method_70_code
def yX9_layPaid : MethodName := ⟨RX9, "layPaid", "()V"⟩
abbrev cX9_moneyAt : ByteArray := prog_11_method_71_code
def yX9_moneyAt : MethodName := ⟨RX9, "moneyAt", "(I)I"⟩
abbrev cX9_ruinOf : ByteArray := prog_11_method_72_code
def yX9_ruinOf : MethodName := ⟨RX9, "ruinOf", "()I"⟩
abbrev cX9_asksPolicy : ByteArray := prog_11_method_73_code
def yX9_asksPolicy : MethodName := ⟨RX9, "asksPolicy", "(I)Z"⟩
abbrev cX9_claim : ByteArray := prog_11_method_74_code
def yX9_claim : MethodName := ⟨RX9, "claim", "(I)I"⟩
abbrev cX9_paid : ByteArray := prog_11_method_75_code
def yX9_paid : MethodName := ⟨RX9, "paid", "(I)I"⟩
abbrev cX9_claims : ByteArray := prog_11_method_76_code
def yX9_claims : MethodName := ⟨RX9, "claims", "()I"⟩
abbrev cX9_money : ByteArray := prog_11_method_77_code
def yX9_money : MethodName := ⟨RX9, "money", "(I)I"⟩
abbrev cX9_ruin : ByteArray := prog_11_method_78_code
def yX9_ruin : MethodName := ⟨RX9, "ruin", "()I"⟩
abbrev cX9_coveredOf : ByteArray := prog_11_method_79_code
def yX9_coveredOf : MethodName := ⟨RX9, "coveredOf", "(I)I"⟩
abbrev cX9_covered : ByteArray := prog_11_method_80_code
def yX9_covered : MethodName := ⟨RX9, "covered", "(I)I"⟩
abbrev cX9_naked : ByteArray := prog_11_method_81_code
def yX9_naked : MethodName := ⟨RX9, "naked", "()I"⟩
abbrev cX9_covers : ByteArray := prog_11_method_82_code
def yX9_covers : MethodName := ⟨RX9, "covers", "(I)I"⟩
abbrev cX9_profit : ByteArray := prog_11_method_83_code
def yX9_profit : MethodName := ⟨RX9, "profit", "(I)I"⟩
abbrev cX9_lowest : ByteArray := prog_11_method_84_code
def yX9_lowest : MethodName := ⟨RX9, "lowest", "()I"⟩
abbrev cX9_dear : ByteArray := prog_11_method_85_code
def yX9_dear : MethodName := ⟨RX9, "dear", "()I"⟩
abbrev cX9_reserve : ByteArray := prog_11_method_86_code
def yX9_reserve : MethodName := ⟨RX9, "reserve", "()I"⟩
abbrev cX9_byLaw : ByteArray := prog_11_method_87_code
def yX9_byLaw : MethodName := ⟨RX9, "byLaw", "(I)I"⟩
abbrev cX9_by : ByteArray := prog_11_method_88_code
def yX9_by : MethodName := ⟨RX9, "by", "(I)I"⟩
abbrev cX9_law : ByteArray := prog_11_method_89_code
def yX9_law : MethodName := ⟨RX9, "law", "()I"⟩
abbrev cX9_takesBy : ByteArray := prog_11_method_90_code
def yX9_takesBy : MethodName := ⟨RX9, "takesBy", "(III)I"⟩
abbrev cX9_takes_ : ByteArray := prog_11_method_91_code
def yX9_takes_ : MethodName := ⟨RX9, "takes", "(I)I"⟩
abbrev cX9_gains : ByteArray := prog_11_method_92_code
def yX9_gains : MethodName := ⟨RX9, "gains", "(I)I"⟩
abbrev cX9_isTaken : ByteArray := prog_11_method_93_code
def yX9_isTaken : MethodName := ⟨RX9, "isTaken", "(II)Z"⟩
abbrev cX9_price : ByteArray := prog_11_method_94_code
def yX9_price : MethodName := ⟨RX9, "price", "(I)I"⟩
abbrev cX9_tickleSince : ByteArray := prog_11_method_95_code
def yX9_tickleSince : MethodName := ⟨RX9, "tickleSince", "(III)I"⟩
abbrev cX9_layHold : ByteArray := prog_11_method_96_code
def yX9_layHold : MethodName := ⟨RX9, "layHold", "(IIII)V"⟩
abbrev cX9_layHolds : ByteArray := prog_11_method_97_code
def yX9_layHolds : MethodName := ⟨RX9, "layHolds", "(I)Z"⟩
abbrev cX9_hold : ByteArray := prog_11_method_98_code
def yX9_hold : MethodName := ⟨RX9, "hold", "(I)I"⟩
abbrev cX9_holds : ByteArray := prog_11_method_99_code
def yX9_holds : MethodName := ⟨RX9, "holds", "(I)I"⟩
abbrev cX9_fraudsOf : ByteArray := prog_11_method_100_code
def yX9_fraudsOf : MethodName := ⟨RX9, "fraudsOf", "(I)I"⟩
abbrev cX9_snuff : ByteArray := prog_11_method_101_code
def yX9_snuff : MethodName := ⟨RX9, "snuff", "(I)I"⟩
abbrev cX9_frauds : ByteArray := prog_11_method_102_code
def yX9_frauds : MethodName := ⟨RX9, "frauds", "(I)I"⟩
abbrev cX9_numberAt : ByteArray := prog_11_method_103_code
def yX9_numberAt : MethodName := ⟨RX9, "numberAt", "(II)J"⟩
abbrev cX9_layPairs : ByteArray := prog_11_method_104_code
def yX9_layPairs : MethodName := ⟨RX9, "layPairs", "(I)I"⟩
abbrev cX9_which : ByteArray := prog_11_method_105_code
def yX9_which : MethodName := ⟨RX9, "which", "(I)I"⟩
abbrev cX9_when : ByteArray := prog_11_method_106_code
def yX9_when : MethodName := ⟨RX9, "when", "(I)I"⟩
abbrev cX9_gust : ByteArray := prog_11_method_107_code
def yX9_gust : MethodName := ⟨RX9, "gust", "(I)I"⟩
abbrev cX9_askOf : ByteArray := prog_11_method_108_code
def yX9_askOf : MethodName := ⟨RX9, "askOf", "()I"⟩
abbrev cX9_ask : ByteArray := prog_11_method_109_code
def yX9_ask : MethodName := ⟨RX9, "ask", "(I)I"⟩
abbrev cX9_leaves : ByteArray := prog_11_method_110_code
def yX9_leaves : MethodName := ⟨RX9, "leaves", "(I)I"⟩
abbrev cX9_losesBy : ByteArray := prog_11_method_111_code
def yX9_losesBy : MethodName := ⟨RX9, "losesBy", "(IIIII)I"⟩
abbrev cX9_areTwo : ByteArray := prog_11_method_112_code
def yX9_areTwo : MethodName := ⟨RX9, "areTwo", "(II)Z"⟩
abbrev cX9_rests : ByteArray := prog_11_method_113_code
def yX9_rests : MethodName := ⟨RX9, "rests", "(II)I"⟩
abbrev cX9_loses : ByteArray := prog_11_method_114_code
def yX9_loses : MethodName := ⟨RX9, "loses", "(IIII)I"⟩
abbrev cX9_allWithout : ByteArray := prog_11_method_115_code
def yX9_allWithout : MethodName := ⟨RX9, "allWithout", "(I)I"⟩
abbrev cX9_cut : ByteArray := prog_11_method_116_code
def yX9_cut : MethodName := ⟨RX9, "cut", "(I)I"⟩
abbrev cX9_cuts : ByteArray := prog_11_method_117_code
def yX9_cuts : MethodName := ⟨RX9, "cuts", "()I"⟩
abbrev cX9_divisor : ByteArray := prog_11_method_118_code
def yX9_divisor : MethodName := ⟨RX9, "divisor", "(JJ)J"⟩
abbrev cX9_part : ByteArray := prog_11_method_119_code
def yX9_part : MethodName := ⟨RX9, "part", "(JJI)J"⟩
abbrev cX9_layPuffs : ByteArray := prog_11_method_120_code
def yX9_layPuffs : MethodName := ⟨RX9, "layPuffs", "(III)V"⟩
abbrev cX9_isPuffs : ByteArray := prog_11_method_121_code
def yX9_isPuffs : MethodName := ⟨RX9, "isPuffs", "(II)Z"⟩
abbrev cX9_chance : ByteArray := prog_11_method_122_code
def yX9_chance : MethodName := ⟨RX9, "chance", "(III)J"⟩
abbrev cX9_fair : ByteArray := prog_11_method_123_code
def yX9_fair : MethodName := ⟨RX9, "fair", "(III)J"⟩
abbrev cX9_risk : ByteArray := prog_11_method_124_code
def yX9_risk : MethodName := ⟨RX9, "risk", "(II)J"⟩
abbrev cX9_keepAct : ByteArray := prog_11_method_125_code
def yX9_keepAct : MethodName := ⟨RX9, "keepAct", "(I)I"⟩
abbrev cX9_stifle : ByteArray := prog_11_method_126_code
def yX9_stifle : MethodName := ⟨RX9, "stifle", "(II)I"⟩
abbrev cX9_sniff : ByteArray := prog_11_method_127_code
def yX9_sniff : MethodName := ⟨RX9, "sniff", "(II)I"⟩
abbrev cX9_undo : ByteArray := prog_11_method_128_code
def yX9_undo : MethodName := ⟨RX9, "undo", "()I"⟩
abbrev cX9_anew : ByteArray := prog_11_method_129_code
def yX9_anew : MethodName := ⟨RX9, "anew", "()I"⟩
abbrev cX9_goDrawn : ByteArray := prog_11_method_130_code
def yX9_goDrawn : MethodName := ⟨RX9, "goDrawn", "(J)I"⟩
abbrev cX9_isSeed : ByteArray := prog_11_method_131_code
def yX9_isSeed : MethodName := ⟨RX9, "isSeed", "(I)Z"⟩
abbrev cX9_drawn : ByteArray := prog_11_method_132_code
def yX9_drawn : MethodName := ⟨RX9, "drawn", "(II)I"⟩
abbrev cX9_luck : ByteArray := prog_11_method_133_code
def yX9_luck : MethodName := ⟨RX9, "luck", "(III)I"⟩
abbrev cX9_rate : ByteArray := prog_11_method_134_code
def yX9_rate : MethodName := ⟨RX9, "rate", "(II)I"⟩
abbrev cX9_count : ByteArray := prog_11_method_135_code
def yX9_count : MethodName := ⟨RX9, "count", "(I)I"⟩
abbrev cX9_isSlot : ByteArray := prog_11_method_136_code
def yX9_isSlot : MethodName := ⟨RX9, "isSlot", "(I)Z"⟩
abbrev cX9_cut_ : ByteArray := prog_11_method_137_code
def yX9_cut_ : MethodName := ⟨RX9, "cut", "(JI)J"⟩
abbrev cX9_row : ByteArray := prog_11_method_138_code
def yX9_row : MethodName := ⟨RX9, "row", "(III)I"⟩
abbrev cX9_write : ByteArray := prog_11_method_139_code
def yX9_write : MethodName := ⟨RX9, "write", "(IIJ)I"⟩
abbrev cX9_paste : ByteArray := prog_11_method_140_code
def yX9_paste : MethodName := ⟨RX9, "paste", "(IIIII)I"⟩
def RJx145de : String := "java/io/Serializable"
def TJx145de : u_T := fun k => match k with
  | _ => ("", "", "", false)
def tyJx145de : Nat → FieldType := fun k => match k with
  | _ => .int
abbrev wsJx145de0 : List Cond := u_ws RJx145de TJx145de 0
theorem nmJx145de : ∀ a, a < 0 → ∀ b, b < 0 → a ≠ b → (TJx145de a).2.1 ≠ (TJx145de b).2.1 := by decide +kernel
theorem tyJx145de_ok : ∀ k, k < 0 → parseFieldDescriptor (TJx145de k).2.2.1 = some (tyJx145de k) := by decide +kernel
def RJx9f9b0 : String := "java/lang/CharSequence"
def TJx9f9b0 : u_T := fun k => match k with
  | _ => ("", "", "", false)
def tyJx9f9b0 : Nat → FieldType := fun k => match k with
  | _ => .int
abbrev wsJx9f9b00 : List Cond := u_ws RJx9f9b0 TJx9f9b0 0
theorem nmJx9f9b0 : ∀ a, a < 0 → ∀ b, b < 0 → a ≠ b → (TJx9f9b0 a).2.1 ≠ (TJx9f9b0 b).2.1 := by decide +kernel
theorem tyJx9f9b0_ok : ∀ k, k < 0 → parseFieldDescriptor (TJx9f9b0 k).2.2.1 = some (tyJx9f9b0 k) := by decide +kernel
def RJxb160c : String := "java/lang/Comparable"
def TJxb160c : u_T := fun k => match k with
  | _ => ("", "", "", false)
def tyJxb160c : Nat → FieldType := fun k => match k with
  | _ => .int
abbrev wsJxb160c0 : List Cond := u_ws RJxb160c TJxb160c 0
theorem nmJxb160c : ∀ a, a < 0 → ∀ b, b < 0 → a ≠ b → (TJxb160c a).2.1 ≠ (TJxb160c b).2.1 := by decide +kernel
theorem tyJxb160c_ok : ∀ k, k < 0 → parseFieldDescriptor (TJxb160c k).2.2.1 = some (tyJxb160c k) := by decide +kernel
def RJ6 : String := "java/lang/Integer"
def TJ6 : u_T := fun k => match k with
  | _ => ("", "", "", false)
def tyJ6 : Nat → FieldType := fun k => match k with
  | _ => .int
abbrev wsJ60 : List Cond := u_ws RJ6 TJ6 0
theorem nmJ6 : ∀ a, a < 0 → ∀ b, b < 0 → a ≠ b → (TJ6 a).2.1 ≠ (TJ6 b).2.1 := by decide +kernel
theorem tyJ6_ok : ∀ k, k < 0 → parseFieldDescriptor (TJ6 k).2.2.1 = some (tyJ6 k) := by decide +kernel
abbrev cJ6_bitCount_0f7a4 : ByteArray := prog_12_method_49_code
def yJ6_bitCount_0f7a4 : MethodName := ⟨RJ6, "bitCount", "(I)I"⟩
def RJ9 : String := "java/lang/Math"
def TJ9 : u_T := fun k => match k with
  | _ => ("", "", "", false)
def tyJ9 : Nat → FieldType := fun k => match k with
  | _ => .int
abbrev wsJ90 : List Cond := u_ws RJ9 TJ9 0
theorem nmJ9 : ∀ a, a < 0 → ∀ b, b < 0 → a ≠ b → (TJ9 a).2.1 ≠ (TJ9 b).2.1 := by decide +kernel
theorem tyJ9_ok : ∀ k, k < 0 → parseFieldDescriptor (TJ9 k).2.2.1 = some (tyJ9 k) := by decide +kernel
abbrev cJ9_max_7cf53 : ByteArray := prog_13_method_65_code
def yJ9_max_7cf53 : MethodName := ⟨RJ9, "max", "(II)I"⟩
abbrev cJ9_min_7cf53 : ByteArray := prog_13_method_69_code
def yJ9_min_7cf53 : MethodName := ⟨RJ9, "min", "(II)I"⟩
abbrev cJ9_min_f86c9 : ByteArray := prog_13_method_70_code
def yJ9_min_f86c9 : MethodName := ⟨RJ9, "min", "(JJ)J"⟩
def RJ0 : String := "java/lang/String"
def TJ0 : u_T := fun k => match k with
  | _ => ("", "", "", false)
def tyJ0 : Nat → FieldType := fun k => match k with
  | _ => .int
abbrev wsJ00 : List Cond := u_ws RJ0 TJ0 0
theorem nmJ0 : ∀ a, a < 0 → ∀ b, b < 0 → a ≠ b → (TJ0 a).2.1 ≠ (TJ0 b).2.1 := by decide +kernel
theorem tyJ0_ok : ∀ k, k < 0 → parseFieldDescriptor (TJ0 k).2.2.1 = some (tyJ0 k) := by decide +kernel
abbrev cJ0_length_8abf5 : ByteArray := prog_14_method_54_code
def yJ0_length_8abf5 : MethodName := ⟨RJ0, "length", "()I"⟩
abbrev cJ0_charAt_5068e : ByteArray := prog_14_method_56_code
def yJ0_charAt_5068e : MethodName := ⟨RJ0, "charAt", "(I)C"⟩
abbrev cJ0_coder_7d493 : ByteArray := prog_14_method_152_code
def yJ0_coder_7d493 : MethodName := ⟨RJ0, "coder", "()B"⟩
abbrev cJ0_isLatin1_aae02 : ByteArray := prog_14_method_154_code
def yJ0_isLatin1_aae02 : MethodName := ⟨RJ0, "isLatin1", "()Z"⟩
abbrev cJ0_checkIndex_df160 : ByteArray := prog_14_method_155_code
def yJ0_checkIndex_df160 : MethodName := ⟨RJ0, "checkIndex", "(II)V"⟩
def RJ1 : String := "java/lang/StringLatin1"
def TJ1 : u_T := fun k => match k with
  | _ => ("", "", "", false)
def tyJ1 : Nat → FieldType := fun k => match k with
  | _ => .int
abbrev wsJ10 : List Cond := u_ws RJ1 TJ1 0
theorem nmJ1 : ∀ a, a < 0 → ∀ b, b < 0 → a ≠ b → (TJ1 a).2.1 ≠ (TJ1 b).2.1 := by decide +kernel
theorem tyJ1_ok : ∀ k, k < 0 → parseFieldDescriptor (TJ1 k).2.2.1 = some (tyJ1 k) := by decide +kernel
abbrev cJ1_charAt_3b067 : ByteArray := prog_15_method_2_code
def yJ1_charAt_3b067 : MethodName := ⟨RJ1, "charAt", "([BI)C"⟩
def RJ2 : String := "java/lang/StringUTF16"
def TJ2 : u_T := fun k => match k with
  | _ => ("", "", "", false)
def tyJ2 : Nat → FieldType := fun k => match k with
  | _ => .int
abbrev wsJ20 : List Cond := u_ws RJ2 TJ2 0
theorem nmJ2 : ∀ a, a < 0 → ∀ b, b < 0 → a ≠ b → (TJ2 a).2.1 ≠ (TJ2 b).2.1 := by decide +kernel
theorem tyJ2_ok : ∀ k, k < 0 → parseFieldDescriptor (TJ2 k).2.2.1 = some (tyJ2 k) := by decide +kernel
abbrev cJ2_getChar_3b067 : ByteArray := prog_16_method_5_code
def yJ2_getChar_3b067 : MethodName := ⟨RJ2, "getChar", "([BI)C"⟩
abbrev cJ2_length_9d52b : ByteArray := prog_16_method_6_code
def yJ2_length_9d52b : MethodName := ⟨RJ2, "length", "([B)I"⟩
abbrev cJ2_charAt_3b067 : ByteArray := prog_16_method_83_code
def yJ2_charAt_3b067 : MethodName := ⟨RJ2, "charAt", "([BI)C"⟩
abbrev cJ2_checkIndex_2214a : ByteArray := prog_16_method_91_code
def yJ2_checkIndex_2214a : MethodName := ⟨RJ2, "checkIndex", "(I[B)V"⟩
def RJ10 : String := "java/lang/System"
def TJ10 : u_T := fun k => match k with
  | _ => ("", "", "", false)
def tyJ10 : Nat → FieldType := fun k => match k with
  | _ => .int
abbrev wsJ100 : List Cond := u_ws RJ10 TJ10 0
theorem nmJ10 : ∀ a, a < 0 → ∀ b, b < 0 → a ≠ b → (TJ10 a).2.1 ≠ (TJ10 b).2.1 := by decide +kernel
theorem tyJ10_ok : ∀ k, k < 0 → parseFieldDescriptor (TJ10 k).2.2.1 = some (tyJ10 k) := by decide +kernel
def RJxfd54e : String := "java/lang/constant/Constable"
def TJxfd54e : u_T := fun k => match k with
  | _ => ("", "", "", false)
def tyJxfd54e : Nat → FieldType := fun k => match k with
  | _ => .int
abbrev wsJxfd54e0 : List Cond := u_ws RJxfd54e TJxfd54e 0
theorem nmJxfd54e : ∀ a, a < 0 → ∀ b, b < 0 → a ≠ b → (TJxfd54e a).2.1 ≠ (TJxfd54e b).2.1 := by decide +kernel
theorem tyJxfd54e_ok : ∀ k, k < 0 → parseFieldDescriptor (TJxfd54e k).2.2.1 = some (tyJxfd54e k) := by decide +kernel
def RJx3cf43 : String := "java/lang/constant/ConstantDesc"
def TJx3cf43 : u_T := fun k => match k with
  | _ => ("", "", "", false)
def tyJx3cf43 : Nat → FieldType := fun k => match k with
  | _ => .int
abbrev wsJx3cf430 : List Cond := u_ws RJx3cf43 TJx3cf43 0
theorem nmJx3cf43 : ∀ a, a < 0 → ∀ b, b < 0 → a ≠ b → (TJx3cf43 a).2.1 ≠ (TJx3cf43 b).2.1 := by decide +kernel
theorem tyJx3cf43_ok : ∀ k, k < 0 → parseFieldDescriptor (TJx3cf43 k).2.2.1 = some (tyJx3cf43 k) := by decide +kernel
def RJ7 : String := "java/util/Arrays"
def TJ7 : u_T := fun k => match k with
  | _ => ("", "", "", false)
def tyJ7 : Nat → FieldType := fun k => match k with
  | _ => .int
abbrev wsJ70 : List Cond := u_ws RJ7 TJ7 0
theorem nmJ7 : ∀ a, a < 0 → ∀ b, b < 0 → a ≠ b → (TJ7 a).2.1 ≠ (TJ7 b).2.1 := by decide +kernel
theorem tyJ7_ok : ∀ k, k < 0 → parseFieldDescriptor (TJ7 k).2.2.1 = some (tyJ7 k) := by decide +kernel
abbrev cJ7_fill_d0a16 : ByteArray := prog_18_method_101_code
def yJ7_fill_d0a16 : MethodName := ⟨RJ7, "fill", "([JJ)V"⟩
abbrev cJ7_fill_53178 : ByteArray := prog_18_method_103_code
def yJ7_fill_53178 : MethodName := ⟨RJ7, "fill", "([II)V"⟩
def RJ3 : String := "jdk/internal/util/Preconditions"
def TJ3 : u_T := fun k => match k with
  | _ => ("", "", "", false)
def tyJ3 : Nat → FieldType := fun k => match k with
  | _ => .int
abbrev wsJ30 : List Cond := u_ws RJ3 TJ3 0
theorem nmJ3 : ∀ a, a < 0 → ∀ b, b < 0 → a ≠ b → (TJ3 a).2.1 ≠ (TJ3 b).2.1 := by decide +kernel
theorem tyJ3_ok : ∀ k, k < 0 → parseFieldDescriptor (TJ3 k).2.2.1 = some (tyJ3 k) := by decide +kernel
abbrev cJ3_checkIndex_8e157 : ByteArray := prog_19_method_11_code
def yJ3_checkIndex_8e157 : MethodName := ⟨RJ3, "checkIndex", "(IILjava/util/function/BiFunction;)I"⟩
def RL : String := "PepperPolicyLaw"
abbrev cL_law : ByteArray := code
def yL_law : MethodName := ⟨RL, "law", "([I)Z"⟩
abbrev vwCl : List vw_C := [(RX0, TX0, 14), (RX1, TX1, 2), (RX2, TX2, 6), (RX3, TX3, 4), (RX4, TX4, 5), (RX5, TX5, 8), (RX6, TX6, 3), (RX7, TX7, 5), (RX8, TX8, 12), (RX9, TX9, 46)]
