theorem dX9_moneyAt_1 : decode cX9_moneyAt 1 = .ok (.getfield 246, 3) := dk_180 ((dQ_X9_moneyAt_0 1).trans dk_j1) ((dQ_X9_moneyAt_0 2).trans dk_j2) ((dQ_X9_moneyAt_0 3).trans dk_j3) dk_vu2_0_246
theorem dX9_moneyAt_4 : decode cX9_moneyAt 4 = .ok (.istore_n 2, 1) := dk_61 ((dQ_X9_moneyAt_0 4).trans dk_j4)
theorem dX9_moneyAt_5 : decode cX9_moneyAt 5 = .ok (.iconst 0, 1) := dk_3 ((dQ_X9_moneyAt_0 5).trans dk_j5)
theorem dX9_moneyAt_6 : decode cX9_moneyAt 6 = .ok (.istore_n 3, 1) := dk_62 ((dQ_X9_moneyAt_0 6).trans dk_j6)
theorem dX9_moneyAt_7 : decode cX9_moneyAt 7 = .ok (.iload_n 3, 1) := dk_29 ((dQ_X9_moneyAt_0 7).trans dk_j7)
theorem dX9_moneyAt_8 : decode cX9_moneyAt 8 = .ok (.aload_n 0, 1) := dk_42 ((dQ_X9_moneyAt_0 8).trans dk_j8)
theorem dX9_moneyAt_9 : decode cX9_moneyAt 9 = .ok (.getfield 9, 3) := dk_180 ((dQ_X9_moneyAt_0 9).trans dk_j9) ((dQ_X9_moneyAt_0 10).trans dk_j10) ((dQ_X9_moneyAt_0 11).trans dk_j11) dk_vu2_0_9
theorem dX9_moneyAt_12 : decode cX9_moneyAt 12 = .ok (.bipush 8, 2) := dk_16 ((dQ_X9_moneyAt_0 12).trans dk_j12) ((dQ_X9_moneyAt_0 13).trans dk_j13) dk_vs1_8
theorem dX9_moneyAt_14 : decode cX9_moneyAt 14 = .ok (.iaload, 1) := dk_46 ((dQ_X9_moneyAt_0 14).trans dk_j14)
theorem dX9_moneyAt_15 : decode cX9_moneyAt 15 = .ok (.if_icmp .ge 18, 3) := dk_162 ((dQ_X9_moneyAt_0 15).trans dk_j15) ((dQ_X9_moneyAt_1 0).trans dk_j0) ((dQ_X9_moneyAt_1 1).trans dk_j1) dk_vs2_0_18
theorem dX9_moneyAt_18 : decode cX9_moneyAt 18 = .ok (.iload_n 2, 1) := dk_28 ((dQ_X9_moneyAt_1 2).trans dk_j2)
theorem dX9_moneyAt_19 : decode cX9_moneyAt 19 = .ok (.aload_n 0, 1) := dk_42 ((dQ_X9_moneyAt_1 3).trans dk_j3)
theorem dX9_moneyAt_20 : decode cX9_moneyAt 20 = .ok (.iload_n 3, 1) := dk_29 ((dQ_X9_moneyAt_1 4).trans dk_j4)
theorem dX9_moneyAt_21 : decode cX9_moneyAt 21 = .ok (.iconst 4, 1) := dk_7 ((dQ_X9_moneyAt_1 5).trans dk_j5)
theorem dX9_moneyAt_22 : decode cX9_moneyAt 22 = .ok (.invokevirtual 234, 3) := dk_182 ((dQ_X9_moneyAt_1 6).trans dk_j6) ((dQ_X9_moneyAt_1 7).trans dk_j7) ((dQ_X9_moneyAt_1 8).trans dk_j8) dk_vu2_0_234
theorem dX9_moneyAt_25 : decode cX9_moneyAt 25 = .ok (.iadd, 1) := dk_96 ((dQ_X9_moneyAt_1 9).trans dk_j9)
theorem dX9_moneyAt_26 : decode cX9_moneyAt 26 = .ok (.istore_n 2, 1) := dk_61 ((dQ_X9_moneyAt_1 10).trans dk_j10)
theorem dX9_moneyAt_27 : decode cX9_moneyAt 27 = .ok (.iinc 3 1, 3) := dk_132 ((dQ_X9_moneyAt_1 11).trans dk_j11) ((dQ_X9_moneyAt_1 12).trans dk_j12) ((dQ_X9_moneyAt_1 13).trans dk_j13) dk_vu1_3 dk_vs1_1
theorem dX9_moneyAt_30 : decode cX9_moneyAt 30 = .ok (.goto (-23), 3) := dk_167 ((dQ_X9_moneyAt_1 14).trans dk_j14) ((dQ_X9_moneyAt_1 15).trans dk_j15) ((dQ_X9_moneyAt_2 0).trans dk_j0) dk_vs2_255_233
theorem dX9_moneyAt_33 : decode cX9_moneyAt 33 = .ok (.iconst 0, 1) := dk_3 ((dQ_X9_moneyAt_2 1).trans dk_j1)
theorem dX9_moneyAt_34 : decode cX9_moneyAt 34 = .ok (.istore_n 3, 1) := dk_62 ((dQ_X9_moneyAt_2 2).trans dk_j2)
theorem dX9_moneyAt_35 : decode cX9_moneyAt 35 = .ok (.iload_n 3, 1) := dk_29 ((dQ_X9_moneyAt_2 3).trans dk_j3)
theorem dX9_moneyAt_36 : decode cX9_moneyAt 36 = .ok (.iload_n 1, 1) := dk_27 ((dQ_X9_moneyAt_2 4).trans dk_j4)
theorem dX9_moneyAt_37 : decode cX9_moneyAt 37 = .ok (.if_icmp .gt 18, 3) := dk_163 ((dQ_X9_moneyAt_2 5).trans dk_j5) ((dQ_X9_moneyAt_2 6).trans dk_j6) ((dQ_X9_moneyAt_2 7).trans dk_j7) dk_vs2_0_18
theorem dX9_moneyAt_40 : decode cX9_moneyAt 40 = .ok (.iload_n 2, 1) := dk_28 ((dQ_X9_moneyAt_2 8).trans dk_j8)
theorem dX9_moneyAt_41 : decode cX9_moneyAt 41 = .ok (.aload_n 0, 1) := dk_42 ((dQ_X9_moneyAt_2 9).trans dk_j9)
theorem dX9_moneyAt_42 : decode cX9_moneyAt 42 = .ok (.getfield 61, 3) := dk_180 ((dQ_X9_moneyAt_2 10).trans dk_j10) ((dQ_X9_moneyAt_2 11).trans dk_j11) ((dQ_X9_moneyAt_2 12).trans dk_j12) dk_vu2_0_61
theorem dX9_moneyAt_45 : decode cX9_moneyAt 45 = .ok (.iload_n 3, 1) := dk_29 ((dQ_X9_moneyAt_2 13).trans dk_j13)
theorem dX9_moneyAt_46 : decode cX9_moneyAt 46 = .ok (.iaload, 1) := dk_46 ((dQ_X9_moneyAt_2 14).trans dk_j14)
theorem dX9_moneyAt_47 : decode cX9_moneyAt 47 = .ok (.isub, 1) := dk_100 ((dQ_X9_moneyAt_2 15).trans dk_j15)
theorem dX9_moneyAt_48 : decode cX9_moneyAt 48 = .ok (.istore_n 2, 1) := dk_61 ((dQ_X9_moneyAt_3 0).trans dk_j0)
theorem dX9_moneyAt_49 : decode cX9_moneyAt 49 = .ok (.iinc 3 1, 3) := dk_132 ((dQ_X9_moneyAt_3 1).trans dk_j1) ((dQ_X9_moneyAt_3 2).trans dk_j2) ((dQ_X9_moneyAt_3 3).trans dk_j3) dk_vu1_3 dk_vs1_1
theorem dX9_moneyAt_52 : decode cX9_moneyAt 52 = .ok (.goto (-17), 3) := dk_167 ((dQ_X9_moneyAt_3 4).trans dk_j4) ((dQ_X9_moneyAt_3 5).trans dk_j5) ((dQ_X9_moneyAt_3 6).trans dk_j6) dk_vs2_255_239
theorem dX9_moneyAt_55 : decode cX9_moneyAt 55 = .ok (.iload_n 2, 1) := dk_28 ((dQ_X9_moneyAt_3 7).trans dk_j7)
theorem dX9_moneyAt_56 : decode cX9_moneyAt 56 = .ok (.ireturn, 1) := dk_172 ((dQ_X9_moneyAt_3 8).trans dk_j8)
def dT_X9_ruinOf_1 : List UInt8 := (0xb6 : UInt8) :: (0x01 : UInt8) :: (0x40 : UInt8) :: (0x9c : UInt8) :: (0x00 : UInt8) :: (0x05 : UInt8) :: (0x1b : UInt8) :: (0xac : UInt8) :: (0x84 : UInt8) :: (0x01 : UInt8) :: (0x01 : UInt8) :: (0xa7 : UInt8) :: (0xff : UInt8) :: (0xeb : UInt8) :: (0x02 : UInt8) :: (0xac : UInt8) :: []
def dT_X9_ruinOf_0 : List UInt8 := (0x2a : UInt8) :: (0xb6 : UInt8) :: (0x01 : UInt8) :: (0x3d : UInt8) :: (0x03 : UInt8) :: (0x3c : UInt8) :: (0x1b : UInt8) :: (0x2a : UInt8) :: (0xb4 : UInt8) :: (0x00 : UInt8) :: (0xfb : UInt8) :: (0xa3 : UInt8) :: (0x00 : UInt8) :: (0x13 : UInt8) :: (0x2a : UInt8) :: (0x1b : UInt8) :: dT_X9_ruinOf_1
theorem dT_X9_ruinOf : cX9_ruinOf.data.toList = dT_X9_ruinOf_0 := eq_of_beq (show (cX9_ruinOf.data.toList == dT_X9_ruinOf_0) = true by decide +kernel)
theorem dQ_X9_ruinOf_0 : dQ_P cX9_ruinOf 0 dT_X9_ruinOf_0 := fun i => by rw [dT_X9_ruinOf]; rfl
theorem dQ_X9_ruinOf_1 : dQ_P cX9_ruinOf 16 dT_X9_ruinOf_1 := fun i => (dQ_X9_ruinOf_0 (i + 16)).trans dk_t
theorem dX9_ruinOf_0 : decode cX9_ruinOf 0 = .ok (.aload_n 0, 1) := dk_42 ((dQ_X9_ruinOf_0 0).trans dk_j0)
theorem dk_vu2_1_61 : (0x01 : UInt8).toNat * 256 + (0x3d : UInt8).toNat = (317 : Nat) := by decide +kernel
theorem dX9_ruinOf_1 : decode cX9_ruinOf 1 = .ok (.invokevirtual 317, 3) := dk_182 ((dQ_X9_ruinOf_0 1).trans dk_j1) ((dQ_X9_ruinOf_0 2).trans dk_j2) ((dQ_X9_ruinOf_0 3).trans dk_j3) dk_vu2_1_61
theorem dX9_ruinOf_4 : decode cX9_ruinOf 4 = .ok (.iconst 0, 1) := dk_3 ((dQ_X9_ruinOf_0 4).trans dk_j4)
theorem dX9_ruinOf_5 : decode cX9_ruinOf 5 = .ok (.istore_n 1, 1) := dk_60 ((dQ_X9_ruinOf_0 5).trans dk_j5)
theorem dX9_ruinOf_6 : decode cX9_ruinOf 6 = .ok (.iload_n 1, 1) := dk_27 ((dQ_X9_ruinOf_0 6).trans dk_j6)
theorem dX9_ruinOf_7 : decode cX9_ruinOf 7 = .ok (.aload_n 0, 1) := dk_42 ((dQ_X9_ruinOf_0 7).trans dk_j7)
theorem dX9_ruinOf_8 : decode cX9_ruinOf 8 = .ok (.getfield 251, 3) := dk_180 ((dQ_X9_ruinOf_0 8).trans dk_j8) ((dQ_X9_ruinOf_0 9).trans dk_j9) ((dQ_X9_ruinOf_0 10).trans dk_j10) dk_vu2_0_251
theorem dX9_ruinOf_11 : decode cX9_ruinOf 11 = .ok (.if_icmp .gt 19, 3) := dk_163 ((dQ_X9_ruinOf_0 11).trans dk_j11) ((dQ_X9_ruinOf_0 12).trans dk_j12) ((dQ_X9_ruinOf_0 13).trans dk_j13) dk_vs2_0_19
theorem dX9_ruinOf_14 : decode cX9_ruinOf 14 = .ok (.aload_n 0, 1) := dk_42 ((dQ_X9_ruinOf_0 14).trans dk_j14)
theorem dX9_ruinOf_15 : decode cX9_ruinOf 15 = .ok (.iload_n 1, 1) := dk_27 ((dQ_X9_ruinOf_0 15).trans dk_j15)
theorem dk_vu2_1_64 : (0x01 : UInt8).toNat * 256 + (0x40 : UInt8).toNat = (320 : Nat) := by decide +kernel
theorem dX9_ruinOf_16 : decode cX9_ruinOf 16 = .ok (.invokevirtual 320, 3) := dk_182 ((dQ_X9_ruinOf_1 0).trans dk_j0) ((dQ_X9_ruinOf_1 1).trans dk_j1) ((dQ_X9_ruinOf_1 2).trans dk_j2) dk_vu2_1_64
theorem dX9_ruinOf_19 : decode cX9_ruinOf 19 = .ok (.ifCond .ge 5, 3) := dk_156 ((dQ_X9_ruinOf_1 3).trans dk_j3) ((dQ_X9_ruinOf_1 4).trans dk_j4) ((dQ_X9_ruinOf_1 5).trans dk_j5) dk_vs2_0_5
theorem dX9_ruinOf_22 : decode cX9_ruinOf 22 = .ok (.iload_n 1, 1) := dk_27 ((dQ_X9_ruinOf_1 6).trans dk_j6)
theorem dX9_ruinOf_23 : decode cX9_ruinOf 23 = .ok (.ireturn, 1) := dk_172 ((dQ_X9_ruinOf_1 7).trans dk_j7)
theorem dX9_ruinOf_24 : decode cX9_ruinOf 24 = .ok (.iinc 1 1, 3) := dk_132 ((dQ_X9_ruinOf_1 8).trans dk_j8) ((dQ_X9_ruinOf_1 9).trans dk_j9) ((dQ_X9_ruinOf_1 10).trans dk_j10) dk_vu1_1 dk_vs1_1
theorem dX9_ruinOf_27 : decode cX9_ruinOf 27 = .ok (.goto (-21), 3) := dk_167 ((dQ_X9_ruinOf_1 11).trans dk_j11) ((dQ_X9_ruinOf_1 12).trans dk_j12) ((dQ_X9_ruinOf_1 13).trans dk_j13) dk_vs2_255_235
theorem dX9_ruinOf_30 : decode cX9_ruinOf 30 = .ok (.iconst (-1), 1) := dk_2 ((dQ_X9_ruinOf_1 14).trans dk_j14)
theorem dX9_ruinOf_31 : decode cX9_ruinOf 31 = .ok (.ireturn, 1) := dk_172 ((dQ_X9_ruinOf_1 15).trans dk_j15)
def dT_X9_asksPolicy_0 : List UInt8 := (0x2a : UInt8) :: (0xb6 : UInt8) :: (0x01 : UInt8) :: (0x10 : UInt8) :: (0x57 : UInt8) :: (0x2a : UInt8) :: (0x1b : UInt8) :: (0xb6 : UInt8) :: (0x00 : UInt8) :: (0xe4 : UInt8) :: (0xac : UInt8) :: []
theorem dT_X9_asksPolicy : cX9_asksPolicy.data.toList = dT_X9_asksPolicy_0 := eq_of_beq (show (cX9_asksPolicy.data.toList == dT_X9_asksPolicy_0) = true by decide +kernel)
theorem dQ_X9_asksPolicy_0 : dQ_P cX9_asksPolicy 0 dT_X9_asksPolicy_0 := fun i => by rw [dT_X9_asksPolicy]; rfl
theorem dX9_asksPolicy_0 : decode cX9_asksPolicy 0 = .ok (.aload_n 0, 1) := dk_42 ((dQ_X9_asksPolicy_0 0).trans dk_j0)
theorem dX9_asksPolicy_1 : decode cX9_asksPolicy 1 = .ok (.invokevirtual 272, 3) := dk_182 ((dQ_X9_asksPolicy_0 1).trans dk_j1) ((dQ_X9_asksPolicy_0 2).trans dk_j2) ((dQ_X9_asksPolicy_0 3).trans dk_j3) dk_vu2_1_16
theorem dX9_asksPolicy_4 : decode cX9_asksPolicy 4 = .ok (.pop, 1) := dk_87 ((dQ_X9_asksPolicy_0 4).trans dk_j4)
theorem dX9_asksPolicy_5 : decode cX9_asksPolicy 5 = .ok (.aload_n 0, 1) := dk_42 ((dQ_X9_asksPolicy_0 5).trans dk_j5)
theorem dX9_asksPolicy_6 : decode cX9_asksPolicy 6 = .ok (.iload_n 1, 1) := dk_27 ((dQ_X9_asksPolicy_0 6).trans dk_j6)
theorem dX9_asksPolicy_7 : decode cX9_asksPolicy 7 = .ok (.invokevirtual 228, 3) := dk_182 ((dQ_X9_asksPolicy_0 7).trans dk_j7) ((dQ_X9_asksPolicy_0 8).trans dk_j8) ((dQ_X9_asksPolicy_0 9).trans dk_j9) dk_vu2_0_228
theorem dX9_asksPolicy_10 : decode cX9_asksPolicy 10 = .ok (.ireturn, 1) := dk_172 ((dQ_X9_asksPolicy_0 10).trans dk_j10)
def dT_X9_claim_1 : List UInt8 := (0x10 : UInt8) :: (0xfe : UInt8) :: (0xac : UInt8) :: []
def dT_X9_claim_0 : List UInt8 := (0x2a : UInt8) :: (0x1b : UInt8) :: (0xb6 : UInt8) :: (0x01 : UInt8) :: (0x43 : UInt8) :: (0x99 : UInt8) :: (0x00 : UInt8) :: (0x0b : UInt8) :: (0x2a : UInt8) :: (0x1b : UInt8) :: (0xb6 : UInt8) :: (0x01 : UInt8) :: (0x46 : UInt8) :: (0xa7 : UInt8) :: (0x00 : UInt8) :: (0x05 : UInt8) :: dT_X9_claim_1
theorem dT_X9_claim : cX9_claim.data.toList = dT_X9_claim_0 := eq_of_beq (show (cX9_claim.data.toList == dT_X9_claim_0) = true by decide +kernel)
theorem dQ_X9_claim_0 : dQ_P cX9_claim 0 dT_X9_claim_0 := fun i => by rw [dT_X9_claim]; rfl
theorem dQ_X9_claim_1 : dQ_P cX9_claim 16 dT_X9_claim_1 := fun i => (dQ_X9_claim_0 (i + 16)).trans dk_t
theorem dX9_claim_0 : decode cX9_claim 0 = .ok (.aload_n 0, 1) := dk_42 ((dQ_X9_claim_0 0).trans dk_j0)
theorem dX9_claim_1 : decode cX9_claim 1 = .ok (.iload_n 1, 1) := dk_27 ((dQ_X9_claim_0 1).trans dk_j1)
theorem dk_vu2_1_67 : (0x01 : UInt8).toNat * 256 + (0x43 : UInt8).toNat = (323 : Nat) := by decide +kernel
theorem dX9_claim_2 : decode cX9_claim 2 = .ok (.invokevirtual 323, 3) := dk_182 ((dQ_X9_claim_0 2).trans dk_j2) ((dQ_X9_claim_0 3).trans dk_j3) ((dQ_X9_claim_0 4).trans dk_j4) dk_vu2_1_67
theorem dX9_claim_5 : decode cX9_claim 5 = .ok (.ifCond .eq 11, 3) := dk_153 ((dQ_X9_claim_0 5).trans dk_j5) ((dQ_X9_claim_0 6).trans dk_j6) ((dQ_X9_claim_0 7).trans dk_j7) dk_vs2_0_11
theorem dX9_claim_8 : decode cX9_claim 8 = .ok (.aload_n 0, 1) := dk_42 ((dQ_X9_claim_0 8).trans dk_j8)
theorem dX9_claim_9 : decode cX9_claim 9 = .ok (.iload_n 1, 1) := dk_27 ((dQ_X9_claim_0 9).trans dk_j9)
theorem dk_vu2_1_70 : (0x01 : UInt8).toNat * 256 + (0x46 : UInt8).toNat = (326 : Nat) := by decide +kernel
theorem dX9_claim_10 : decode cX9_claim 10 = .ok (.invokevirtual 326, 3) := dk_182 ((dQ_X9_claim_0 10).trans dk_j10) ((dQ_X9_claim_0 11).trans dk_j11) ((dQ_X9_claim_0 12).trans dk_j12) dk_vu2_1_70
theorem dX9_claim_13 : decode cX9_claim 13 = .ok (.goto 5, 3) := dk_167 ((dQ_X9_claim_0 13).trans dk_j13) ((dQ_X9_claim_0 14).trans dk_j14) ((dQ_X9_claim_0 15).trans dk_j15) dk_vs2_0_5
theorem dX9_claim_16 : decode cX9_claim 16 = .ok (.bipush (-2), 2) := dk_16 ((dQ_X9_claim_1 0).trans dk_j0) ((dQ_X9_claim_1 1).trans dk_j1) dk_vs1_254
theorem dX9_claim_18 : decode cX9_claim 18 = .ok (.ireturn, 1) := dk_172 ((dQ_X9_claim_1 2).trans dk_j2)
def dT_X9_paid_1 : List UInt8 := (0x57 : UInt8) :: (0x2a : UInt8) :: (0xb4 : UInt8) :: (0x01 : UInt8) :: (0x33 : UInt8) :: (0xac : UInt8) :: []
def dT_X9_paid_0 : List UInt8 := (0x2a : UInt8) :: (0x1b : UInt8) :: (0xb6 : UInt8) :: (0x01 : UInt8) :: (0x43 : UInt8) :: (0x9a : UInt8) :: (0x00 : UInt8) :: (0x06 : UInt8) :: (0x10 : UInt8) :: (0xfe : UInt8) :: (0xac : UInt8) :: (0x2a : UInt8) :: (0x1b : UInt8) :: (0xb6 : UInt8) :: (0x01 : UInt8) :: (0x46 : UInt8) :: dT_X9_paid_1
theorem dT_X9_paid : cX9_paid.data.toList = dT_X9_paid_0 := eq_of_beq (show (cX9_paid.data.toList == dT_X9_paid_0) = true by decide +kernel)
theorem dQ_X9_paid_0 : dQ_P cX9_paid 0 dT_X9_paid_0 := fun i => by rw [dT_X9_paid]; rfl
theorem dQ_X9_paid_1 : dQ_P cX9_paid 16 dT_X9_paid_1 := fun i => (dQ_X9_paid_0 (i + 16)).trans dk_t
theorem dX9_paid_0 : decode cX9_paid 0 = .ok (.aload_n 0, 1) := dk_42 ((dQ_X9_paid_0 0).trans dk_j0)
theorem dX9_paid_1 : decode cX9_paid 1 = .ok (.iload_n 1, 1) := dk_27 ((dQ_X9_paid_0 1).trans dk_j1)
theorem dX9_paid_2 : decode cX9_paid 2 = .ok (.invokevirtual 323, 3) := dk_182 ((dQ_X9_paid_0 2).trans dk_j2) ((dQ_X9_paid_0 3).trans dk_j3) ((dQ_X9_paid_0 4).trans dk_j4) dk_vu2_1_67
theorem dX9_paid_5 : decode cX9_paid 5 = .ok (.ifCond .ne 6, 3) := dk_154 ((dQ_X9_paid_0 5).trans dk_j5) ((dQ_X9_paid_0 6).trans dk_j6) ((dQ_X9_paid_0 7).trans dk_j7) dk_vs2_0_6
theorem dX9_paid_8 : decode cX9_paid 8 = .ok (.bipush (-2), 2) := dk_16 ((dQ_X9_paid_0 8).trans dk_j8) ((dQ_X9_paid_0 9).trans dk_j9) dk_vs1_254
theorem dX9_paid_10 : decode cX9_paid 10 = .ok (.ireturn, 1) := dk_172 ((dQ_X9_paid_0 10).trans dk_j10)
theorem dX9_paid_11 : decode cX9_paid 11 = .ok (.aload_n 0, 1) := dk_42 ((dQ_X9_paid_0 11).trans dk_j11)
theorem dX9_paid_12 : decode cX9_paid 12 = .ok (.iload_n 1, 1) := dk_27 ((dQ_X9_paid_0 12).trans dk_j12)
theorem dX9_paid_13 : decode cX9_paid 13 = .ok (.invokevirtual 326, 3) := dk_182 ((dQ_X9_paid_0 13).trans dk_j13) ((dQ_X9_paid_0 14).trans dk_j14) ((dQ_X9_paid_0 15).trans dk_j15) dk_vu2_1_70
theorem dX9_paid_16 : decode cX9_paid 16 = .ok (.pop, 1) := dk_87 ((dQ_X9_paid_1 0).trans dk_j0)
theorem dX9_paid_17 : decode cX9_paid 17 = .ok (.aload_n 0, 1) := dk_42 ((dQ_X9_paid_1 1).trans dk_j1)
theorem dX9_paid_18 : decode cX9_paid 18 = .ok (.getfield 307, 3) := dk_180 ((dQ_X9_paid_1 2).trans dk_j2) ((dQ_X9_paid_1 3).trans dk_j3) ((dQ_X9_paid_1 4).trans dk_j4) dk_vu2_1_51
theorem dX9_paid_21 : decode cX9_paid 21 = .ok (.ireturn, 1) := dk_172 ((dQ_X9_paid_1 5).trans dk_j5)
def dT_X9_claims_3 : List UInt8 := (0xe0 : UInt8) :: (0x1b : UInt8) :: (0xac : UInt8) :: []
def dT_X9_claims_2 : List UInt8 := (0x00 : UInt8) :: (0x09 : UInt8) :: (0x04 : UInt8) :: (0x1c : UInt8) :: (0x78 : UInt8) :: (0xa7 : UInt8) :: (0x00 : UInt8) :: (0x04 : UInt8) :: (0x03 : UInt8) :: (0x80 : UInt8) :: (0x3c : UInt8) :: (0x84 : UInt8) :: (0x02 : UInt8) :: (0x01 : UInt8) :: (0xa7 : UInt8) :: (0xff : UInt8) :: dT_X9_claims_3
def dT_X9_claims_1 : List UInt8 := (0xb4 : UInt8) :: (0x00 : UInt8) :: (0x09 : UInt8) :: (0x10 : UInt8) :: (0x08 : UInt8) :: (0x2e : UInt8) :: (0xa2 : UInt8) :: (0x00 : UInt8) :: (0x1b : UInt8) :: (0x1b : UInt8) :: (0x2a : UInt8) :: (0x1c : UInt8) :: (0xb6 : UInt8) :: (0x01 : UInt8) :: (0x46 : UInt8) :: (0x9e : UInt8) :: dT_X9_claims_2
def dT_X9_claims_0 : List UInt8 := (0x2a : UInt8) :: (0xb6 : UInt8) :: (0x01 : UInt8) :: (0x10 : UInt8) :: (0x9a : UInt8) :: (0x00 : UInt8) :: (0x06 : UInt8) :: (0x10 : UInt8) :: (0xfe : UInt8) :: (0xac : UInt8) :: (0x03 : UInt8) :: (0x3c : UInt8) :: (0x03 : UInt8) :: (0x3d : UInt8) :: (0x1c : UInt8) :: (0x2a : UInt8) :: dT_X9_claims_1
theorem dT_X9_claims : cX9_claims.data.toList = dT_X9_claims_0 := eq_of_beq (show (cX9_claims.data.toList == dT_X9_claims_0) = true by decide +kernel)
theorem dQ_X9_claims_0 : dQ_P cX9_claims 0 dT_X9_claims_0 := fun i => by rw [dT_X9_claims]; rfl
theorem dQ_X9_claims_1 : dQ_P cX9_claims 16 dT_X9_claims_1 := fun i => (dQ_X9_claims_0 (i + 16)).trans dk_t
theorem dQ_X9_claims_2 : dQ_P cX9_claims 32 dT_X9_claims_2 := fun i => (dQ_X9_claims_1 (i + 16)).trans dk_t
theorem dQ_X9_claims_3 : dQ_P cX9_claims 48 dT_X9_claims_3 := fun i => (dQ_X9_claims_2 (i + 16)).trans dk_t
theorem dX9_claims_0 : decode cX9_claims 0 = .ok (.aload_n 0, 1) := dk_42 ((dQ_X9_claims_0 0).trans dk_j0)
theorem dX9_claims_1 : decode cX9_claims 1 = .ok (.invokevirtual 272, 3) := dk_182 ((dQ_X9_claims_0 1).trans dk_j1) ((dQ_X9_claims_0 2).trans dk_j2) ((dQ_X9_claims_0 3).trans dk_j3) dk_vu2_1_16
theorem dX9_claims_4 : decode cX9_claims 4 = .ok (.ifCond .ne 6, 3) := dk_154 ((dQ_X9_claims_0 4).trans dk_j4) ((dQ_X9_claims_0 5).trans dk_j5) ((dQ_X9_claims_0 6).trans dk_j6) dk_vs2_0_6
theorem dX9_claims_7 : decode cX9_claims 7 = .ok (.bipush (-2), 2) := dk_16 ((dQ_X9_claims_0 7).trans dk_j7) ((dQ_X9_claims_0 8).trans dk_j8) dk_vs1_254
theorem dX9_claims_9 : decode cX9_claims 9 = .ok (.ireturn, 1) := dk_172 ((dQ_X9_claims_0 9).trans dk_j9)
theorem dX9_claims_10 : decode cX9_claims 10 = .ok (.iconst 0, 1) := dk_3 ((dQ_X9_claims_0 10).trans dk_j10)
theorem dX9_claims_11 : decode cX9_claims 11 = .ok (.istore_n 1, 1) := dk_60 ((dQ_X9_claims_0 11).trans dk_j11)
theorem dX9_claims_12 : decode cX9_claims 12 = .ok (.iconst 0, 1) := dk_3 ((dQ_X9_claims_0 12).trans dk_j12)
theorem dX9_claims_13 : decode cX9_claims 13 = .ok (.istore_n 2, 1) := dk_61 ((dQ_X9_claims_0 13).trans dk_j13)
theorem dX9_claims_14 : decode cX9_claims 14 = .ok (.iload_n 2, 1) := dk_28 ((dQ_X9_claims_0 14).trans dk_j14)
theorem dX9_claims_15 : decode cX9_claims 15 = .ok (.aload_n 0, 1) := dk_42 ((dQ_X9_claims_0 15).trans dk_j15)
theorem dX9_claims_16 : decode cX9_claims 16 = .ok (.getfield 9, 3) := dk_180 ((dQ_X9_claims_1 0).trans dk_j0) ((dQ_X9_claims_1 1).trans dk_j1) ((dQ_X9_claims_1 2).trans dk_j2) dk_vu2_0_9
theorem dX9_claims_19 : decode cX9_claims 19 = .ok (.bipush 8, 2) := dk_16 ((dQ_X9_claims_1 3).trans dk_j3) ((dQ_X9_claims_1 4).trans dk_j4) dk_vs1_8
theorem dX9_claims_21 : decode cX9_claims 21 = .ok (.iaload, 1) := dk_46 ((dQ_X9_claims_1 5).trans dk_j5)
theorem dX9_claims_22 : decode cX9_claims 22 = .ok (.if_icmp .ge 27, 3) := dk_162 ((dQ_X9_claims_1 6).trans dk_j6) ((dQ_X9_claims_1 7).trans dk_j7) ((dQ_X9_claims_1 8).trans dk_j8) dk_vs2_0_27
theorem dX9_claims_25 : decode cX9_claims 25 = .ok (.iload_n 1, 1) := dk_27 ((dQ_X9_claims_1 9).trans dk_j9)
theorem dX9_claims_26 : decode cX9_claims 26 = .ok (.aload_n 0, 1) := dk_42 ((dQ_X9_claims_1 10).trans dk_j10)
theorem dX9_claims_27 : decode cX9_claims 27 = .ok (.iload_n 2, 1) := dk_28 ((dQ_X9_claims_1 11).trans dk_j11)
theorem dX9_claims_28 : decode cX9_claims 28 = .ok (.invokevirtual 326, 3) := dk_182 ((dQ_X9_claims_1 12).trans dk_j12) ((dQ_X9_claims_1 13).trans dk_j13) ((dQ_X9_claims_1 14).trans dk_j14) dk_vu2_1_70
theorem dX9_claims_31 : decode cX9_claims 31 = .ok (.ifCond .le 9, 3) := dk_158 ((dQ_X9_claims_1 15).trans dk_j15) ((dQ_X9_claims_2 0).trans dk_j0) ((dQ_X9_claims_2 1).trans dk_j1) dk_vs2_0_9
theorem dX9_claims_34 : decode cX9_claims 34 = .ok (.iconst 1, 1) := dk_4 ((dQ_X9_claims_2 2).trans dk_j2)
theorem dX9_claims_35 : decode cX9_claims 35 = .ok (.iload_n 2, 1) := dk_28 ((dQ_X9_claims_2 3).trans dk_j3)
theorem dX9_claims_36 : decode cX9_claims 36 = .ok (.ishl, 1) := dk_120 ((dQ_X9_claims_2 4).trans dk_j4)
theorem dX9_claims_37 : decode cX9_claims 37 = .ok (.goto 4, 3) := dk_167 ((dQ_X9_claims_2 5).trans dk_j5) ((dQ_X9_claims_2 6).trans dk_j6) ((dQ_X9_claims_2 7).trans dk_j7) dk_vs2_0_4
theorem dX9_claims_40 : decode cX9_claims 40 = .ok (.iconst 0, 1) := dk_3 ((dQ_X9_claims_2 8).trans dk_j8)
theorem dX9_claims_41 : decode cX9_claims 41 = .ok (.ior, 1) := dk_128 ((dQ_X9_claims_2 9).trans dk_j9)
theorem dX9_claims_42 : decode cX9_claims 42 = .ok (.istore_n 1, 1) := dk_60 ((dQ_X9_claims_2 10).trans dk_j10)
theorem dX9_claims_43 : decode cX9_claims 43 = .ok (.iinc 2 1, 3) := dk_132 ((dQ_X9_claims_2 11).trans dk_j11) ((dQ_X9_claims_2 12).trans dk_j12) ((dQ_X9_claims_2 13).trans dk_j13) dk_vu1_2 dk_vs1_1
theorem dk_vs2_255_224 : Reader.signed 16 ((0xff : UInt8).toNat * 256 + (0xe0 : UInt8).toNat) = (-32 : Int) := by decide +kernel
theorem dX9_claims_46 : decode cX9_claims 46 = .ok (.goto (-32), 3) := dk_167 ((dQ_X9_claims_2 14).trans dk_j14) ((dQ_X9_claims_2 15).trans dk_j15) ((dQ_X9_claims_3 0).trans dk_j0) dk_vs2_255_224
theorem dX9_claims_49 : decode cX9_claims 49 = .ok (.iload_n 1, 1) := dk_27 ((dQ_X9_claims_3 1).trans dk_j1)
theorem dX9_claims_50 : decode cX9_claims 50 = .ok (.ireturn, 1) := dk_172 ((dQ_X9_claims_3 2).trans dk_j2)
def dT_X9_money_1 : List UInt8 := (0x2a : UInt8) :: (0x1b : UInt8) :: (0xb6 : UInt8) :: (0x01 : UInt8) :: (0x40 : UInt8) :: (0xac : UInt8) :: []
def dT_X9_money_0 : List UInt8 := (0x2a : UInt8) :: (0x1b : UInt8) :: (0xb6 : UInt8) :: (0x01 : UInt8) :: (0x19 : UInt8) :: (0x9a : UInt8) :: (0x00 : UInt8) :: (0x07 : UInt8) :: (0x13 : UInt8) :: (0x01 : UInt8) :: (0x48 : UInt8) :: (0xac : UInt8) :: (0x2a : UInt8) :: (0xb6 : UInt8) :: (0x01 : UInt8) :: (0x3d : UInt8) :: dT_X9_money_1
theorem dT_X9_money : cX9_money.data.toList = dT_X9_money_0 := eq_of_beq (show (cX9_money.data.toList == dT_X9_money_0) = true by decide +kernel)
theorem dQ_X9_money_0 : dQ_P cX9_money 0 dT_X9_money_0 := fun i => by rw [dT_X9_money]; rfl
theorem dQ_X9_money_1 : dQ_P cX9_money 16 dT_X9_money_1 := fun i => (dQ_X9_money_0 (i + 16)).trans dk_t
theorem dX9_money_0 : decode cX9_money 0 = .ok (.aload_n 0, 1) := dk_42 ((dQ_X9_money_0 0).trans dk_j0)
theorem dX9_money_1 : decode cX9_money 1 = .ok (.iload_n 1, 1) := dk_27 ((dQ_X9_money_0 1).trans dk_j1)
theorem dX9_money_2 : decode cX9_money 2 = .ok (.invokevirtual 281, 3) := dk_182 ((dQ_X9_money_0 2).trans dk_j2) ((dQ_X9_money_0 3).trans dk_j3) ((dQ_X9_money_0 4).trans dk_j4) dk_vu2_1_25
theorem dX9_money_5 : decode cX9_money 5 = .ok (.ifCond .ne 7, 3) := dk_154 ((dQ_X9_money_0 5).trans dk_j5) ((dQ_X9_money_0 6).trans dk_j6) ((dQ_X9_money_0 7).trans dk_j7) dk_vs2_0_7
theorem dk_vu2_1_72 : (0x01 : UInt8).toNat * 256 + (0x48 : UInt8).toNat = (328 : Nat) := by decide +kernel
theorem dX9_money_8 : decode cX9_money 8 = .ok (.ldc_w 328, 3) := dk_19 ((dQ_X9_money_0 8).trans dk_j8) ((dQ_X9_money_0 9).trans dk_j9) ((dQ_X9_money_0 10).trans dk_j10) dk_vu2_1_72
theorem dX9_money_11 : decode cX9_money 11 = .ok (.ireturn, 1) := dk_172 ((dQ_X9_money_0 11).trans dk_j11)
theorem dX9_money_12 : decode cX9_money 12 = .ok (.aload_n 0, 1) := dk_42 ((dQ_X9_money_0 12).trans dk_j12)
theorem dX9_money_13 : decode cX9_money 13 = .ok (.invokevirtual 317, 3) := dk_182 ((dQ_X9_money_0 13).trans dk_j13) ((dQ_X9_money_0 14).trans dk_j14) ((dQ_X9_money_0 15).trans dk_j15) dk_vu2_1_61
theorem dX9_money_16 : decode cX9_money 16 = .ok (.aload_n 0, 1) := dk_42 ((dQ_X9_money_1 0).trans dk_j0)
theorem dX9_money_17 : decode cX9_money 17 = .ok (.iload_n 1, 1) := dk_27 ((dQ_X9_money_1 1).trans dk_j1)
theorem dX9_money_18 : decode cX9_money 18 = .ok (.invokevirtual 320, 3) := dk_182 ((dQ_X9_money_1 2).trans dk_j2) ((dQ_X9_money_1 3).trans dk_j3) ((dQ_X9_money_1 4).trans dk_j4) dk_vu2_1_64
theorem dX9_money_21 : decode cX9_money 21 = .ok (.ireturn, 1) := dk_172 ((dQ_X9_money_1 5).trans dk_j5)
def dT_X9_ruin_1 : List UInt8 := (0xac : UInt8) :: []
def dT_X9_ruin_0 : List UInt8 := (0x2a : UInt8) :: (0xb6 : UInt8) :: (0x01 : UInt8) :: (0x10 : UInt8) :: (0x99 : UInt8) :: (0x00 : UInt8) :: (0x0a : UInt8) :: (0x2a : UInt8) :: (0xb6 : UInt8) :: (0x01 : UInt8) :: (0x49 : UInt8) :: (0xa7 : UInt8) :: (0x00 : UInt8) :: (0x05 : UInt8) :: (0x10 : UInt8) :: (0xfe : UInt8) :: dT_X9_ruin_1
theorem dT_X9_ruin : cX9_ruin.data.toList = dT_X9_ruin_0 := eq_of_beq (show (cX9_ruin.data.toList == dT_X9_ruin_0) = true by decide +kernel)
theorem dQ_X9_ruin_0 : dQ_P cX9_ruin 0 dT_X9_ruin_0 := fun i => by rw [dT_X9_ruin]; rfl
theorem dQ_X9_ruin_1 : dQ_P cX9_ruin 16 dT_X9_ruin_1 := fun i => (dQ_X9_ruin_0 (i + 16)).trans dk_t
theorem dX9_ruin_0 : decode cX9_ruin 0 = .ok (.aload_n 0, 1) := dk_42 ((dQ_X9_ruin_0 0).trans dk_j0)
theorem dX9_ruin_1 : decode cX9_ruin 1 = .ok (.invokevirtual 272, 3) := dk_182 ((dQ_X9_ruin_0 1).trans dk_j1) ((dQ_X9_ruin_0 2).trans dk_j2) ((dQ_X9_ruin_0 3).trans dk_j3) dk_vu2_1_16
theorem dX9_ruin_4 : decode cX9_ruin 4 = .ok (.ifCond .eq 10, 3) := dk_153 ((dQ_X9_ruin_0 4).trans dk_j4) ((dQ_X9_ruin_0 5).trans dk_j5) ((dQ_X9_ruin_0 6).trans dk_j6) dk_vs2_0_10
theorem dX9_ruin_7 : decode cX9_ruin 7 = .ok (.aload_n 0, 1) := dk_42 ((dQ_X9_ruin_0 7).trans dk_j7)
theorem dk_vu2_1_73 : (0x01 : UInt8).toNat * 256 + (0x49 : UInt8).toNat = (329 : Nat) := by decide +kernel
theorem dX9_ruin_8 : decode cX9_ruin 8 = .ok (.invokevirtual 329, 3) := dk_182 ((dQ_X9_ruin_0 8).trans dk_j8) ((dQ_X9_ruin_0 9).trans dk_j9) ((dQ_X9_ruin_0 10).trans dk_j10) dk_vu2_1_73
theorem dX9_ruin_11 : decode cX9_ruin 11 = .ok (.goto 5, 3) := dk_167 ((dQ_X9_ruin_0 11).trans dk_j11) ((dQ_X9_ruin_0 12).trans dk_j12) ((dQ_X9_ruin_0 13).trans dk_j13) dk_vs2_0_5
theorem dX9_ruin_14 : decode cX9_ruin 14 = .ok (.bipush (-2), 2) := dk_16 ((dQ_X9_ruin_0 14).trans dk_j14) ((dQ_X9_ruin_0 15).trans dk_j15) dk_vs1_254
theorem dX9_ruin_16 : decode cX9_ruin 16 = .ok (.ireturn, 1) := dk_172 ((dQ_X9_ruin_1 0).trans dk_j0)
def dT_X9_coveredOf_2 : List UInt8 := (0x00 : UInt8) :: (0x04 : UInt8) :: (0x03 : UInt8) :: (0x80 : UInt8) :: (0x3d : UInt8) :: (0x84 : UInt8) :: (0x03 : UInt8) :: (0x01 : UInt8) :: (0xa7 : UInt8) :: (0xff : UInt8) :: (0xdc : UInt8) :: (0x1c : UInt8) :: (0xac : UInt8) :: []
def dT_X9_coveredOf_1 : List UInt8 := (0x2a : UInt8) :: (0x1d : UInt8) :: (0x03 : UInt8) :: (0xb6 : UInt8) :: (0x00 : UInt8) :: (0xea : UInt8) :: (0x1b : UInt8) :: (0xa0 : UInt8) :: (0x00 : UInt8) :: (0x0b : UInt8) :: (0x2a : UInt8) :: (0x1d : UInt8) :: (0xb6 : UInt8) :: (0x01 : UInt8) :: (0x30 : UInt8) :: (0xa7 : UInt8) :: dT_X9_coveredOf_2
def dT_X9_coveredOf_0 : List UInt8 := (0x03 : UInt8) :: (0x3d : UInt8) :: (0x03 : UInt8) :: (0x3e : UInt8) :: (0x1d : UInt8) :: (0x2a : UInt8) :: (0xb4 : UInt8) :: (0x00 : UInt8) :: (0x09 : UInt8) :: (0x10 : UInt8) :: (0x08 : UInt8) :: (0x2e : UInt8) :: (0xa2 : UInt8) :: (0x00 : UInt8) :: (0x1f : UInt8) :: (0x1c : UInt8) :: dT_X9_coveredOf_1
theorem dT_X9_coveredOf : cX9_coveredOf.data.toList = dT_X9_coveredOf_0 := eq_of_beq (show (cX9_coveredOf.data.toList == dT_X9_coveredOf_0) = true by decide +kernel)
theorem dQ_X9_coveredOf_0 : dQ_P cX9_coveredOf 0 dT_X9_coveredOf_0 := fun i => by rw [dT_X9_coveredOf]; rfl
theorem dQ_X9_coveredOf_1 : dQ_P cX9_coveredOf 16 dT_X9_coveredOf_1 := fun i => (dQ_X9_coveredOf_0 (i + 16)).trans dk_t
theorem dQ_X9_coveredOf_2 : dQ_P cX9_coveredOf 32 dT_X9_coveredOf_2 := fun i => (dQ_X9_coveredOf_1 (i + 16)).trans dk_t
theorem dX9_coveredOf_0 : decode cX9_coveredOf 0 = .ok (.iconst 0, 1) := dk_3 ((dQ_X9_coveredOf_0 0).trans dk_j0)
theorem dX9_coveredOf_1 : decode cX9_coveredOf 1 = .ok (.istore_n 2, 1) := dk_61 ((dQ_X9_coveredOf_0 1).trans dk_j1)
theorem dX9_coveredOf_2 : decode cX9_coveredOf 2 = .ok (.iconst 0, 1) := dk_3 ((dQ_X9_coveredOf_0 2).trans dk_j2)
theorem dX9_coveredOf_3 : decode cX9_coveredOf 3 = .ok (.istore_n 3, 1) := dk_62 ((dQ_X9_coveredOf_0 3).trans dk_j3)
theorem dX9_coveredOf_4 : decode cX9_coveredOf 4 = .ok (.iload_n 3, 1) := dk_29 ((dQ_X9_coveredOf_0 4).trans dk_j4)
theorem dX9_coveredOf_5 : decode cX9_coveredOf 5 = .ok (.aload_n 0, 1) := dk_42 ((dQ_X9_coveredOf_0 5).trans dk_j5)
theorem dX9_coveredOf_6 : decode cX9_coveredOf 6 = .ok (.getfield 9, 3) := dk_180 ((dQ_X9_coveredOf_0 6).trans dk_j6) ((dQ_X9_coveredOf_0 7).trans dk_j7) ((dQ_X9_coveredOf_0 8).trans dk_j8) dk_vu2_0_9
theorem dX9_coveredOf_9 : decode cX9_coveredOf 9 = .ok (.bipush 8, 2) := dk_16 ((dQ_X9_coveredOf_0 9).trans dk_j9) ((dQ_X9_coveredOf_0 10).trans dk_j10) dk_vs1_8
theorem dX9_coveredOf_11 : decode cX9_coveredOf 11 = .ok (.iaload, 1) := dk_46 ((dQ_X9_coveredOf_0 11).trans dk_j11)
theorem dX9_coveredOf_12 : decode cX9_coveredOf 12 = .ok (.if_icmp .ge 31, 3) := dk_162 ((dQ_X9_coveredOf_0 12).trans dk_j12) ((dQ_X9_coveredOf_0 13).trans dk_j13) ((dQ_X9_coveredOf_0 14).trans dk_j14) dk_vs2_0_31
theorem dX9_coveredOf_15 : decode cX9_coveredOf 15 = .ok (.iload_n 2, 1) := dk_28 ((dQ_X9_coveredOf_0 15).trans dk_j15)
theorem dX9_coveredOf_16 : decode cX9_coveredOf 16 = .ok (.aload_n 0, 1) := dk_42 ((dQ_X9_coveredOf_1 0).trans dk_j0)
theorem dX9_coveredOf_17 : decode cX9_coveredOf 17 = .ok (.iload_n 3, 1) := dk_29 ((dQ_X9_coveredOf_1 1).trans dk_j1)
theorem dX9_coveredOf_18 : decode cX9_coveredOf 18 = .ok (.iconst 0, 1) := dk_3 ((dQ_X9_coveredOf_1 2).trans dk_j2)
theorem dX9_coveredOf_19 : decode cX9_coveredOf 19 = .ok (.invokevirtual 234, 3) := dk_182 ((dQ_X9_coveredOf_1 3).trans dk_j3) ((dQ_X9_coveredOf_1 4).trans dk_j4) ((dQ_X9_coveredOf_1 5).trans dk_j5) dk_vu2_0_234
theorem dX9_coveredOf_22 : decode cX9_coveredOf 22 = .ok (.iload_n 1, 1) := dk_27 ((dQ_X9_coveredOf_1 6).trans dk_j6)
theorem dX9_coveredOf_23 : decode cX9_coveredOf 23 = .ok (.if_icmp .ne 11, 3) := dk_160 ((dQ_X9_coveredOf_1 7).trans dk_j7) ((dQ_X9_coveredOf_1 8).trans dk_j8) ((dQ_X9_coveredOf_1 9).trans dk_j9) dk_vs2_0_11
theorem dX9_coveredOf_26 : decode cX9_coveredOf 26 = .ok (.aload_n 0, 1) := dk_42 ((dQ_X9_coveredOf_1 10).trans dk_j10)
theorem dX9_coveredOf_27 : decode cX9_coveredOf 27 = .ok (.iload_n 3, 1) := dk_29 ((dQ_X9_coveredOf_1 11).trans dk_j11)
theorem dX9_coveredOf_28 : decode cX9_coveredOf 28 = .ok (.invokevirtual 304, 3) := dk_182 ((dQ_X9_coveredOf_1 12).trans dk_j12) ((dQ_X9_coveredOf_1 13).trans dk_j13) ((dQ_X9_coveredOf_1 14).trans dk_j14) dk_vu2_1_48
theorem dX9_coveredOf_31 : decode cX9_coveredOf 31 = .ok (.goto 4, 3) := dk_167 ((dQ_X9_coveredOf_1 15).trans dk_j15) ((dQ_X9_coveredOf_2 0).trans dk_j0) ((dQ_X9_coveredOf_2 1).trans dk_j1) dk_vs2_0_4
theorem dX9_coveredOf_34 : decode cX9_coveredOf 34 = .ok (.iconst 0, 1) := dk_3 ((dQ_X9_coveredOf_2 2).trans dk_j2)
theorem dX9_coveredOf_35 : decode cX9_coveredOf 35 = .ok (.ior, 1) := dk_128 ((dQ_X9_coveredOf_2 3).trans dk_j3)
theorem dX9_coveredOf_36 : decode cX9_coveredOf 36 = .ok (.istore_n 2, 1) := dk_61 ((dQ_X9_coveredOf_2 4).trans dk_j4)
theorem dX9_coveredOf_37 : decode cX9_coveredOf 37 = .ok (.iinc 3 1, 3) := dk_132 ((dQ_X9_coveredOf_2 5).trans dk_j5) ((dQ_X9_coveredOf_2 6).trans dk_j6) ((dQ_X9_coveredOf_2 7).trans dk_j7) dk_vu1_3 dk_vs1_1
theorem dX9_coveredOf_40 : decode cX9_coveredOf 40 = .ok (.goto (-36), 3) := dk_167 ((dQ_X9_coveredOf_2 8).trans dk_j8) ((dQ_X9_coveredOf_2 9).trans dk_j9) ((dQ_X9_coveredOf_2 10).trans dk_j10) dk_vs2_255_220
theorem dX9_coveredOf_43 : decode cX9_coveredOf 43 = .ok (.iload_n 2, 1) := dk_28 ((dQ_X9_coveredOf_2 11).trans dk_j11)
theorem dX9_coveredOf_44 : decode cX9_coveredOf 44 = .ok (.ireturn, 1) := dk_172 ((dQ_X9_coveredOf_2 12).trans dk_j12)
def dT_X9_covered_1 : List UInt8 := (0x10 : UInt8) :: (0xfe : UInt8) :: (0xac : UInt8) :: []
def dT_X9_covered_0 : List UInt8 := (0x2a : UInt8) :: (0x1b : UInt8) :: (0xb6 : UInt8) :: (0x01 : UInt8) :: (0x1c : UInt8) :: (0x99 : UInt8) :: (0x00 : UInt8) :: (0x0b : UInt8) :: (0x2a : UInt8) :: (0x1b : UInt8) :: (0xb6 : UInt8) :: (0x01 : UInt8) :: (0x4c : UInt8) :: (0xa7 : UInt8) :: (0x00 : UInt8) :: (0x05 : UInt8) :: dT_X9_covered_1
theorem dT_X9_covered : cX9_covered.data.toList = dT_X9_covered_0 := eq_of_beq (show (cX9_covered.data.toList == dT_X9_covered_0) = true by decide +kernel)
theorem dQ_X9_covered_0 : dQ_P cX9_covered 0 dT_X9_covered_0 := fun i => by rw [dT_X9_covered]; rfl
theorem dQ_X9_covered_1 : dQ_P cX9_covered 16 dT_X9_covered_1 := fun i => (dQ_X9_covered_0 (i + 16)).trans dk_t
theorem dX9_covered_0 : decode cX9_covered 0 = .ok (.aload_n 0, 1) := dk_42 ((dQ_X9_covered_0 0).trans dk_j0)
theorem dX9_covered_1 : decode cX9_covered 1 = .ok (.iload_n 1, 1) := dk_27 ((dQ_X9_covered_0 1).trans dk_j1)
theorem dX9_covered_2 : decode cX9_covered 2 = .ok (.invokevirtual 284, 3) := dk_182 ((dQ_X9_covered_0 2).trans dk_j2) ((dQ_X9_covered_0 3).trans dk_j3) ((dQ_X9_covered_0 4).trans dk_j4) dk_vu2_1_28
theorem dX9_covered_5 : decode cX9_covered 5 = .ok (.ifCond .eq 11, 3) := dk_153 ((dQ_X9_covered_0 5).trans dk_j5) ((dQ_X9_covered_0 6).trans dk_j6) ((dQ_X9_covered_0 7).trans dk_j7) dk_vs2_0_11
theorem dX9_covered_8 : decode cX9_covered 8 = .ok (.aload_n 0, 1) := dk_42 ((dQ_X9_covered_0 8).trans dk_j8)
theorem dX9_covered_9 : decode cX9_covered 9 = .ok (.iload_n 1, 1) := dk_27 ((dQ_X9_covered_0 9).trans dk_j9)
theorem dk_vu2_1_76 : (0x01 : UInt8).toNat * 256 + (0x4c : UInt8).toNat = (332 : Nat) := by decide +kernel
theorem dX9_covered_10 : decode cX9_covered 10 = .ok (.invokevirtual 332, 3) := dk_182 ((dQ_X9_covered_0 10).trans dk_j10) ((dQ_X9_covered_0 11).trans dk_j11) ((dQ_X9_covered_0 12).trans dk_j12) dk_vu2_1_76
theorem dX9_covered_13 : decode cX9_covered 13 = .ok (.goto 5, 3) := dk_167 ((dQ_X9_covered_0 13).trans dk_j13) ((dQ_X9_covered_0 14).trans dk_j14) ((dQ_X9_covered_0 15).trans dk_j15) dk_vs2_0_5
theorem dX9_covered_16 : decode cX9_covered 16 = .ok (.bipush (-2), 2) := dk_16 ((dQ_X9_covered_1 0).trans dk_j0) ((dQ_X9_covered_1 1).trans dk_j1) dk_vs1_254
theorem dX9_covered_18 : decode cX9_covered 18 = .ok (.ireturn, 1) := dk_172 ((dQ_X9_covered_1 2).trans dk_j2)
def dT_X9_naked_3 : List UInt8 := (0x78 : UInt8) :: (0x80 : UInt8) :: (0x3c : UInt8) :: (0x84 : UInt8) :: (0x02 : UInt8) :: (0x01 : UInt8) :: (0xa7 : UInt8) :: (0xff : UInt8) :: (0xd8 : UInt8) :: (0x1b : UInt8) :: (0xac : UInt8) :: []
def dT_X9_naked_2 : List UInt8 := (0x1c : UInt8) :: (0xb6 : UInt8) :: (0x01 : UInt8) :: (0x4c : UInt8) :: (0x02 : UInt8) :: (0x82 : UInt8) :: (0x7e : UInt8) :: (0x9a : UInt8) :: (0x00 : UInt8) :: (0x07 : UInt8) :: (0x03 : UInt8) :: (0xa7 : UInt8) :: (0x00 : UInt8) :: (0x06 : UInt8) :: (0x04 : UInt8) :: (0x1c : UInt8) :: dT_X9_naked_3
def dT_X9_naked_1 : List UInt8 := (0xb4 : UInt8) :: (0x00 : UInt8) :: (0x09 : UInt8) :: (0x08 : UInt8) :: (0x2e : UInt8) :: (0xa2 : UInt8) :: (0x00 : UInt8) :: (0x24 : UInt8) :: (0x1b : UInt8) :: (0x2a : UInt8) :: (0xb4 : UInt8) :: (0x00 : UInt8) :: (0x2b : UInt8) :: (0x1c : UInt8) :: (0x2e : UInt8) :: (0x2a : UInt8) :: dT_X9_naked_2
def dT_X9_naked_0 : List UInt8 := (0x2a : UInt8) :: (0xb6 : UInt8) :: (0x01 : UInt8) :: (0x10 : UInt8) :: (0x9a : UInt8) :: (0x00 : UInt8) :: (0x06 : UInt8) :: (0x10 : UInt8) :: (0xfe : UInt8) :: (0xac : UInt8) :: (0x03 : UInt8) :: (0x3c : UInt8) :: (0x03 : UInt8) :: (0x3d : UInt8) :: (0x1c : UInt8) :: (0x2a : UInt8) :: dT_X9_naked_1
theorem dT_X9_naked : cX9_naked.data.toList = dT_X9_naked_0 := eq_of_beq (show (cX9_naked.data.toList == dT_X9_naked_0) = true by decide +kernel)
theorem dQ_X9_naked_0 : dQ_P cX9_naked 0 dT_X9_naked_0 := fun i => by rw [dT_X9_naked]; rfl
theorem dQ_X9_naked_1 : dQ_P cX9_naked 16 dT_X9_naked_1 := fun i => (dQ_X9_naked_0 (i + 16)).trans dk_t
theorem dQ_X9_naked_2 : dQ_P cX9_naked 32 dT_X9_naked_2 := fun i => (dQ_X9_naked_1 (i + 16)).trans dk_t
theorem dQ_X9_naked_3 : dQ_P cX9_naked 48 dT_X9_naked_3 := fun i => (dQ_X9_naked_2 (i + 16)).trans dk_t
theorem dX9_naked_0 : decode cX9_naked 0 = .ok (.aload_n 0, 1) := dk_42 ((dQ_X9_naked_0 0).trans dk_j0)
theorem dX9_naked_1 : decode cX9_naked 1 = .ok (.invokevirtual 272, 3) := dk_182 ((dQ_X9_naked_0 1).trans dk_j1) ((dQ_X9_naked_0 2).trans dk_j2) ((dQ_X9_naked_0 3).trans dk_j3) dk_vu2_1_16
theorem dX9_naked_4 : decode cX9_naked 4 = .ok (.ifCond .ne 6, 3) := dk_154 ((dQ_X9_naked_0 4).trans dk_j4) ((dQ_X9_naked_0 5).trans dk_j5) ((dQ_X9_naked_0 6).trans dk_j6) dk_vs2_0_6
theorem dX9_naked_7 : decode cX9_naked 7 = .ok (.bipush (-2), 2) := dk_16 ((dQ_X9_naked_0 7).trans dk_j7) ((dQ_X9_naked_0 8).trans dk_j8) dk_vs1_254
theorem dX9_naked_9 : decode cX9_naked 9 = .ok (.ireturn, 1) := dk_172 ((dQ_X9_naked_0 9).trans dk_j9)
theorem dX9_naked_10 : decode cX9_naked 10 = .ok (.iconst 0, 1) := dk_3 ((dQ_X9_naked_0 10).trans dk_j10)
theorem dX9_naked_11 : decode cX9_naked 11 = .ok (.istore_n 1, 1) := dk_60 ((dQ_X9_naked_0 11).trans dk_j11)
theorem dX9_naked_12 : decode cX9_naked 12 = .ok (.iconst 0, 1) := dk_3 ((dQ_X9_naked_0 12).trans dk_j12)
theorem dX9_naked_13 : decode cX9_naked 13 = .ok (.istore_n 2, 1) := dk_61 ((dQ_X9_naked_0 13).trans dk_j13)
theorem dX9_naked_14 : decode cX9_naked 14 = .ok (.iload_n 2, 1) := dk_28 ((dQ_X9_naked_0 14).trans dk_j14)
theorem dX9_naked_15 : decode cX9_naked 15 = .ok (.aload_n 0, 1) := dk_42 ((dQ_X9_naked_0 15).trans dk_j15)
theorem dX9_naked_16 : decode cX9_naked 16 = .ok (.getfield 9, 3) := dk_180 ((dQ_X9_naked_1 0).trans dk_j0) ((dQ_X9_naked_1 1).trans dk_j1) ((dQ_X9_naked_1 2).trans dk_j2) dk_vu2_0_9
theorem dX9_naked_19 : decode cX9_naked 19 = .ok (.iconst 5, 1) := dk_8 ((dQ_X9_naked_1 3).trans dk_j3)
theorem dX9_naked_20 : decode cX9_naked 20 = .ok (.iaload, 1) := dk_46 ((dQ_X9_naked_1 4).trans dk_j4)
theorem dk_vs2_0_36 : Reader.signed 16 ((0x00 : UInt8).toNat * 256 + (0x24 : UInt8).toNat) = (36 : Int) := by decide +kernel
theorem dX9_naked_21 : decode cX9_naked 21 = .ok (.if_icmp .ge 36, 3) := dk_162 ((dQ_X9_naked_1 5).trans dk_j5) ((dQ_X9_naked_1 6).trans dk_j6) ((dQ_X9_naked_1 7).trans dk_j7) dk_vs2_0_36
theorem dX9_naked_24 : decode cX9_naked 24 = .ok (.iload_n 1, 1) := dk_27 ((dQ_X9_naked_1 8).trans dk_j8)
theorem dX9_naked_25 : decode cX9_naked 25 = .ok (.aload_n 0, 1) := dk_42 ((dQ_X9_naked_1 9).trans dk_j9)
theorem dX9_naked_26 : decode cX9_naked 26 = .ok (.getfield 43, 3) := dk_180 ((dQ_X9_naked_1 10).trans dk_j10) ((dQ_X9_naked_1 11).trans dk_j11) ((dQ_X9_naked_1 12).trans dk_j12) dk_vu2_0_43
theorem dX9_naked_29 : decode cX9_naked 29 = .ok (.iload_n 2, 1) := dk_28 ((dQ_X9_naked_1 13).trans dk_j13)
theorem dX9_naked_30 : decode cX9_naked 30 = .ok (.iaload, 1) := dk_46 ((dQ_X9_naked_1 14).trans dk_j14)
theorem dX9_naked_31 : decode cX9_naked 31 = .ok (.aload_n 0, 1) := dk_42 ((dQ_X9_naked_1 15).trans dk_j15)
theorem dX9_naked_32 : decode cX9_naked 32 = .ok (.iload_n 2, 1) := dk_28 ((dQ_X9_naked_2 0).trans dk_j0)
theorem dX9_naked_33 : decode cX9_naked 33 = .ok (.invokevirtual 332, 3) := dk_182 ((dQ_X9_naked_2 1).trans dk_j1) ((dQ_X9_naked_2 2).trans dk_j2) ((dQ_X9_naked_2 3).trans dk_j3) dk_vu2_1_76
theorem dX9_naked_36 : decode cX9_naked 36 = .ok (.iconst (-1), 1) := dk_2 ((dQ_X9_naked_2 4).trans dk_j4)
theorem dX9_naked_37 : decode cX9_naked 37 = .ok (.ixor, 1) := dk_130 ((dQ_X9_naked_2 5).trans dk_j5)
theorem dX9_naked_38 : decode cX9_naked 38 = .ok (.iand, 1) := dk_126 ((dQ_X9_naked_2 6).trans dk_j6)
theorem dX9_naked_39 : decode cX9_naked 39 = .ok (.ifCond .ne 7, 3) := dk_154 ((dQ_X9_naked_2 7).trans dk_j7) ((dQ_X9_naked_2 8).trans dk_j8) ((dQ_X9_naked_2 9).trans dk_j9) dk_vs2_0_7
theorem dX9_naked_42 : decode cX9_naked 42 = .ok (.iconst 0, 1) := dk_3 ((dQ_X9_naked_2 10).trans dk_j10)
theorem dX9_naked_43 : decode cX9_naked 43 = .ok (.goto 6, 3) := dk_167 ((dQ_X9_naked_2 11).trans dk_j11) ((dQ_X9_naked_2 12).trans dk_j12) ((dQ_X9_naked_2 13).trans dk_j13) dk_vs2_0_6
theorem dX9_naked_46 : decode cX9_naked 46 = .ok (.iconst 1, 1) := dk_4 ((dQ_X9_naked_2 14).trans dk_j14)
theorem dX9_naked_47 : decode cX9_naked 47 = .ok (.iload_n 2, 1) := dk_28 ((dQ_X9_naked_2 15).trans dk_j15)
theorem dX9_naked_48 : decode cX9_naked 48 = .ok (.ishl, 1) := dk_120 ((dQ_X9_naked_3 0).trans dk_j0)
theorem dX9_naked_49 : decode cX9_naked 49 = .ok (.ior, 1) := dk_128 ((dQ_X9_naked_3 1).trans dk_j1)
theorem dX9_naked_50 : decode cX9_naked 50 = .ok (.istore_n 1, 1) := dk_60 ((dQ_X9_naked_3 2).trans dk_j2)
theorem dX9_naked_51 : decode cX9_naked 51 = .ok (.iinc 2 1, 3) := dk_132 ((dQ_X9_naked_3 3).trans dk_j3) ((dQ_X9_naked_3 4).trans dk_j4) ((dQ_X9_naked_3 5).trans dk_j5) dk_vu1_2 dk_vs1_1
theorem dX9_naked_54 : decode cX9_naked 54 = .ok (.goto (-40), 3) := dk_167 ((dQ_X9_naked_3 6).trans dk_j6) ((dQ_X9_naked_3 7).trans dk_j7) ((dQ_X9_naked_3 8).trans dk_j8) dk_vs2_255_216
theorem dX9_naked_57 : decode cX9_naked 57 = .ok (.iload_n 1, 1) := dk_27 ((dQ_X9_naked_3 9).trans dk_j9)
theorem dX9_naked_58 : decode cX9_naked 58 = .ok (.ireturn, 1) := dk_172 ((dQ_X9_naked_3 10).trans dk_j10)
def dT_X9_covers_2 : List UInt8 := (0x1b : UInt8) :: (0xb8 : UInt8) :: (0x00 : UInt8) :: (0xfe : UInt8) :: (0x1d : UInt8) :: (0x78 : UInt8) :: (0x80 : UInt8) :: (0x3d : UInt8) :: (0x84 : UInt8) :: (0x03 : UInt8) :: (0x01 : UInt8) :: (0xa7 : UInt8) :: (0xff : UInt8) :: (0xe4 : UInt8) :: (0x1c : UInt8) :: (0xac : UInt8) :: []
def dT_X9_covers_1 : List UInt8 := (0x2a : UInt8) :: (0xb4 : UInt8) :: (0x00 : UInt8) :: (0x09 : UInt8) :: (0x10 : UInt8) :: (0x08 : UInt8) :: (0x2e : UInt8) :: (0xa2 : UInt8) :: (0x00 : UInt8) :: (0x17 : UInt8) :: (0x1c : UInt8) :: (0x2a : UInt8) :: (0x1d : UInt8) :: (0xb6 : UInt8) :: (0x01 : UInt8) :: (0x30 : UInt8) :: dT_X9_covers_2
def dT_X9_covers_0 : List UInt8 := (0x2a : UInt8) :: (0x1b : UInt8) :: (0xb6 : UInt8) :: (0x01 : UInt8) :: (0x19 : UInt8) :: (0x9a : UInt8) :: (0x00 : UInt8) :: (0x06 : UInt8) :: (0x10 : UInt8) :: (0xfe : UInt8) :: (0xac : UInt8) :: (0x03 : UInt8) :: (0x3d : UInt8) :: (0x03 : UInt8) :: (0x3e : UInt8) :: (0x1d : UInt8) :: dT_X9_covers_1
theorem dT_X9_covers : cX9_covers.data.toList = dT_X9_covers_0 := eq_of_beq (show (cX9_covers.data.toList == dT_X9_covers_0) = true by decide +kernel)
theorem dQ_X9_covers_0 : dQ_P cX9_covers 0 dT_X9_covers_0 := fun i => by rw [dT_X9_covers]; rfl
theorem dQ_X9_covers_1 : dQ_P cX9_covers 16 dT_X9_covers_1 := fun i => (dQ_X9_covers_0 (i + 16)).trans dk_t
theorem dQ_X9_covers_2 : dQ_P cX9_covers 32 dT_X9_covers_2 := fun i => (dQ_X9_covers_1 (i + 16)).trans dk_t
theorem dX9_covers_0 : decode cX9_covers 0 = .ok (.aload_n 0, 1) := dk_42 ((dQ_X9_covers_0 0).trans dk_j0)
theorem dX9_covers_1 : decode cX9_covers 1 = .ok (.iload_n 1, 1) := dk_27 ((dQ_X9_covers_0 1).trans dk_j1)
theorem dX9_covers_2 : decode cX9_covers 2 = .ok (.invokevirtual 281, 3) := dk_182 ((dQ_X9_covers_0 2).trans dk_j2) ((dQ_X9_covers_0 3).trans dk_j3) ((dQ_X9_covers_0 4).trans dk_j4) dk_vu2_1_25
theorem dX9_covers_5 : decode cX9_covers 5 = .ok (.ifCond .ne 6, 3) := dk_154 ((dQ_X9_covers_0 5).trans dk_j5) ((dQ_X9_covers_0 6).trans dk_j6) ((dQ_X9_covers_0 7).trans dk_j7) dk_vs2_0_6
theorem dX9_covers_8 : decode cX9_covers 8 = .ok (.bipush (-2), 2) := dk_16 ((dQ_X9_covers_0 8).trans dk_j8) ((dQ_X9_covers_0 9).trans dk_j9) dk_vs1_254
theorem dX9_covers_10 : decode cX9_covers 10 = .ok (.ireturn, 1) := dk_172 ((dQ_X9_covers_0 10).trans dk_j10)
theorem dX9_covers_11 : decode cX9_covers 11 = .ok (.iconst 0, 1) := dk_3 ((dQ_X9_covers_0 11).trans dk_j11)
theorem dX9_covers_12 : decode cX9_covers 12 = .ok (.istore_n 2, 1) := dk_61 ((dQ_X9_covers_0 12).trans dk_j12)
theorem dX9_covers_13 : decode cX9_covers 13 = .ok (.iconst 0, 1) := dk_3 ((dQ_X9_covers_0 13).trans dk_j13)
theorem dX9_covers_14 : decode cX9_covers 14 = .ok (.istore_n 3, 1) := dk_62 ((dQ_X9_covers_0 14).trans dk_j14)
theorem dX9_covers_15 : decode cX9_covers 15 = .ok (.iload_n 3, 1) := dk_29 ((dQ_X9_covers_0 15).trans dk_j15)
theorem dX9_covers_16 : decode cX9_covers 16 = .ok (.aload_n 0, 1) := dk_42 ((dQ_X9_covers_1 0).trans dk_j0)
theorem dX9_covers_17 : decode cX9_covers 17 = .ok (.getfield 9, 3) := dk_180 ((dQ_X9_covers_1 1).trans dk_j1) ((dQ_X9_covers_1 2).trans dk_j2) ((dQ_X9_covers_1 3).trans dk_j3) dk_vu2_0_9
theorem dX9_covers_20 : decode cX9_covers 20 = .ok (.bipush 8, 2) := dk_16 ((dQ_X9_covers_1 4).trans dk_j4) ((dQ_X9_covers_1 5).trans dk_j5) dk_vs1_8
theorem dX9_covers_22 : decode cX9_covers 22 = .ok (.iaload, 1) := dk_46 ((dQ_X9_covers_1 6).trans dk_j6)
theorem dX9_covers_23 : decode cX9_covers 23 = .ok (.if_icmp .ge 23, 3) := dk_162 ((dQ_X9_covers_1 7).trans dk_j7) ((dQ_X9_covers_1 8).trans dk_j8) ((dQ_X9_covers_1 9).trans dk_j9) dk_vs2_0_23
theorem dX9_covers_26 : decode cX9_covers 26 = .ok (.iload_n 2, 1) := dk_28 ((dQ_X9_covers_1 10).trans dk_j10)
theorem dX9_covers_27 : decode cX9_covers 27 = .ok (.aload_n 0, 1) := dk_42 ((dQ_X9_covers_1 11).trans dk_j11)
theorem dX9_covers_28 : decode cX9_covers 28 = .ok (.iload_n 3, 1) := dk_29 ((dQ_X9_covers_1 12).trans dk_j12)
theorem dX9_covers_29 : decode cX9_covers 29 = .ok (.invokevirtual 304, 3) := dk_182 ((dQ_X9_covers_1 13).trans dk_j13) ((dQ_X9_covers_1 14).trans dk_j14) ((dQ_X9_covers_1 15).trans dk_j15) dk_vu2_1_48
theorem dX9_covers_32 : decode cX9_covers 32 = .ok (.iload_n 1, 1) := dk_27 ((dQ_X9_covers_2 0).trans dk_j0)
theorem dX9_covers_33 : decode cX9_covers 33 = .ok (.invokestatic 254, 3) := dk_184 ((dQ_X9_covers_2 1).trans dk_j1) ((dQ_X9_covers_2 2).trans dk_j2) ((dQ_X9_covers_2 3).trans dk_j3) dk_vu2_0_254
theorem dX9_covers_36 : decode cX9_covers 36 = .ok (.iload_n 3, 1) := dk_29 ((dQ_X9_covers_2 4).trans dk_j4)
theorem dX9_covers_37 : decode cX9_covers 37 = .ok (.ishl, 1) := dk_120 ((dQ_X9_covers_2 5).trans dk_j5)
theorem dX9_covers_38 : decode cX9_covers 38 = .ok (.ior, 1) := dk_128 ((dQ_X9_covers_2 6).trans dk_j6)
theorem dX9_covers_39 : decode cX9_covers 39 = .ok (.istore_n 2, 1) := dk_61 ((dQ_X9_covers_2 7).trans dk_j7)
theorem dX9_covers_40 : decode cX9_covers 40 = .ok (.iinc 3 1, 3) := dk_132 ((dQ_X9_covers_2 8).trans dk_j8) ((dQ_X9_covers_2 9).trans dk_j9) ((dQ_X9_covers_2 10).trans dk_j10) dk_vu1_3 dk_vs1_1
theorem dk_vs2_255_228 : Reader.signed 16 ((0xff : UInt8).toNat * 256 + (0xe4 : UInt8).toNat) = (-28 : Int) := by decide +kernel
theorem dX9_covers_43 : decode cX9_covers 43 = .ok (.goto (-28), 3) := dk_167 ((dQ_X9_covers_2 11).trans dk_j11) ((dQ_X9_covers_2 12).trans dk_j12) ((dQ_X9_covers_2 13).trans dk_j13) dk_vs2_255_228
theorem dX9_covers_46 : decode cX9_covers 46 = .ok (.iload_n 2, 1) := dk_28 ((dQ_X9_covers_2 14).trans dk_j14)
theorem dX9_covers_47 : decode cX9_covers 47 = .ok (.ireturn, 1) := dk_172 ((dQ_X9_covers_2 15).trans dk_j15)
def dT_X9_profit_1 : List UInt8 := (0xb6 : UInt8) :: (0x01 : UInt8) :: (0x46 : UInt8) :: (0x64 : UInt8) :: (0xa7 : UInt8) :: (0x00 : UInt8) :: (0x06 : UInt8) :: (0x13 : UInt8) :: (0x01 : UInt8) :: (0x48 : UInt8) :: (0xac : UInt8) :: []
def dT_X9_profit_0 : List UInt8 := (0x2a : UInt8) :: (0x1b : UInt8) :: (0xb6 : UInt8) :: (0x01 : UInt8) :: (0x43 : UInt8) :: (0x99 : UInt8) :: (0x00 : UInt8) :: (0x12 : UInt8) :: (0x2a : UInt8) :: (0x1b : UInt8) :: (0x07 : UInt8) :: (0xb6 : UInt8) :: (0x00 : UInt8) :: (0xea : UInt8) :: (0x2a : UInt8) :: (0x1b : UInt8) :: dT_X9_profit_1
theorem dT_X9_profit : cX9_profit.data.toList = dT_X9_profit_0 := eq_of_beq (show (cX9_profit.data.toList == dT_X9_profit_0) = true by decide +kernel)
theorem dQ_X9_profit_0 : dQ_P cX9_profit 0 dT_X9_profit_0 := fun i => by rw [dT_X9_profit]; rfl
theorem dQ_X9_profit_1 : dQ_P cX9_profit 16 dT_X9_profit_1 := fun i => (dQ_X9_profit_0 (i + 16)).trans dk_t
theorem dX9_profit_0 : decode cX9_profit 0 = .ok (.aload_n 0, 1) := dk_42 ((dQ_X9_profit_0 0).trans dk_j0)
theorem dX9_profit_1 : decode cX9_profit 1 = .ok (.iload_n 1, 1) := dk_27 ((dQ_X9_profit_0 1).trans dk_j1)
theorem dX9_profit_2 : decode cX9_profit 2 = .ok (.invokevirtual 323, 3) := dk_182 ((dQ_X9_profit_0 2).trans dk_j2) ((dQ_X9_profit_0 3).trans dk_j3) ((dQ_X9_profit_0 4).trans dk_j4) dk_vu2_1_67
theorem dX9_profit_5 : decode cX9_profit 5 = .ok (.ifCond .eq 18, 3) := dk_153 ((dQ_X9_profit_0 5).trans dk_j5) ((dQ_X9_profit_0 6).trans dk_j6) ((dQ_X9_profit_0 7).trans dk_j7) dk_vs2_0_18
theorem dX9_profit_8 : decode cX9_profit 8 = .ok (.aload_n 0, 1) := dk_42 ((dQ_X9_profit_0 8).trans dk_j8)
theorem dX9_profit_9 : decode cX9_profit 9 = .ok (.iload_n 1, 1) := dk_27 ((dQ_X9_profit_0 9).trans dk_j9)
theorem dX9_profit_10 : decode cX9_profit 10 = .ok (.iconst 4, 1) := dk_7 ((dQ_X9_profit_0 10).trans dk_j10)
theorem dX9_profit_11 : decode cX9_profit 11 = .ok (.invokevirtual 234, 3) := dk_182 ((dQ_X9_profit_0 11).trans dk_j11) ((dQ_X9_profit_0 12).trans dk_j12) ((dQ_X9_profit_0 13).trans dk_j13) dk_vu2_0_234
theorem dX9_profit_14 : decode cX9_profit 14 = .ok (.aload_n 0, 1) := dk_42 ((dQ_X9_profit_0 14).trans dk_j14)
theorem dX9_profit_15 : decode cX9_profit 15 = .ok (.iload_n 1, 1) := dk_27 ((dQ_X9_profit_0 15).trans dk_j15)
theorem dX9_profit_16 : decode cX9_profit 16 = .ok (.invokevirtual 326, 3) := dk_182 ((dQ_X9_profit_1 0).trans dk_j0) ((dQ_X9_profit_1 1).trans dk_j1) ((dQ_X9_profit_1 2).trans dk_j2) dk_vu2_1_70
theorem dX9_profit_19 : decode cX9_profit 19 = .ok (.isub, 1) := dk_100 ((dQ_X9_profit_1 3).trans dk_j3)
theorem dX9_profit_20 : decode cX9_profit 20 = .ok (.goto 6, 3) := dk_167 ((dQ_X9_profit_1 4).trans dk_j4) ((dQ_X9_profit_1 5).trans dk_j5) ((dQ_X9_profit_1 6).trans dk_j6) dk_vs2_0_6
theorem dX9_profit_23 : decode cX9_profit 23 = .ok (.ldc_w 328, 3) := dk_19 ((dQ_X9_profit_1 7).trans dk_j7) ((dQ_X9_profit_1 8).trans dk_j8) ((dQ_X9_profit_1 9).trans dk_j9) dk_vu2_1_72
theorem dX9_profit_26 : decode cX9_profit 26 = .ok (.ireturn, 1) := dk_172 ((dQ_X9_profit_1 10).trans dk_j10)
def dT_X9_lowest_3 : List UInt8 := (0xa7 : UInt8) :: (0xff : UInt8) :: (0xe2 : UInt8) :: (0x1b : UInt8) :: (0xac : UInt8) :: []
def dT_X9_lowest_2 : List UInt8 := (0x1b : UInt8) :: (0xb6 : UInt8) :: (0x01 : UInt8) :: (0x40 : UInt8) :: (0xa2 : UInt8) :: (0x00 : UInt8) :: (0x07 : UInt8) :: (0x1c : UInt8) :: (0xa7 : UInt8) :: (0x00 : UInt8) :: (0x04 : UInt8) :: (0x1b : UInt8) :: (0x3c : UInt8) :: (0x84 : UInt8) :: (0x02 : UInt8) :: (0x01 : UInt8) :: dT_X9_lowest_3
def dT_X9_lowest_1 : List UInt8 := (0x04 : UInt8) :: (0x3d : UInt8) :: (0x1c : UInt8) :: (0x2a : UInt8) :: (0xb6 : UInt8) :: (0x00 : UInt8) :: (0xf9 : UInt8) :: (0xa2 : UInt8) :: (0x00 : UInt8) :: (0x1c : UInt8) :: (0x2a : UInt8) :: (0x1c : UInt8) :: (0xb6 : UInt8) :: (0x01 : UInt8) :: (0x40 : UInt8) :: (0x2a : UInt8) :: dT_X9_lowest_2
def dT_X9_lowest_0 : List UInt8 := (0x2a : UInt8) :: (0xb6 : UInt8) :: (0x01 : UInt8) :: (0x10 : UInt8) :: (0x9a : UInt8) :: (0x00 : UInt8) :: (0x06 : UInt8) :: (0x10 : UInt8) :: (0xfe : UInt8) :: (0xac : UInt8) :: (0x2a : UInt8) :: (0xb6 : UInt8) :: (0x01 : UInt8) :: (0x3d : UInt8) :: (0x03 : UInt8) :: (0x3c : UInt8) :: dT_X9_lowest_1
theorem dT_X9_lowest : cX9_lowest.data.toList = dT_X9_lowest_0 := eq_of_beq (show (cX9_lowest.data.toList == dT_X9_lowest_0) = true by decide +kernel)
theorem dQ_X9_lowest_0 : dQ_P cX9_lowest 0 dT_X9_lowest_0 := fun i => by rw [dT_X9_lowest]; rfl
theorem dQ_X9_lowest_1 : dQ_P cX9_lowest 16 dT_X9_lowest_1 := fun i => (dQ_X9_lowest_0 (i + 16)).trans dk_t
theorem dQ_X9_lowest_2 : dQ_P cX9_lowest 32 dT_X9_lowest_2 := fun i => (dQ_X9_lowest_1 (i + 16)).trans dk_t
theorem dQ_X9_lowest_3 : dQ_P cX9_lowest 48 dT_X9_lowest_3 := fun i => (dQ_X9_lowest_2 (i + 16)).trans dk_t
theorem dX9_lowest_0 : decode cX9_lowest 0 = .ok (.aload_n 0, 1) := dk_42 ((dQ_X9_lowest_0 0).trans dk_j0)
theorem dX9_lowest_1 : decode cX9_lowest 1 = .ok (.invokevirtual 272, 3) := dk_182 ((dQ_X9_lowest_0 1).trans dk_j1) ((dQ_X9_lowest_0 2).trans dk_j2) ((dQ_X9_lowest_0 3).trans dk_j3) dk_vu2_1_16
theorem dX9_lowest_4 : decode cX9_lowest 4 = .ok (.ifCond .ne 6, 3) := dk_154 ((dQ_X9_lowest_0 4).trans dk_j4) ((dQ_X9_lowest_0 5).trans dk_j5) ((dQ_X9_lowest_0 6).trans dk_j6) dk_vs2_0_6
theorem dX9_lowest_7 : decode cX9_lowest 7 = .ok (.bipush (-2), 2) := dk_16 ((dQ_X9_lowest_0 7).trans dk_j7) ((dQ_X9_lowest_0 8).trans dk_j8) dk_vs1_254
theorem dX9_lowest_9 : decode cX9_lowest 9 = .ok (.ireturn, 1) := dk_172 ((dQ_X9_lowest_0 9).trans dk_j9)
theorem dX9_lowest_10 : decode cX9_lowest 10 = .ok (.aload_n 0, 1) := dk_42 ((dQ_X9_lowest_0 10).trans dk_j10)
theorem dX9_lowest_11 : decode cX9_lowest 11 = .ok (.invokevirtual 317, 3) := dk_182 ((dQ_X9_lowest_0 11).trans dk_j11) ((dQ_X9_lowest_0 12).trans dk_j12) ((dQ_X9_lowest_0 13).trans dk_j13) dk_vu2_1_61
theorem dX9_lowest_14 : decode cX9_lowest 14 = .ok (.iconst 0, 1) := dk_3 ((dQ_X9_lowest_0 14).trans dk_j14)
theorem dX9_lowest_15 : decode cX9_lowest 15 = .ok (.istore_n 1, 1) := dk_60 ((dQ_X9_lowest_0 15).trans dk_j15)
theorem dX9_lowest_16 : decode cX9_lowest 16 = .ok (.iconst 1, 1) := dk_4 ((dQ_X9_lowest_1 0).trans dk_j0)
theorem dX9_lowest_17 : decode cX9_lowest 17 = .ok (.istore_n 2, 1) := dk_61 ((dQ_X9_lowest_1 1).trans dk_j1)
theorem dX9_lowest_18 : decode cX9_lowest 18 = .ok (.iload_n 2, 1) := dk_28 ((dQ_X9_lowest_1 2).trans dk_j2)
theorem dX9_lowest_19 : decode cX9_lowest 19 = .ok (.aload_n 0, 1) := dk_42 ((dQ_X9_lowest_1 3).trans dk_j3)
theorem dX9_lowest_20 : decode cX9_lowest 20 = .ok (.invokevirtual 249, 3) := dk_182 ((dQ_X9_lowest_1 4).trans dk_j4) ((dQ_X9_lowest_1 5).trans dk_j5) ((dQ_X9_lowest_1 6).trans dk_j6) dk_vu2_0_249
theorem dX9_lowest_23 : decode cX9_lowest 23 = .ok (.if_icmp .ge 28, 3) := dk_162 ((dQ_X9_lowest_1 7).trans dk_j7) ((dQ_X9_lowest_1 8).trans dk_j8) ((dQ_X9_lowest_1 9).trans dk_j9) dk_vs2_0_28
theorem dX9_lowest_26 : decode cX9_lowest 26 = .ok (.aload_n 0, 1) := dk_42 ((dQ_X9_lowest_1 10).trans dk_j10)
theorem dX9_lowest_27 : decode cX9_lowest 27 = .ok (.iload_n 2, 1) := dk_28 ((dQ_X9_lowest_1 11).trans dk_j11)
theorem dX9_lowest_28 : decode cX9_lowest 28 = .ok (.invokevirtual 320, 3) := dk_182 ((dQ_X9_lowest_1 12).trans dk_j12) ((dQ_X9_lowest_1 13).trans dk_j13) ((dQ_X9_lowest_1 14).trans dk_j14) dk_vu2_1_64
theorem dX9_lowest_31 : decode cX9_lowest 31 = .ok (.aload_n 0, 1) := dk_42 ((dQ_X9_lowest_1 15).trans dk_j15)
theorem dX9_lowest_32 : decode cX9_lowest 32 = .ok (.iload_n 1, 1) := dk_27 ((dQ_X9_lowest_2 0).trans dk_j0)
theorem dX9_lowest_33 : decode cX9_lowest 33 = .ok (.invokevirtual 320, 3) := dk_182 ((dQ_X9_lowest_2 1).trans dk_j1) ((dQ_X9_lowest_2 2).trans dk_j2) ((dQ_X9_lowest_2 3).trans dk_j3) dk_vu2_1_64
theorem dX9_lowest_36 : decode cX9_lowest 36 = .ok (.if_icmp .ge 7, 3) := dk_162 ((dQ_X9_lowest_2 4).trans dk_j4) ((dQ_X9_lowest_2 5).trans dk_j5) ((dQ_X9_lowest_2 6).trans dk_j6) dk_vs2_0_7
theorem dX9_lowest_39 : decode cX9_lowest 39 = .ok (.iload_n 2, 1) := dk_28 ((dQ_X9_lowest_2 7).trans dk_j7)
theorem dX9_lowest_40 : decode cX9_lowest 40 = .ok (.goto 4, 3) := dk_167 ((dQ_X9_lowest_2 8).trans dk_j8) ((dQ_X9_lowest_2 9).trans dk_j9) ((dQ_X9_lowest_2 10).trans dk_j10) dk_vs2_0_4
theorem dX9_lowest_43 : decode cX9_lowest 43 = .ok (.iload_n 1, 1) := dk_27 ((dQ_X9_lowest_2 11).trans dk_j11)
theorem dX9_lowest_44 : decode cX9_lowest 44 = .ok (.istore_n 1, 1) := dk_60 ((dQ_X9_lowest_2 12).trans dk_j12)
theorem dX9_lowest_45 : decode cX9_lowest 45 = .ok (.iinc 2 1, 3) := dk_132 ((dQ_X9_lowest_2 13).trans dk_j13) ((dQ_X9_lowest_2 14).trans dk_j14) ((dQ_X9_lowest_2 15).trans dk_j15) dk_vu1_2 dk_vs1_1
theorem dk_vs2_255_226 : Reader.signed 16 ((0xff : UInt8).toNat * 256 + (0xe2 : UInt8).toNat) = (-30 : Int) := by decide +kernel
theorem dX9_lowest_48 : decode cX9_lowest 48 = .ok (.goto (-30), 3) := dk_167 ((dQ_X9_lowest_3 0).trans dk_j0) ((dQ_X9_lowest_3 1).trans dk_j1) ((dQ_X9_lowest_3 2).trans dk_j2) dk_vs2_255_226
theorem dX9_lowest_51 : decode cX9_lowest 51 = .ok (.iload_n 1, 1) := dk_27 ((dQ_X9_lowest_3 3).trans dk_j3)
theorem dX9_lowest_52 : decode cX9_lowest 52 = .ok (.ireturn, 1) := dk_172 ((dQ_X9_lowest_3 4).trans dk_j4)
def dT_X9_dear_3 : List UInt8 := (0x00 : UInt8) :: (0x08 : UInt8) :: (0x15 : UInt8) :: (0x04 : UInt8) :: (0x3d : UInt8) :: (0x1d : UInt8) :: (0x3c : UInt8) :: (0x84 : UInt8) :: (0x03 : UInt8) :: (0x01 : UInt8) :: (0xa7 : UInt8) :: (0xff : UInt8) :: (0xd6 : UInt8) :: (0x1b : UInt8) :: (0xac : UInt8) :: []
def dT_X9_dear_2 : List UInt8 := (0x2a : UInt8) :: (0x1d : UInt8) :: (0x07 : UInt8) :: (0xb6 : UInt8) :: (0x00 : UInt8) :: (0xea : UInt8) :: (0x64 : UInt8) :: (0x36 : UInt8) :: (0x04 : UInt8) :: (0x15 : UInt8) :: (0x04 : UInt8) :: (0x1c : UInt8) :: (0xa3 : UInt8) :: (0x00 : UInt8) :: (0x06 : UInt8) :: (0xa7 : UInt8) :: dT_X9_dear_3
def dT_X9_dear_1 : List UInt8 := (0x1d : UInt8) :: (0x2a : UInt8) :: (0xb4 : UInt8) :: (0x00 : UInt8) :: (0x09 : UInt8) :: (0x10 : UInt8) :: (0x08 : UInt8) :: (0x2e : UInt8) :: (0xa2 : UInt8) :: (0x00 : UInt8) :: (0x25 : UInt8) :: (0x2a : UInt8) :: (0x1d : UInt8) :: (0xb6 : UInt8) :: (0x01 : UInt8) :: (0x46 : UInt8) :: dT_X9_dear_2
def dT_X9_dear_0 : List UInt8 := (0x2a : UInt8) :: (0xb6 : UInt8) :: (0x01 : UInt8) :: (0x10 : UInt8) :: (0x9a : UInt8) :: (0x00 : UInt8) :: (0x06 : UInt8) :: (0x10 : UInt8) :: (0xfe : UInt8) :: (0xac : UInt8) :: (0x02 : UInt8) :: (0x3c : UInt8) :: (0x03 : UInt8) :: (0x3d : UInt8) :: (0x03 : UInt8) :: (0x3e : UInt8) :: dT_X9_dear_1
theorem dT_X9_dear : cX9_dear.data.toList = dT_X9_dear_0 := eq_of_beq (show (cX9_dear.data.toList == dT_X9_dear_0) = true by decide +kernel)
theorem dQ_X9_dear_0 : dQ_P cX9_dear 0 dT_X9_dear_0 := fun i => by rw [dT_X9_dear]; rfl
theorem dQ_X9_dear_1 : dQ_P cX9_dear 16 dT_X9_dear_1 := fun i => (dQ_X9_dear_0 (i + 16)).trans dk_t
theorem dQ_X9_dear_2 : dQ_P cX9_dear 32 dT_X9_dear_2 := fun i => (dQ_X9_dear_1 (i + 16)).trans dk_t
theorem dQ_X9_dear_3 : dQ_P cX9_dear 48 dT_X9_dear_3 := fun i => (dQ_X9_dear_2 (i + 16)).trans dk_t
theorem dX9_dear_0 : decode cX9_dear 0 = .ok (.aload_n 0, 1) := dk_42 ((dQ_X9_dear_0 0).trans dk_j0)
theorem dX9_dear_1 : decode cX9_dear 1 = .ok (.invokevirtual 272, 3) := dk_182 ((dQ_X9_dear_0 1).trans dk_j1) ((dQ_X9_dear_0 2).trans dk_j2) ((dQ_X9_dear_0 3).trans dk_j3) dk_vu2_1_16
theorem dX9_dear_4 : decode cX9_dear 4 = .ok (.ifCond .ne 6, 3) := dk_154 ((dQ_X9_dear_0 4).trans dk_j4) ((dQ_X9_dear_0 5).trans dk_j5) ((dQ_X9_dear_0 6).trans dk_j6) dk_vs2_0_6
theorem dX9_dear_7 : decode cX9_dear 7 = .ok (.bipush (-2), 2) := dk_16 ((dQ_X9_dear_0 7).trans dk_j7) ((dQ_X9_dear_0 8).trans dk_j8) dk_vs1_254
theorem dX9_dear_9 : decode cX9_dear 9 = .ok (.ireturn, 1) := dk_172 ((dQ_X9_dear_0 9).trans dk_j9)
theorem dX9_dear_10 : decode cX9_dear 10 = .ok (.iconst (-1), 1) := dk_2 ((dQ_X9_dear_0 10).trans dk_j10)
theorem dX9_dear_11 : decode cX9_dear 11 = .ok (.istore_n 1, 1) := dk_60 ((dQ_X9_dear_0 11).trans dk_j11)
theorem dX9_dear_12 : decode cX9_dear 12 = .ok (.iconst 0, 1) := dk_3 ((dQ_X9_dear_0 12).trans dk_j12)
theorem dX9_dear_13 : decode cX9_dear 13 = .ok (.istore_n 2, 1) := dk_61 ((dQ_X9_dear_0 13).trans dk_j13)
theorem dX9_dear_14 : decode cX9_dear 14 = .ok (.iconst 0, 1) := dk_3 ((dQ_X9_dear_0 14).trans dk_j14)
theorem dX9_dear_15 : decode cX9_dear 15 = .ok (.istore_n 3, 1) := dk_62 ((dQ_X9_dear_0 15).trans dk_j15)
theorem dX9_dear_16 : decode cX9_dear 16 = .ok (.iload_n 3, 1) := dk_29 ((dQ_X9_dear_1 0).trans dk_j0)
theorem dX9_dear_17 : decode cX9_dear 17 = .ok (.aload_n 0, 1) := dk_42 ((dQ_X9_dear_1 1).trans dk_j1)
theorem dX9_dear_18 : decode cX9_dear 18 = .ok (.getfield 9, 3) := dk_180 ((dQ_X9_dear_1 2).trans dk_j2) ((dQ_X9_dear_1 3).trans dk_j3) ((dQ_X9_dear_1 4).trans dk_j4) dk_vu2_0_9
theorem dX9_dear_21 : decode cX9_dear 21 = .ok (.bipush 8, 2) := dk_16 ((dQ_X9_dear_1 5).trans dk_j5) ((dQ_X9_dear_1 6).trans dk_j6) dk_vs1_8
theorem dX9_dear_23 : decode cX9_dear 23 = .ok (.iaload, 1) := dk_46 ((dQ_X9_dear_1 7).trans dk_j7)
theorem dX9_dear_24 : decode cX9_dear 24 = .ok (.if_icmp .ge 37, 3) := dk_162 ((dQ_X9_dear_1 8).trans dk_j8) ((dQ_X9_dear_1 9).trans dk_j9) ((dQ_X9_dear_1 10).trans dk_j10) dk_vs2_0_37
theorem dX9_dear_27 : decode cX9_dear 27 = .ok (.aload_n 0, 1) := dk_42 ((dQ_X9_dear_1 11).trans dk_j11)
theorem dX9_dear_28 : decode cX9_dear 28 = .ok (.iload_n 3, 1) := dk_29 ((dQ_X9_dear_1 12).trans dk_j12)
theorem dX9_dear_29 : decode cX9_dear 29 = .ok (.invokevirtual 326, 3) := dk_182 ((dQ_X9_dear_1 13).trans dk_j13) ((dQ_X9_dear_1 14).trans dk_j14) ((dQ_X9_dear_1 15).trans dk_j15) dk_vu2_1_70
theorem dX9_dear_32 : decode cX9_dear 32 = .ok (.aload_n 0, 1) := dk_42 ((dQ_X9_dear_2 0).trans dk_j0)
theorem dX9_dear_33 : decode cX9_dear 33 = .ok (.iload_n 3, 1) := dk_29 ((dQ_X9_dear_2 1).trans dk_j1)
theorem dX9_dear_34 : decode cX9_dear 34 = .ok (.iconst 4, 1) := dk_7 ((dQ_X9_dear_2 2).trans dk_j2)
theorem dX9_dear_35 : decode cX9_dear 35 = .ok (.invokevirtual 234, 3) := dk_182 ((dQ_X9_dear_2 3).trans dk_j3) ((dQ_X9_dear_2 4).trans dk_j4) ((dQ_X9_dear_2 5).trans dk_j5) dk_vu2_0_234
theorem dX9_dear_38 : decode cX9_dear 38 = .ok (.isub, 1) := dk_100 ((dQ_X9_dear_2 6).trans dk_j6)
theorem dX9_dear_39 : decode cX9_dear 39 = .ok (.istore 4, 2) := dk_54 ((dQ_X9_dear_2 7).trans dk_j7) ((dQ_X9_dear_2 8).trans dk_j8) dk_vu1_4
theorem dX9_dear_41 : decode cX9_dear 41 = .ok (.iload 4, 2) := dk_21 ((dQ_X9_dear_2 9).trans dk_j9) ((dQ_X9_dear_2 10).trans dk_j10) dk_vu1_4
theorem dX9_dear_43 : decode cX9_dear 43 = .ok (.iload_n 2, 1) := dk_28 ((dQ_X9_dear_2 11).trans dk_j11)
theorem dX9_dear_44 : decode cX9_dear 44 = .ok (.if_icmp .gt 6, 3) := dk_163 ((dQ_X9_dear_2 12).trans dk_j12) ((dQ_X9_dear_2 13).trans dk_j13) ((dQ_X9_dear_2 14).trans dk_j14) dk_vs2_0_6
theorem dX9_dear_47 : decode cX9_dear 47 = .ok (.goto 8, 3) := dk_167 ((dQ_X9_dear_2 15).trans dk_j15) ((dQ_X9_dear_3 0).trans dk_j0) ((dQ_X9_dear_3 1).trans dk_j1) dk_vs2_0_8
theorem dX9_dear_50 : decode cX9_dear 50 = .ok (.iload 4, 2) := dk_21 ((dQ_X9_dear_3 2).trans dk_j2) ((dQ_X9_dear_3 3).trans dk_j3) dk_vu1_4
theorem dX9_dear_52 : decode cX9_dear 52 = .ok (.istore_n 2, 1) := dk_61 ((dQ_X9_dear_3 4).trans dk_j4)
theorem dX9_dear_53 : decode cX9_dear 53 = .ok (.iload_n 3, 1) := dk_29 ((dQ_X9_dear_3 5).trans dk_j5)
theorem dX9_dear_54 : decode cX9_dear 54 = .ok (.istore_n 1, 1) := dk_60 ((dQ_X9_dear_3 6).trans dk_j6)
theorem dX9_dear_55 : decode cX9_dear 55 = .ok (.iinc 3 1, 3) := dk_132 ((dQ_X9_dear_3 7).trans dk_j7) ((dQ_X9_dear_3 8).trans dk_j8) ((dQ_X9_dear_3 9).trans dk_j9) dk_vu1_3 dk_vs1_1
theorem dk_vs2_255_214 : Reader.signed 16 ((0xff : UInt8).toNat * 256 + (0xd6 : UInt8).toNat) = (-42 : Int) := by decide +kernel
theorem dX9_dear_58 : decode cX9_dear 58 = .ok (.goto (-42), 3) := dk_167 ((dQ_X9_dear_3 10).trans dk_j10) ((dQ_X9_dear_3 11).trans dk_j11) ((dQ_X9_dear_3 12).trans dk_j12) dk_vs2_255_214
theorem dX9_dear_61 : decode cX9_dear 61 = .ok (.iload_n 1, 1) := dk_27 ((dQ_X9_dear_3 13).trans dk_j13)
theorem dX9_dear_62 : decode cX9_dear 62 = .ok (.ireturn, 1) := dk_172 ((dQ_X9_dear_3 14).trans dk_j14)
def dT_X9_reserve_4 : List UInt8 := (0xac : UInt8) :: []
def dT_X9_reserve_3 : List UInt8 := (0x00 : UInt8) :: (0xf6 : UInt8) :: (0x11 : UInt8) :: (0x03 : UInt8) :: (0xe8 : UInt8) :: (0xa2 : UInt8) :: (0x00 : UInt8) :: (0x0a : UInt8) :: (0x2a : UInt8) :: (0xb4 : UInt8) :: (0x00 : UInt8) :: (0xf6 : UInt8) :: (0xa7 : UInt8) :: (0x00 : UInt8) :: (0x04 : UInt8) :: (0x02 : UInt8) :: dT_X9_reserve_4
def dT_X9_reserve_2 : List UInt8 := (0x10 : UInt8) :: (0x2a : UInt8) :: (0x59 : UInt8) :: (0xb4 : UInt8) :: (0x00 : UInt8) :: (0xf6 : UInt8) :: (0x04 : UInt8) :: (0x60 : UInt8) :: (0xb5 : UInt8) :: (0x00 : UInt8) :: (0xf6 : UInt8) :: (0xa7 : UInt8) :: (0xff : UInt8) :: (0xe4 : UInt8) :: (0x2a : UInt8) :: (0xb4 : UInt8) :: dT_X9_reserve_3
def dT_X9_reserve_1 : List UInt8 := (0xb4 : UInt8) :: (0x00 : UInt8) :: (0xf6 : UInt8) :: (0x11 : UInt8) :: (0x03 : UInt8) :: (0xe8 : UInt8) :: (0xa2 : UInt8) :: (0x00 : UInt8) :: (0x18 : UInt8) :: (0x2a : UInt8) :: (0xb6 : UInt8) :: (0x01 : UInt8) :: (0x49 : UInt8) :: (0x02 : UInt8) :: (0x9f : UInt8) :: (0x00 : UInt8) :: dT_X9_reserve_2
def dT_X9_reserve_0 : List UInt8 := (0x2a : UInt8) :: (0xb6 : UInt8) :: (0x01 : UInt8) :: (0x10 : UInt8) :: (0x9a : UInt8) :: (0x00 : UInt8) :: (0x06 : UInt8) :: (0x10 : UInt8) :: (0xfe : UInt8) :: (0xac : UInt8) :: (0x2a : UInt8) :: (0x03 : UInt8) :: (0xb5 : UInt8) :: (0x00 : UInt8) :: (0xf6 : UInt8) :: (0x2a : UInt8) :: dT_X9_reserve_1
theorem dT_X9_reserve : cX9_reserve.data.toList = dT_X9_reserve_0 := eq_of_beq (show (cX9_reserve.data.toList == dT_X9_reserve_0) = true by decide +kernel)
theorem dQ_X9_reserve_0 : dQ_P cX9_reserve 0 dT_X9_reserve_0 := fun i => by rw [dT_X9_reserve]; rfl
theorem dQ_X9_reserve_1 : dQ_P cX9_reserve 16 dT_X9_reserve_1 := fun i => (dQ_X9_reserve_0 (i + 16)).trans dk_t
theorem dQ_X9_reserve_2 : dQ_P cX9_reserve 32 dT_X9_reserve_2 := fun i => (dQ_X9_reserve_1 (i + 16)).trans dk_t
theorem dQ_X9_reserve_3 : dQ_P cX9_reserve 48 dT_X9_reserve_3 := fun i => (dQ_X9_reserve_2 (i + 16)).trans dk_t
theorem dQ_X9_reserve_4 : dQ_P cX9_reserve 64 dT_X9_reserve_4 := fun i => (dQ_X9_reserve_3 (i + 16)).trans dk_t
theorem dX9_reserve_0 : decode cX9_reserve 0 = .ok (.aload_n 0, 1) := dk_42 ((dQ_X9_reserve_0 0).trans dk_j0)
theorem dX9_reserve_1 : decode cX9_reserve 1 = .ok (.invokevirtual 272, 3) := dk_182 ((dQ_X9_reserve_0 1).trans dk_j1) ((dQ_X9_reserve_0 2).trans dk_j2) ((dQ_X9_reserve_0 3).trans dk_j3) dk_vu2_1_16
theorem dX9_reserve_4 : decode cX9_reserve 4 = .ok (.ifCond .ne 6, 3) := dk_154 ((dQ_X9_reserve_0 4).trans dk_j4) ((dQ_X9_reserve_0 5).trans dk_j5) ((dQ_X9_reserve_0 6).trans dk_j6) dk_vs2_0_6
theorem dX9_reserve_7 : decode cX9_reserve 7 = .ok (.bipush (-2), 2) := dk_16 ((dQ_X9_reserve_0 7).trans dk_j7) ((dQ_X9_reserve_0 8).trans dk_j8) dk_vs1_254
theorem dX9_reserve_9 : decode cX9_reserve 9 = .ok (.ireturn, 1) := dk_172 ((dQ_X9_reserve_0 9).trans dk_j9)
theorem dX9_reserve_10 : decode cX9_reserve 10 = .ok (.aload_n 0, 1) := dk_42 ((dQ_X9_reserve_0 10).trans dk_j10)
theorem dX9_reserve_11 : decode cX9_reserve 11 = .ok (.iconst 0, 1) := dk_3 ((dQ_X9_reserve_0 11).trans dk_j11)
theorem dX9_reserve_12 : decode cX9_reserve 12 = .ok (.putfield 246, 3) := dk_181 ((dQ_X9_reserve_0 12).trans dk_j12) ((dQ_X9_reserve_0 13).trans dk_j13) ((dQ_X9_reserve_0 14).trans dk_j14) dk_vu2_0_246
theorem dX9_reserve_15 : decode cX9_reserve 15 = .ok (.aload_n 0, 1) := dk_42 ((dQ_X9_reserve_0 15).trans dk_j15)
theorem dX9_reserve_16 : decode cX9_reserve 16 = .ok (.getfield 246, 3) := dk_180 ((dQ_X9_reserve_1 0).trans dk_j0) ((dQ_X9_reserve_1 1).trans dk_j1) ((dQ_X9_reserve_1 2).trans dk_j2) dk_vu2_0_246
theorem dk_vs2_3_232 : Reader.signed 16 ((0x03 : UInt8).toNat * 256 + (0xe8 : UInt8).toNat) = (1000 : Int) := by decide +kernel
theorem dX9_reserve_19 : decode cX9_reserve 19 = .ok (.sipush 1000, 3) := dk_17 ((dQ_X9_reserve_1 3).trans dk_j3) ((dQ_X9_reserve_1 4).trans dk_j4) ((dQ_X9_reserve_1 5).trans dk_j5) dk_vs2_3_232
theorem dX9_reserve_22 : decode cX9_reserve 22 = .ok (.if_icmp .ge 24, 3) := dk_162 ((dQ_X9_reserve_1 6).trans dk_j6) ((dQ_X9_reserve_1 7).trans dk_j7) ((dQ_X9_reserve_1 8).trans dk_j8) dk_vs2_0_24
theorem dX9_reserve_25 : decode cX9_reserve 25 = .ok (.aload_n 0, 1) := dk_42 ((dQ_X9_reserve_1 9).trans dk_j9)
theorem dX9_reserve_26 : decode cX9_reserve 26 = .ok (.invokevirtual 329, 3) := dk_182 ((dQ_X9_reserve_1 10).trans dk_j10) ((dQ_X9_reserve_1 11).trans dk_j11) ((dQ_X9_reserve_1 12).trans dk_j12) dk_vu2_1_73
theorem dX9_reserve_29 : decode cX9_reserve 29 = .ok (.iconst (-1), 1) := dk_2 ((dQ_X9_reserve_1 13).trans dk_j13)
theorem dX9_reserve_30 : decode cX9_reserve 30 = .ok (.if_icmp .eq 16, 3) := dk_159 ((dQ_X9_reserve_1 14).trans dk_j14) ((dQ_X9_reserve_1 15).trans dk_j15) ((dQ_X9_reserve_2 0).trans dk_j0) dk_vs2_0_16
theorem dX9_reserve_33 : decode cX9_reserve 33 = .ok (.aload_n 0, 1) := dk_42 ((dQ_X9_reserve_2 1).trans dk_j1)
theorem dX9_reserve_34 : decode cX9_reserve 34 = .ok (.dup, 1) := dk_89 ((dQ_X9_reserve_2 2).trans dk_j2)
theorem dX9_reserve_35 : decode cX9_reserve 35 = .ok (.getfield 246, 3) := dk_180 ((dQ_X9_reserve_2 3).trans dk_j3) ((dQ_X9_reserve_2 4).trans dk_j4) ((dQ_X9_reserve_2 5).trans dk_j5) dk_vu2_0_246
theorem dX9_reserve_38 : decode cX9_reserve 38 = .ok (.iconst 1, 1) := dk_4 ((dQ_X9_reserve_2 6).trans dk_j6)
theorem dX9_reserve_39 : decode cX9_reserve 39 = .ok (.iadd, 1) := dk_96 ((dQ_X9_reserve_2 7).trans dk_j7)
theorem dX9_reserve_40 : decode cX9_reserve 40 = .ok (.putfield 246, 3) := dk_181 ((dQ_X9_reserve_2 8).trans dk_j8) ((dQ_X9_reserve_2 9).trans dk_j9) ((dQ_X9_reserve_2 10).trans dk_j10) dk_vu2_0_246
theorem dX9_reserve_43 : decode cX9_reserve 43 = .ok (.goto (-28), 3) := dk_167 ((dQ_X9_reserve_2 11).trans dk_j11) ((dQ_X9_reserve_2 12).trans dk_j12) ((dQ_X9_reserve_2 13).trans dk_j13) dk_vs2_255_228
theorem dX9_reserve_46 : decode cX9_reserve 46 = .ok (.aload_n 0, 1) := dk_42 ((dQ_X9_reserve_2 14).trans dk_j14)
theorem dX9_reserve_47 : decode cX9_reserve 47 = .ok (.getfield 246, 3) := dk_180 ((dQ_X9_reserve_2 15).trans dk_j15) ((dQ_X9_reserve_3 0).trans dk_j0) ((dQ_X9_reserve_3 1).trans dk_j1) dk_vu2_0_246
theorem dX9_reserve_50 : decode cX9_reserve 50 = .ok (.sipush 1000, 3) := dk_17 ((dQ_X9_reserve_3 2).trans dk_j2) ((dQ_X9_reserve_3 3).trans dk_j3) ((dQ_X9_reserve_3 4).trans dk_j4) dk_vs2_3_232
theorem dX9_reserve_53 : decode cX9_reserve 53 = .ok (.if_icmp .ge 10, 3) := dk_162 ((dQ_X9_reserve_3 5).trans dk_j5) ((dQ_X9_reserve_3 6).trans dk_j6) ((dQ_X9_reserve_3 7).trans dk_j7) dk_vs2_0_10
theorem dX9_reserve_56 : decode cX9_reserve 56 = .ok (.aload_n 0, 1) := dk_42 ((dQ_X9_reserve_3 8).trans dk_j8)
theorem dX9_reserve_57 : decode cX9_reserve 57 = .ok (.getfield 246, 3) := dk_180 ((dQ_X9_reserve_3 9).trans dk_j9) ((dQ_X9_reserve_3 10).trans dk_j10) ((dQ_X9_reserve_3 11).trans dk_j11) dk_vu2_0_246
theorem dX9_reserve_60 : decode cX9_reserve 60 = .ok (.goto 4, 3) := dk_167 ((dQ_X9_reserve_3 12).trans dk_j12) ((dQ_X9_reserve_3 13).trans dk_j13) ((dQ_X9_reserve_3 14).trans dk_j14) dk_vs2_0_4
theorem dX9_reserve_63 : decode cX9_reserve 63 = .ok (.iconst (-1), 1) := dk_2 ((dQ_X9_reserve_3 15).trans dk_j15)
theorem dX9_reserve_64 : decode cX9_reserve 64 = .ok (.ireturn, 1) := dk_172 ((dQ_X9_reserve_4 0).trans dk_j0)
def dT_X9_byLaw_1 : List UInt8 := (0x40 : UInt8) :: (0xac : UInt8) :: []
def dT_X9_byLaw_0 : List UInt8 := (0x2a : UInt8) :: (0x1b : UInt8) :: (0xb5 : UInt8) :: (0x00 : UInt8) :: (0xf3 : UInt8) :: (0x2a : UInt8) :: (0xb6 : UInt8) :: (0x01 : UInt8) :: (0x3d : UInt8) :: (0x2a : UInt8) :: (0x2a : UInt8) :: (0xb4 : UInt8) :: (0x00 : UInt8) :: (0xfb : UInt8) :: (0xb6 : UInt8) :: (0x01 : UInt8) :: dT_X9_byLaw_1
theorem dT_X9_byLaw : cX9_byLaw.data.toList = dT_X9_byLaw_0 := eq_of_beq (show (cX9_byLaw.data.toList == dT_X9_byLaw_0) = true by decide +kernel)
theorem dQ_X9_byLaw_0 : dQ_P cX9_byLaw 0 dT_X9_byLaw_0 := fun i => by rw [dT_X9_byLaw]; rfl
theorem dQ_X9_byLaw_1 : dQ_P cX9_byLaw 16 dT_X9_byLaw_1 := fun i => (dQ_X9_byLaw_0 (i + 16)).trans dk_t
theorem dX9_byLaw_0 : decode cX9_byLaw 0 = .ok (.aload_n 0, 1) := dk_42 ((dQ_X9_byLaw_0 0).trans dk_j0)
theorem dX9_byLaw_1 : decode cX9_byLaw 1 = .ok (.iload_n 1, 1) := dk_27 ((dQ_X9_byLaw_0 1).trans dk_j1)
theorem dX9_byLaw_2 : decode cX9_byLaw 2 = .ok (.putfield 243, 3) := dk_181 ((dQ_X9_byLaw_0 2).trans dk_j2) ((dQ_X9_byLaw_0 3).trans dk_j3) ((dQ_X9_byLaw_0 4).trans dk_j4) dk_vu2_0_243
theorem dX9_byLaw_5 : decode cX9_byLaw 5 = .ok (.aload_n 0, 1) := dk_42 ((dQ_X9_byLaw_0 5).trans dk_j5)
theorem dX9_byLaw_6 : decode cX9_byLaw 6 = .ok (.invokevirtual 317, 3) := dk_182 ((dQ_X9_byLaw_0 6).trans dk_j6) ((dQ_X9_byLaw_0 7).trans dk_j7) ((dQ_X9_byLaw_0 8).trans dk_j8) dk_vu2_1_61
theorem dX9_byLaw_9 : decode cX9_byLaw 9 = .ok (.aload_n 0, 1) := dk_42 ((dQ_X9_byLaw_0 9).trans dk_j9)
theorem dX9_byLaw_10 : decode cX9_byLaw 10 = .ok (.aload_n 0, 1) := dk_42 ((dQ_X9_byLaw_0 10).trans dk_j10)
theorem dX9_byLaw_11 : decode cX9_byLaw 11 = .ok (.getfield 251, 3) := dk_180 ((dQ_X9_byLaw_0 11).trans dk_j11) ((dQ_X9_byLaw_0 12).trans dk_j12) ((dQ_X9_byLaw_0 13).trans dk_j13) dk_vu2_0_251
theorem dX9_byLaw_14 : decode cX9_byLaw 14 = .ok (.invokevirtual 320, 3) := dk_182 ((dQ_X9_byLaw_0 14).trans dk_j14) ((dQ_X9_byLaw_0 15).trans dk_j15) ((dQ_X9_byLaw_1 0).trans dk_j0) dk_vu2_1_64
theorem dX9_byLaw_17 : decode cX9_byLaw 17 = .ok (.ireturn, 1) := dk_172 ((dQ_X9_byLaw_1 1).trans dk_j1)
def dT_X9_by_1 : List UInt8 := (0xb6 : UInt8) :: (0x01 : UInt8) :: (0x52 : UInt8) :: (0xa7 : UInt8) :: (0x00 : UInt8) :: (0x06 : UInt8) :: (0x13 : UInt8) :: (0x01 : UInt8) :: (0x48 : UInt8) :: (0xac : UInt8) :: []
def dT_X9_by_0 : List UInt8 := (0x2a : UInt8) :: (0xb6 : UInt8) :: (0x01 : UInt8) :: (0x10 : UInt8) :: (0x99 : UInt8) :: (0x00 : UInt8) :: (0x12 : UInt8) :: (0x1b : UInt8) :: (0xb8 : UInt8) :: (0x01 : UInt8) :: (0x4f : UInt8) :: (0x99 : UInt8) :: (0x00 : UInt8) :: (0x0b : UInt8) :: (0x2a : UInt8) :: (0x1b : UInt8) :: dT_X9_by_1
theorem dT_X9_by : cX9_by.data.toList = dT_X9_by_0 := eq_of_beq (show (cX9_by.data.toList == dT_X9_by_0) = true by decide +kernel)
theorem dQ_X9_by_0 : dQ_P cX9_by 0 dT_X9_by_0 := fun i => by rw [dT_X9_by]; rfl
theorem dQ_X9_by_1 : dQ_P cX9_by 16 dT_X9_by_1 := fun i => (dQ_X9_by_0 (i + 16)).trans dk_t
theorem dX9_by_0 : decode cX9_by 0 = .ok (.aload_n 0, 1) := dk_42 ((dQ_X9_by_0 0).trans dk_j0)
theorem dX9_by_1 : decode cX9_by 1 = .ok (.invokevirtual 272, 3) := dk_182 ((dQ_X9_by_0 1).trans dk_j1) ((dQ_X9_by_0 2).trans dk_j2) ((dQ_X9_by_0 3).trans dk_j3) dk_vu2_1_16
theorem dX9_by_4 : decode cX9_by 4 = .ok (.ifCond .eq 18, 3) := dk_153 ((dQ_X9_by_0 4).trans dk_j4) ((dQ_X9_by_0 5).trans dk_j5) ((dQ_X9_by_0 6).trans dk_j6) dk_vs2_0_18
theorem dX9_by_7 : decode cX9_by 7 = .ok (.iload_n 1, 1) := dk_27 ((dQ_X9_by_0 7).trans dk_j7)
theorem dk_vu2_1_79 : (0x01 : UInt8).toNat * 256 + (0x4f : UInt8).toNat = (335 : Nat) := by decide +kernel
theorem dX9_by_8 : decode cX9_by 8 = .ok (.invokestatic 335, 3) := dk_184 ((dQ_X9_by_0 8).trans dk_j8) ((dQ_X9_by_0 9).trans dk_j9) ((dQ_X9_by_0 10).trans dk_j10) dk_vu2_1_79
theorem dX9_by_11 : decode cX9_by 11 = .ok (.ifCond .eq 11, 3) := dk_153 ((dQ_X9_by_0 11).trans dk_j11) ((dQ_X9_by_0 12).trans dk_j12) ((dQ_X9_by_0 13).trans dk_j13) dk_vs2_0_11
theorem dX9_by_14 : decode cX9_by 14 = .ok (.aload_n 0, 1) := dk_42 ((dQ_X9_by_0 14).trans dk_j14)
theorem dX9_by_15 : decode cX9_by 15 = .ok (.iload_n 1, 1) := dk_27 ((dQ_X9_by_0 15).trans dk_j15)
theorem dk_vu2_1_82 : (0x01 : UInt8).toNat * 256 + (0x52 : UInt8).toNat = (338 : Nat) := by decide +kernel
theorem dX9_by_16 : decode cX9_by 16 = .ok (.invokevirtual 338, 3) := dk_182 ((dQ_X9_by_1 0).trans dk_j0) ((dQ_X9_by_1 1).trans dk_j1) ((dQ_X9_by_1 2).trans dk_j2) dk_vu2_1_82
theorem dX9_by_19 : decode cX9_by 19 = .ok (.goto 6, 3) := dk_167 ((dQ_X9_by_1 3).trans dk_j3) ((dQ_X9_by_1 4).trans dk_j4) ((dQ_X9_by_1 5).trans dk_j5) dk_vs2_0_6
theorem dX9_by_22 : decode cX9_by 22 = .ok (.ldc_w 328, 3) := dk_19 ((dQ_X9_by_1 6).trans dk_j6) ((dQ_X9_by_1 7).trans dk_j7) ((dQ_X9_by_1 8).trans dk_j8) dk_vu2_1_72
theorem dX9_by_25 : decode cX9_by 25 = .ok (.ireturn, 1) := dk_172 ((dQ_X9_by_1 9).trans dk_j9)
def dT_X9_law_2 : List UInt8 := (0x1c : UInt8) :: (0xa7 : UInt8) :: (0x00 : UInt8) :: (0x04 : UInt8) :: (0x1b : UInt8) :: (0x3c : UInt8) :: (0x84 : UInt8) :: (0x02 : UInt8) :: (0x01 : UInt8) :: (0xa7 : UInt8) :: (0xff : UInt8) :: (0xe5 : UInt8) :: (0x1b : UInt8) :: (0xac : UInt8) :: []
def dT_X9_law_1 : List UInt8 := (0xa2 : UInt8) :: (0x00 : UInt8) :: (0x1c : UInt8) :: (0x2a : UInt8) :: (0x1c : UInt8) :: (0xb6 : UInt8) :: (0x01 : UInt8) :: (0x52 : UInt8) :: (0x2a : UInt8) :: (0x1b : UInt8) :: (0xb6 : UInt8) :: (0x01 : UInt8) :: (0x52 : UInt8) :: (0xa4 : UInt8) :: (0x00 : UInt8) :: (0x07 : UInt8) :: dT_X9_law_2
def dT_X9_law_0 : List UInt8 := (0x2a : UInt8) :: (0xb6 : UInt8) :: (0x01 : UInt8) :: (0x10 : UInt8) :: (0x9a : UInt8) :: (0x00 : UInt8) :: (0x06 : UInt8) :: (0x10 : UInt8) :: (0xfe : UInt8) :: (0xac : UInt8) :: (0x03 : UInt8) :: (0x3c : UInt8) :: (0x04 : UInt8) :: (0x3d : UInt8) :: (0x1c : UInt8) :: (0x07 : UInt8) :: dT_X9_law_1
theorem dT_X9_law : cX9_law.data.toList = dT_X9_law_0 := eq_of_beq (show (cX9_law.data.toList == dT_X9_law_0) = true by decide +kernel)
theorem dQ_X9_law_0 : dQ_P cX9_law 0 dT_X9_law_0 := fun i => by rw [dT_X9_law]; rfl
theorem dQ_X9_law_1 : dQ_P cX9_law 16 dT_X9_law_1 := fun i => (dQ_X9_law_0 (i + 16)).trans dk_t
theorem dQ_X9_law_2 : dQ_P cX9_law 32 dT_X9_law_2 := fun i => (dQ_X9_law_1 (i + 16)).trans dk_t
theorem dX9_law_0 : decode cX9_law 0 = .ok (.aload_n 0, 1) := dk_42 ((dQ_X9_law_0 0).trans dk_j0)
theorem dX9_law_1 : decode cX9_law 1 = .ok (.invokevirtual 272, 3) := dk_182 ((dQ_X9_law_0 1).trans dk_j1) ((dQ_X9_law_0 2).trans dk_j2) ((dQ_X9_law_0 3).trans dk_j3) dk_vu2_1_16
theorem dX9_law_4 : decode cX9_law 4 = .ok (.ifCond .ne 6, 3) := dk_154 ((dQ_X9_law_0 4).trans dk_j4) ((dQ_X9_law_0 5).trans dk_j5) ((dQ_X9_law_0 6).trans dk_j6) dk_vs2_0_6
theorem dX9_law_7 : decode cX9_law 7 = .ok (.bipush (-2), 2) := dk_16 ((dQ_X9_law_0 7).trans dk_j7) ((dQ_X9_law_0 8).trans dk_j8) dk_vs1_254
theorem dX9_law_9 : decode cX9_law 9 = .ok (.ireturn, 1) := dk_172 ((dQ_X9_law_0 9).trans dk_j9)
theorem dX9_law_10 : decode cX9_law 10 = .ok (.iconst 0, 1) := dk_3 ((dQ_X9_law_0 10).trans dk_j10)
theorem dX9_law_11 : decode cX9_law 11 = .ok (.istore_n 1, 1) := dk_60 ((dQ_X9_law_0 11).trans dk_j11)
theorem dX9_law_12 : decode cX9_law 12 = .ok (.iconst 1, 1) := dk_4 ((dQ_X9_law_0 12).trans dk_j12)
theorem dX9_law_13 : decode cX9_law 13 = .ok (.istore_n 2, 1) := dk_61 ((dQ_X9_law_0 13).trans dk_j13)
theorem dX9_law_14 : decode cX9_law 14 = .ok (.iload_n 2, 1) := dk_28 ((dQ_X9_law_0 14).trans dk_j14)
theorem dX9_law_15 : decode cX9_law 15 = .ok (.iconst 4, 1) := dk_7 ((dQ_X9_law_0 15).trans dk_j15)
theorem dX9_law_16 : decode cX9_law 16 = .ok (.if_icmp .ge 28, 3) := dk_162 ((dQ_X9_law_1 0).trans dk_j0) ((dQ_X9_law_1 1).trans dk_j1) ((dQ_X9_law_1 2).trans dk_j2) dk_vs2_0_28
theorem dX9_law_19 : decode cX9_law 19 = .ok (.aload_n 0, 1) := dk_42 ((dQ_X9_law_1 3).trans dk_j3)
theorem dX9_law_20 : decode cX9_law 20 = .ok (.iload_n 2, 1) := dk_28 ((dQ_X9_law_1 4).trans dk_j4)
theorem dX9_law_21 : decode cX9_law 21 = .ok (.invokevirtual 338, 3) := dk_182 ((dQ_X9_law_1 5).trans dk_j5) ((dQ_X9_law_1 6).trans dk_j6) ((dQ_X9_law_1 7).trans dk_j7) dk_vu2_1_82
theorem dX9_law_24 : decode cX9_law 24 = .ok (.aload_n 0, 1) := dk_42 ((dQ_X9_law_1 8).trans dk_j8)
theorem dX9_law_25 : decode cX9_law 25 = .ok (.iload_n 1, 1) := dk_27 ((dQ_X9_law_1 9).trans dk_j9)
theorem dX9_law_26 : decode cX9_law 26 = .ok (.invokevirtual 338, 3) := dk_182 ((dQ_X9_law_1 10).trans dk_j10) ((dQ_X9_law_1 11).trans dk_j11) ((dQ_X9_law_1 12).trans dk_j12) dk_vu2_1_82
theorem dX9_law_29 : decode cX9_law 29 = .ok (.if_icmp .le 7, 3) := dk_164 ((dQ_X9_law_1 13).trans dk_j13) ((dQ_X9_law_1 14).trans dk_j14) ((dQ_X9_law_1 15).trans dk_j15) dk_vs2_0_7
theorem dX9_law_32 : decode cX9_law 32 = .ok (.iload_n 2, 1) := dk_28 ((dQ_X9_law_2 0).trans dk_j0)
theorem dX9_law_33 : decode cX9_law 33 = .ok (.goto 4, 3) := dk_167 ((dQ_X9_law_2 1).trans dk_j1) ((dQ_X9_law_2 2).trans dk_j2) ((dQ_X9_law_2 3).trans dk_j3) dk_vs2_0_4
theorem dX9_law_36 : decode cX9_law 36 = .ok (.iload_n 1, 1) := dk_27 ((dQ_X9_law_2 4).trans dk_j4)
theorem dX9_law_37 : decode cX9_law 37 = .ok (.istore_n 1, 1) := dk_60 ((dQ_X9_law_2 5).trans dk_j5)
theorem dX9_law_38 : decode cX9_law 38 = .ok (.iinc 2 1, 3) := dk_132 ((dQ_X9_law_2 6).trans dk_j6) ((dQ_X9_law_2 7).trans dk_j7) ((dQ_X9_law_2 8).trans dk_j8) dk_vu1_2 dk_vs1_1
theorem dX9_law_41 : decode cX9_law 41 = .ok (.goto (-27), 3) := dk_167 ((dQ_X9_law_2 9).trans dk_j9) ((dQ_X9_law_2 10).trans dk_j10) ((dQ_X9_law_2 11).trans dk_j11) dk_vs2_255_229
theorem dX9_law_44 : decode cX9_law 44 = .ok (.iload_n 1, 1) := dk_27 ((dQ_X9_law_2 12).trans dk_j12)
theorem dX9_law_45 : decode cX9_law 45 = .ok (.ireturn, 1) := dk_172 ((dQ_X9_law_2 13).trans dk_j13)
def dT_X9_takesBy_5 : List UInt8 := (0x04 : UInt8) :: (0xac : UInt8) :: []
def dT_X9_takesBy_4 : List UInt8 := (0x15 : UInt8) :: (0x06 : UInt8) :: (0xb5 : UInt8) :: (0x01 : UInt8) :: (0x55 : UInt8) :: (0x15 : UInt8) :: (0x05 : UInt8) :: (0x36 : UInt8) :: (0x04 : UInt8) :: (0x84 : UInt8) :: (0x05 : UInt8) :: (0x01 : UInt8) :: (0xa7 : UInt8) :: (0xff : UInt8) :: (0xbf : UInt8) :: (0x15 : UInt8) :: dT_X9_takesBy_5
def dT_X9_takesBy_3 : List UInt8 := (0x64 : UInt8) :: (0x36 : UInt8) :: (0x06 : UInt8) :: (0x15 : UInt8) :: (0x06 : UInt8) :: (0x2a : UInt8) :: (0xb4 : UInt8) :: (0x01 : UInt8) :: (0x55 : UInt8) :: (0xa3 : UInt8) :: (0x00 : UInt8) :: (0x06 : UInt8) :: (0xa7 : UInt8) :: (0x00 : UInt8) :: (0x0d : UInt8) :: (0x2a : UInt8) :: dT_X9_takesBy_4
def dT_X9_takesBy_2 : List UInt8 := (0x05 : UInt8) :: (0x1c : UInt8) :: (0xa0 : UInt8) :: (0x00 : UInt8) :: (0x07 : UInt8) :: (0x1d : UInt8) :: (0xa7 : UInt8) :: (0x00 : UInt8) :: (0x0a : UInt8) :: (0x2a : UInt8) :: (0x15 : UInt8) :: (0x05 : UInt8) :: (0x07 : UInt8) :: (0xb6 : UInt8) :: (0x00 : UInt8) :: (0xea : UInt8) :: dT_X9_takesBy_3
def dT_X9_takesBy_1 : List UInt8 := (0x09 : UInt8) :: (0x10 : UInt8) :: (0x08 : UInt8) :: (0x2e : UInt8) :: (0xa2 : UInt8) :: (0x00 : UInt8) :: (0x3b : UInt8) :: (0x2a : UInt8) :: (0x15 : UInt8) :: (0x05 : UInt8) :: (0x1b : UInt8) :: (0x03 : UInt8) :: (0xb6 : UInt8) :: (0x01 : UInt8) :: (0x39 : UInt8) :: (0x15 : UInt8) :: dT_X9_takesBy_2
def dT_X9_takesBy_0 : List UInt8 := (0x02 : UInt8) :: (0x36 : UInt8) :: (0x04 : UInt8) :: (0x2a : UInt8) :: (0x03 : UInt8) :: (0xb5 : UInt8) :: (0x01 : UInt8) :: (0x55 : UInt8) :: (0x03 : UInt8) :: (0x36 : UInt8) :: (0x05 : UInt8) :: (0x15 : UInt8) :: (0x05 : UInt8) :: (0x2a : UInt8) :: (0xb4 : UInt8) :: (0x00 : UInt8) :: dT_X9_takesBy_1
theorem dT_X9_takesBy : cX9_takesBy.data.toList = dT_X9_takesBy_0 := eq_of_beq (show (cX9_takesBy.data.toList == dT_X9_takesBy_0) = true by decide +kernel)
theorem dQ_X9_takesBy_0 : dQ_P cX9_takesBy 0 dT_X9_takesBy_0 := fun i => by rw [dT_X9_takesBy]; rfl
theorem dQ_X9_takesBy_1 : dQ_P cX9_takesBy 16 dT_X9_takesBy_1 := fun i => (dQ_X9_takesBy_0 (i + 16)).trans dk_t
theorem dQ_X9_takesBy_2 : dQ_P cX9_takesBy 32 dT_X9_takesBy_2 := fun i => (dQ_X9_takesBy_1 (i + 16)).trans dk_t
theorem dQ_X9_takesBy_3 : dQ_P cX9_takesBy 48 dT_X9_takesBy_3 := fun i => (dQ_X9_takesBy_2 (i + 16)).trans dk_t
theorem dQ_X9_takesBy_4 : dQ_P cX9_takesBy 64 dT_X9_takesBy_4 := fun i => (dQ_X9_takesBy_3 (i + 16)).trans dk_t
theorem dQ_X9_takesBy_5 : dQ_P cX9_takesBy 80 dT_X9_takesBy_5 := fun i => (dQ_X9_takesBy_4 (i + 16)).trans dk_t
theorem dX9_takesBy_0 : decode cX9_takesBy 0 = .ok (.iconst (-1), 1) := dk_2 ((dQ_X9_takesBy_0 0).trans dk_j0)
theorem dX9_takesBy_1 : decode cX9_takesBy 1 = .ok (.istore 4, 2) := dk_54 ((dQ_X9_takesBy_0 1).trans dk_j1) ((dQ_X9_takesBy_0 2).trans dk_j2) dk_vu1_4
theorem dX9_takesBy_3 : decode cX9_takesBy 3 = .ok (.aload_n 0, 1) := dk_42 ((dQ_X9_takesBy_0 3).trans dk_j3)
theorem dX9_takesBy_4 : decode cX9_takesBy 4 = .ok (.iconst 0, 1) := dk_3 ((dQ_X9_takesBy_0 4).trans dk_j4)
theorem dk_vu2_1_85 : (0x01 : UInt8).toNat * 256 + (0x55 : UInt8).toNat = (341 : Nat) := by decide +kernel
theorem dX9_takesBy_5 : decode cX9_takesBy 5 = .ok (.putfield 341, 3) := dk_181 ((dQ_X9_takesBy_0 5).trans dk_j5) ((dQ_X9_takesBy_0 6).trans dk_j6) ((dQ_X9_takesBy_0 7).trans dk_j7) dk_vu2_1_85
theorem dX9_takesBy_8 : decode cX9_takesBy 8 = .ok (.iconst 0, 1) := dk_3 ((dQ_X9_takesBy_0 8).trans dk_j8)
theorem dX9_takesBy_9 : decode cX9_takesBy 9 = .ok (.istore 5, 2) := dk_54 ((dQ_X9_takesBy_0 9).trans dk_j9) ((dQ_X9_takesBy_0 10).trans dk_j10) dk_vu1_5
theorem dX9_takesBy_11 : decode cX9_takesBy 11 = .ok (.iload 5, 2) := dk_21 ((dQ_X9_takesBy_0 11).trans dk_j11) ((dQ_X9_takesBy_0 12).trans dk_j12) dk_vu1_5
theorem dX9_takesBy_13 : decode cX9_takesBy 13 = .ok (.aload_n 0, 1) := dk_42 ((dQ_X9_takesBy_0 13).trans dk_j13)
theorem dX9_takesBy_14 : decode cX9_takesBy 14 = .ok (.getfield 9, 3) := dk_180 ((dQ_X9_takesBy_0 14).trans dk_j14) ((dQ_X9_takesBy_0 15).trans dk_j15) ((dQ_X9_takesBy_1 0).trans dk_j0) dk_vu2_0_9
theorem dX9_takesBy_17 : decode cX9_takesBy 17 = .ok (.bipush 8, 2) := dk_16 ((dQ_X9_takesBy_1 1).trans dk_j1) ((dQ_X9_takesBy_1 2).trans dk_j2) dk_vs1_8
theorem dX9_takesBy_19 : decode cX9_takesBy 19 = .ok (.iaload, 1) := dk_46 ((dQ_X9_takesBy_1 3).trans dk_j3)
theorem dk_vs2_0_59 : Reader.signed 16 ((0x00 : UInt8).toNat * 256 + (0x3b : UInt8).toNat) = (59 : Int) := by decide +kernel
theorem dX9_takesBy_20 : decode cX9_takesBy 20 = .ok (.if_icmp .ge 59, 3) := dk_162 ((dQ_X9_takesBy_1 4).trans dk_j4) ((dQ_X9_takesBy_1 5).trans dk_j5) ((dQ_X9_takesBy_1 6).trans dk_j6) dk_vs2_0_59
theorem dX9_takesBy_23 : decode cX9_takesBy 23 = .ok (.aload_n 0, 1) := dk_42 ((dQ_X9_takesBy_1 7).trans dk_j7)
theorem dX9_takesBy_24 : decode cX9_takesBy 24 = .ok (.iload 5, 2) := dk_21 ((dQ_X9_takesBy_1 8).trans dk_j8) ((dQ_X9_takesBy_1 9).trans dk_j9) dk_vu1_5
theorem dX9_takesBy_26 : decode cX9_takesBy 26 = .ok (.iload_n 1, 1) := dk_27 ((dQ_X9_takesBy_1 10).trans dk_j10)
theorem dX9_takesBy_27 : decode cX9_takesBy 27 = .ok (.iconst 0, 1) := dk_3 ((dQ_X9_takesBy_1 11).trans dk_j11)
theorem dX9_takesBy_28 : decode cX9_takesBy 28 = .ok (.invokevirtual 313, 3) := dk_182 ((dQ_X9_takesBy_1 12).trans dk_j12) ((dQ_X9_takesBy_1 13).trans dk_j13) ((dQ_X9_takesBy_1 14).trans dk_j14) dk_vu2_1_57
theorem dX9_takesBy_31 : decode cX9_takesBy 31 = .ok (.iload 5, 2) := dk_21 ((dQ_X9_takesBy_1 15).trans dk_j15) ((dQ_X9_takesBy_2 0).trans dk_j0) dk_vu1_5
theorem dX9_takesBy_33 : decode cX9_takesBy 33 = .ok (.iload_n 2, 1) := dk_28 ((dQ_X9_takesBy_2 1).trans dk_j1)
theorem dX9_takesBy_34 : decode cX9_takesBy 34 = .ok (.if_icmp .ne 7, 3) := dk_160 ((dQ_X9_takesBy_2 2).trans dk_j2) ((dQ_X9_takesBy_2 3).trans dk_j3) ((dQ_X9_takesBy_2 4).trans dk_j4) dk_vs2_0_7
theorem dX9_takesBy_37 : decode cX9_takesBy 37 = .ok (.iload_n 3, 1) := dk_29 ((dQ_X9_takesBy_2 5).trans dk_j5)
theorem dX9_takesBy_38 : decode cX9_takesBy 38 = .ok (.goto 10, 3) := dk_167 ((dQ_X9_takesBy_2 6).trans dk_j6) ((dQ_X9_takesBy_2 7).trans dk_j7) ((dQ_X9_takesBy_2 8).trans dk_j8) dk_vs2_0_10
theorem dX9_takesBy_41 : decode cX9_takesBy 41 = .ok (.aload_n 0, 1) := dk_42 ((dQ_X9_takesBy_2 9).trans dk_j9)
theorem dX9_takesBy_42 : decode cX9_takesBy 42 = .ok (.iload 5, 2) := dk_21 ((dQ_X9_takesBy_2 10).trans dk_j10) ((dQ_X9_takesBy_2 11).trans dk_j11) dk_vu1_5
theorem dX9_takesBy_44 : decode cX9_takesBy 44 = .ok (.iconst 4, 1) := dk_7 ((dQ_X9_takesBy_2 12).trans dk_j12)
theorem dX9_takesBy_45 : decode cX9_takesBy 45 = .ok (.invokevirtual 234, 3) := dk_182 ((dQ_X9_takesBy_2 13).trans dk_j13) ((dQ_X9_takesBy_2 14).trans dk_j14) ((dQ_X9_takesBy_2 15).trans dk_j15) dk_vu2_0_234
theorem dX9_takesBy_48 : decode cX9_takesBy 48 = .ok (.isub, 1) := dk_100 ((dQ_X9_takesBy_3 0).trans dk_j0)
theorem dX9_takesBy_49 : decode cX9_takesBy 49 = .ok (.istore 6, 2) := dk_54 ((dQ_X9_takesBy_3 1).trans dk_j1) ((dQ_X9_takesBy_3 2).trans dk_j2) dk_vu1_6
theorem dX9_takesBy_51 : decode cX9_takesBy 51 = .ok (.iload 6, 2) := dk_21 ((dQ_X9_takesBy_3 3).trans dk_j3) ((dQ_X9_takesBy_3 4).trans dk_j4) dk_vu1_6
theorem dX9_takesBy_53 : decode cX9_takesBy 53 = .ok (.aload_n 0, 1) := dk_42 ((dQ_X9_takesBy_3 5).trans dk_j5)
theorem dX9_takesBy_54 : decode cX9_takesBy 54 = .ok (.getfield 341, 3) := dk_180 ((dQ_X9_takesBy_3 6).trans dk_j6) ((dQ_X9_takesBy_3 7).trans dk_j7) ((dQ_X9_takesBy_3 8).trans dk_j8) dk_vu2_1_85
theorem dX9_takesBy_57 : decode cX9_takesBy 57 = .ok (.if_icmp .gt 6, 3) := dk_163 ((dQ_X9_takesBy_3 9).trans dk_j9) ((dQ_X9_takesBy_3 10).trans dk_j10) ((dQ_X9_takesBy_3 11).trans dk_j11) dk_vs2_0_6
theorem dX9_takesBy_60 : decode cX9_takesBy 60 = .ok (.goto 13, 3) := dk_167 ((dQ_X9_takesBy_3 12).trans dk_j12) ((dQ_X9_takesBy_3 13).trans dk_j13) ((dQ_X9_takesBy_3 14).trans dk_j14) dk_vs2_0_13
theorem dX9_takesBy_63 : decode cX9_takesBy 63 = .ok (.aload_n 0, 1) := dk_42 ((dQ_X9_takesBy_3 15).trans dk_j15)
theorem dX9_takesBy_64 : decode cX9_takesBy 64 = .ok (.iload 6, 2) := dk_21 ((dQ_X9_takesBy_4 0).trans dk_j0) ((dQ_X9_takesBy_4 1).trans dk_j1) dk_vu1_6
theorem dX9_takesBy_66 : decode cX9_takesBy 66 = .ok (.putfield 341, 3) := dk_181 ((dQ_X9_takesBy_4 2).trans dk_j2) ((dQ_X9_takesBy_4 3).trans dk_j3) ((dQ_X9_takesBy_4 4).trans dk_j4) dk_vu2_1_85
theorem dX9_takesBy_69 : decode cX9_takesBy 69 = .ok (.iload 5, 2) := dk_21 ((dQ_X9_takesBy_4 5).trans dk_j5) ((dQ_X9_takesBy_4 6).trans dk_j6) dk_vu1_5
theorem dX9_takesBy_71 : decode cX9_takesBy 71 = .ok (.istore 4, 2) := dk_54 ((dQ_X9_takesBy_4 7).trans dk_j7) ((dQ_X9_takesBy_4 8).trans dk_j8) dk_vu1_4
theorem dX9_takesBy_73 : decode cX9_takesBy 73 = .ok (.iinc 5 1, 3) := dk_132 ((dQ_X9_takesBy_4 9).trans dk_j9) ((dQ_X9_takesBy_4 10).trans dk_j10) ((dQ_X9_takesBy_4 11).trans dk_j11) dk_vu1_5 dk_vs1_1
theorem dk_vs2_255_191 : Reader.signed 16 ((0xff : UInt8).toNat * 256 + (0xbf : UInt8).toNat) = (-65 : Int) := by decide +kernel
theorem dX9_takesBy_76 : decode cX9_takesBy 76 = .ok (.goto (-65), 3) := dk_167 ((dQ_X9_takesBy_4 12).trans dk_j12) ((dQ_X9_takesBy_4 13).trans dk_j13) ((dQ_X9_takesBy_4 14).trans dk_j14) dk_vs2_255_191
theorem dX9_takesBy_79 : decode cX9_takesBy 79 = .ok (.iload 4, 2) := dk_21 ((dQ_X9_takesBy_4 15).trans dk_j15) ((dQ_X9_takesBy_5 0).trans dk_j0) dk_vu1_4
theorem dX9_takesBy_81 : decode cX9_takesBy 81 = .ok (.ireturn, 1) := dk_172 ((dQ_X9_takesBy_5 1).trans dk_j1)
def dT_X9_takes__1 : List UInt8 := (0x00 : UInt8) :: (0x05 : UInt8) :: (0x10 : UInt8) :: (0xfe : UInt8) :: (0xac : UInt8) :: []
def dT_X9_takes__0 : List UInt8 := (0x2a : UInt8) :: (0x1b : UInt8) :: (0xb6 : UInt8) :: (0x01 : UInt8) :: (0x1c : UInt8) :: (0x99 : UInt8) :: (0x00 : UInt8) :: (0x0d : UInt8) :: (0x2a : UInt8) :: (0x1b : UInt8) :: (0x02 : UInt8) :: (0x03 : UInt8) :: (0xb6 : UInt8) :: (0x01 : UInt8) :: (0x58 : UInt8) :: (0xa7 : UInt8) :: dT_X9_takes__1
theorem dT_X9_takes_ : cX9_takes_.data.toList = dT_X9_takes__0 := eq_of_beq (show (cX9_takes_.data.toList == dT_X9_takes__0) = true by decide +kernel)
theorem dQ_X9_takes__0 : dQ_P cX9_takes_ 0 dT_X9_takes__0 := fun i => by rw [dT_X9_takes_]; rfl
theorem dQ_X9_takes__1 : dQ_P cX9_takes_ 16 dT_X9_takes__1 := fun i => (dQ_X9_takes__0 (i + 16)).trans dk_t
theorem dX9_takes__0 : decode cX9_takes_ 0 = .ok (.aload_n 0, 1) := dk_42 ((dQ_X9_takes__0 0).trans dk_j0)
theorem dX9_takes__1 : decode cX9_takes_ 1 = .ok (.iload_n 1, 1) := dk_27 ((dQ_X9_takes__0 1).trans dk_j1)
theorem dX9_takes__2 : decode cX9_takes_ 2 = .ok (.invokevirtual 284, 3) := dk_182 ((dQ_X9_takes__0 2).trans dk_j2) ((dQ_X9_takes__0 3).trans dk_j3) ((dQ_X9_takes__0 4).trans dk_j4) dk_vu2_1_28
theorem dX9_takes__5 : decode cX9_takes_ 5 = .ok (.ifCond .eq 13, 3) := dk_153 ((dQ_X9_takes__0 5).trans dk_j5) ((dQ_X9_takes__0 6).trans dk_j6) ((dQ_X9_takes__0 7).trans dk_j7) dk_vs2_0_13
theorem dX9_takes__8 : decode cX9_takes_ 8 = .ok (.aload_n 0, 1) := dk_42 ((dQ_X9_takes__0 8).trans dk_j8)
theorem dX9_takes__9 : decode cX9_takes_ 9 = .ok (.iload_n 1, 1) := dk_27 ((dQ_X9_takes__0 9).trans dk_j9)
theorem dX9_takes__10 : decode cX9_takes_ 10 = .ok (.iconst (-1), 1) := dk_2 ((dQ_X9_takes__0 10).trans dk_j10)
theorem dX9_takes__11 : decode cX9_takes_ 11 = .ok (.iconst 0, 1) := dk_3 ((dQ_X9_takes__0 11).trans dk_j11)
theorem dk_vu2_1_88 : (0x01 : UInt8).toNat * 256 + (0x58 : UInt8).toNat = (344 : Nat) := by decide +kernel
theorem dX9_takes__12 : decode cX9_takes_ 12 = .ok (.invokevirtual 344, 3) := dk_182 ((dQ_X9_takes__0 12).trans dk_j12) ((dQ_X9_takes__0 13).trans dk_j13) ((dQ_X9_takes__0 14).trans dk_j14) dk_vu2_1_88
theorem dX9_takes__15 : decode cX9_takes_ 15 = .ok (.goto 5, 3) := dk_167 ((dQ_X9_takes__0 15).trans dk_j15) ((dQ_X9_takes__1 0).trans dk_j0) ((dQ_X9_takes__1 1).trans dk_j1) dk_vs2_0_5
theorem dX9_takes__18 : decode cX9_takes_ 18 = .ok (.bipush (-2), 2) := dk_16 ((dQ_X9_takes__1 2).trans dk_j2) ((dQ_X9_takes__1 3).trans dk_j3) dk_vs1_254
theorem dX9_takes__20 : decode cX9_takes_ 20 = .ok (.ireturn, 1) := dk_172 ((dQ_X9_takes__1 4).trans dk_j4)
def dT_X9_gains_1 : List UInt8 := (0x01 : UInt8) :: (0x58 : UInt8) :: (0x57 : UInt8) :: (0x2a : UInt8) :: (0xb4 : UInt8) :: (0x01 : UInt8) :: (0x55 : UInt8) :: (0xac : UInt8) :: []
def dT_X9_gains_0 : List UInt8 := (0x2a : UInt8) :: (0x1b : UInt8) :: (0xb6 : UInt8) :: (0x01 : UInt8) :: (0x1c : UInt8) :: (0x9a : UInt8) :: (0x00 : UInt8) :: (0x06 : UInt8) :: (0x10 : UInt8) :: (0xfe : UInt8) :: (0xac : UInt8) :: (0x2a : UInt8) :: (0x1b : UInt8) :: (0x02 : UInt8) :: (0x03 : UInt8) :: (0xb6 : UInt8) :: dT_X9_gains_1
theorem dT_X9_gains : cX9_gains.data.toList = dT_X9_gains_0 := eq_of_beq (show (cX9_gains.data.toList == dT_X9_gains_0) = true by decide +kernel)
theorem dQ_X9_gains_0 : dQ_P cX9_gains 0 dT_X9_gains_0 := fun i => by rw [dT_X9_gains]; rfl
theorem dQ_X9_gains_1 : dQ_P cX9_gains 16 dT_X9_gains_1 := fun i => (dQ_X9_gains_0 (i + 16)).trans dk_t
theorem dX9_gains_0 : decode cX9_gains 0 = .ok (.aload_n 0, 1) := dk_42 ((dQ_X9_gains_0 0).trans dk_j0)
theorem dX9_gains_1 : decode cX9_gains 1 = .ok (.iload_n 1, 1) := dk_27 ((dQ_X9_gains_0 1).trans dk_j1)
theorem dX9_gains_2 : decode cX9_gains 2 = .ok (.invokevirtual 284, 3) := dk_182 ((dQ_X9_gains_0 2).trans dk_j2) ((dQ_X9_gains_0 3).trans dk_j3) ((dQ_X9_gains_0 4).trans dk_j4) dk_vu2_1_28
theorem dX9_gains_5 : decode cX9_gains 5 = .ok (.ifCond .ne 6, 3) := dk_154 ((dQ_X9_gains_0 5).trans dk_j5) ((dQ_X9_gains_0 6).trans dk_j6) ((dQ_X9_gains_0 7).trans dk_j7) dk_vs2_0_6
theorem dX9_gains_8 : decode cX9_gains 8 = .ok (.bipush (-2), 2) := dk_16 ((dQ_X9_gains_0 8).trans dk_j8) ((dQ_X9_gains_0 9).trans dk_j9) dk_vs1_254
theorem dX9_gains_10 : decode cX9_gains 10 = .ok (.ireturn, 1) := dk_172 ((dQ_X9_gains_0 10).trans dk_j10)
theorem dX9_gains_11 : decode cX9_gains 11 = .ok (.aload_n 0, 1) := dk_42 ((dQ_X9_gains_0 11).trans dk_j11)
theorem dX9_gains_12 : decode cX9_gains 12 = .ok (.iload_n 1, 1) := dk_27 ((dQ_X9_gains_0 12).trans dk_j12)
theorem dX9_gains_13 : decode cX9_gains 13 = .ok (.iconst (-1), 1) := dk_2 ((dQ_X9_gains_0 13).trans dk_j13)
theorem dX9_gains_14 : decode cX9_gains 14 = .ok (.iconst 0, 1) := dk_3 ((dQ_X9_gains_0 14).trans dk_j14)
theorem dX9_gains_15 : decode cX9_gains 15 = .ok (.invokevirtual 344, 3) := dk_182 ((dQ_X9_gains_0 15).trans dk_j15) ((dQ_X9_gains_1 0).trans dk_j0) ((dQ_X9_gains_1 1).trans dk_j1) dk_vu2_1_88
theorem dX9_gains_18 : decode cX9_gains 18 = .ok (.pop, 1) := dk_87 ((dQ_X9_gains_1 2).trans dk_j2)
theorem dX9_gains_19 : decode cX9_gains 19 = .ok (.aload_n 0, 1) := dk_42 ((dQ_X9_gains_1 3).trans dk_j3)
theorem dX9_gains_20 : decode cX9_gains 20 = .ok (.getfield 341, 3) := dk_180 ((dQ_X9_gains_1 4).trans dk_j4) ((dQ_X9_gains_1 5).trans dk_j5) ((dQ_X9_gains_1 6).trans dk_j6) dk_vu2_1_85
theorem dX9_gains_23 : decode cX9_gains 23 = .ok (.ireturn, 1) := dk_172 ((dQ_X9_gains_1 7).trans dk_j7)
def dT_X9_isTaken_2 : List UInt8 := (0xac : UInt8) :: []
def dT_X9_isTaken_1 : List UInt8 := (0xb6 : UInt8) :: (0x01 : UInt8) :: (0x58 : UInt8) :: (0x1b : UInt8) :: (0xa0 : UInt8) :: (0x00 : UInt8) :: (0x05 : UInt8) :: (0x04 : UInt8) :: (0xac : UInt8) :: (0x84 : UInt8) :: (0x03 : UInt8) :: (0x01 : UInt8) :: (0xa7 : UInt8) :: (0xff : UInt8) :: (0xe6 : UInt8) :: (0x03 : UInt8) :: dT_X9_isTaken_2
def dT_X9_isTaken_0 : List UInt8 := (0x03 : UInt8) :: (0x3e : UInt8) :: (0x1d : UInt8) :: (0x2a : UInt8) :: (0xb4 : UInt8) :: (0x00 : UInt8) :: (0x09 : UInt8) :: (0x08 : UInt8) :: (0x2e : UInt8) :: (0xa2 : UInt8) :: (0x00 : UInt8) :: (0x16 : UInt8) :: (0x2a : UInt8) :: (0x1d : UInt8) :: (0x1b : UInt8) :: (0x1c : UInt8) :: dT_X9_isTaken_1
theorem dT_X9_isTaken : cX9_isTaken.data.toList = dT_X9_isTaken_0 := eq_of_beq (show (cX9_isTaken.data.toList == dT_X9_isTaken_0) = true by decide +kernel)
theorem dQ_X9_isTaken_0 : dQ_P cX9_isTaken 0 dT_X9_isTaken_0 := fun i => by rw [dT_X9_isTaken]; rfl
theorem dQ_X9_isTaken_1 : dQ_P cX9_isTaken 16 dT_X9_isTaken_1 := fun i => (dQ_X9_isTaken_0 (i + 16)).trans dk_t
theorem dQ_X9_isTaken_2 : dQ_P cX9_isTaken 32 dT_X9_isTaken_2 := fun i => (dQ_X9_isTaken_1 (i + 16)).trans dk_t
theorem dX9_isTaken_0 : decode cX9_isTaken 0 = .ok (.iconst 0, 1) := dk_3 ((dQ_X9_isTaken_0 0).trans dk_j0)
theorem dX9_isTaken_1 : decode cX9_isTaken 1 = .ok (.istore_n 3, 1) := dk_62 ((dQ_X9_isTaken_0 1).trans dk_j1)
theorem dX9_isTaken_2 : decode cX9_isTaken 2 = .ok (.iload_n 3, 1) := dk_29 ((dQ_X9_isTaken_0 2).trans dk_j2)
theorem dX9_isTaken_3 : decode cX9_isTaken 3 = .ok (.aload_n 0, 1) := dk_42 ((dQ_X9_isTaken_0 3).trans dk_j3)
theorem dX9_isTaken_4 : decode cX9_isTaken 4 = .ok (.getfield 9, 3) := dk_180 ((dQ_X9_isTaken_0 4).trans dk_j4) ((dQ_X9_isTaken_0 5).trans dk_j5) ((dQ_X9_isTaken_0 6).trans dk_j6) dk_vu2_0_9
theorem dX9_isTaken_7 : decode cX9_isTaken 7 = .ok (.iconst 5, 1) := dk_8 ((dQ_X9_isTaken_0 7).trans dk_j7)
theorem dX9_isTaken_8 : decode cX9_isTaken 8 = .ok (.iaload, 1) := dk_46 ((dQ_X9_isTaken_0 8).trans dk_j8)
theorem dX9_isTaken_9 : decode cX9_isTaken 9 = .ok (.if_icmp .ge 22, 3) := dk_162 ((dQ_X9_isTaken_0 9).trans dk_j9) ((dQ_X9_isTaken_0 10).trans dk_j10) ((dQ_X9_isTaken_0 11).trans dk_j11) dk_vs2_0_22
theorem dX9_isTaken_12 : decode cX9_isTaken 12 = .ok (.aload_n 0, 1) := dk_42 ((dQ_X9_isTaken_0 12).trans dk_j12)
theorem dX9_isTaken_13 : decode cX9_isTaken 13 = .ok (.iload_n 3, 1) := dk_29 ((dQ_X9_isTaken_0 13).trans dk_j13)
theorem dX9_isTaken_14 : decode cX9_isTaken 14 = .ok (.iload_n 1, 1) := dk_27 ((dQ_X9_isTaken_0 14).trans dk_j14)
theorem dX9_isTaken_15 : decode cX9_isTaken 15 = .ok (.iload_n 2, 1) := dk_28 ((dQ_X9_isTaken_0 15).trans dk_j15)
theorem dX9_isTaken_16 : decode cX9_isTaken 16 = .ok (.invokevirtual 344, 3) := dk_182 ((dQ_X9_isTaken_1 0).trans dk_j0) ((dQ_X9_isTaken_1 1).trans dk_j1) ((dQ_X9_isTaken_1 2).trans dk_j2) dk_vu2_1_88
theorem dX9_isTaken_19 : decode cX9_isTaken 19 = .ok (.iload_n 1, 1) := dk_27 ((dQ_X9_isTaken_1 3).trans dk_j3)
theorem dX9_isTaken_20 : decode cX9_isTaken 20 = .ok (.if_icmp .ne 5, 3) := dk_160 ((dQ_X9_isTaken_1 4).trans dk_j4) ((dQ_X9_isTaken_1 5).trans dk_j5) ((dQ_X9_isTaken_1 6).trans dk_j6) dk_vs2_0_5
theorem dX9_isTaken_23 : decode cX9_isTaken 23 = .ok (.iconst 1, 1) := dk_4 ((dQ_X9_isTaken_1 7).trans dk_j7)
theorem dX9_isTaken_24 : decode cX9_isTaken 24 = .ok (.ireturn, 1) := dk_172 ((dQ_X9_isTaken_1 8).trans dk_j8)
theorem dX9_isTaken_25 : decode cX9_isTaken 25 = .ok (.iinc 3 1, 3) := dk_132 ((dQ_X9_isTaken_1 9).trans dk_j9) ((dQ_X9_isTaken_1 10).trans dk_j10) ((dQ_X9_isTaken_1 11).trans dk_j11) dk_vu1_3 dk_vs1_1
theorem dX9_isTaken_28 : decode cX9_isTaken 28 = .ok (.goto (-26), 3) := dk_167 ((dQ_X9_isTaken_1 12).trans dk_j12) ((dQ_X9_isTaken_1 13).trans dk_j13) ((dQ_X9_isTaken_1 14).trans dk_j14) dk_vs2_255_230
theorem dX9_isTaken_31 : decode cX9_isTaken 31 = .ok (.iconst 0, 1) := dk_3 ((dQ_X9_isTaken_1 15).trans dk_j15)
theorem dX9_isTaken_32 : decode cX9_isTaken 32 = .ok (.ireturn, 1) := dk_172 ((dQ_X9_isTaken_2 0).trans dk_j0)
def dT_X9_price_1 : List UInt8 := (0xb6 : UInt8) :: (0x01 : UInt8) :: (0x5c : UInt8) :: (0x99 : UInt8) :: (0x00 : UInt8) :: (0x09 : UInt8) :: (0x84 : UInt8) :: (0x02 : UInt8) :: (0x01 : UInt8) :: (0xa7 : UInt8) :: (0xff : UInt8) :: (0xf4 : UInt8) :: (0x1c : UInt8) :: (0xac : UInt8) :: []
def dT_X9_price_0 : List UInt8 := (0x2a : UInt8) :: (0x1b : UInt8) :: (0xb6 : UInt8) :: (0x01 : UInt8) :: (0x43 : UInt8) :: (0x9a : UInt8) :: (0x00 : UInt8) :: (0x06 : UInt8) :: (0x10 : UInt8) :: (0xfe : UInt8) :: (0xac : UInt8) :: (0x03 : UInt8) :: (0x3d : UInt8) :: (0x2a : UInt8) :: (0x1b : UInt8) :: (0x1c : UInt8) :: dT_X9_price_1
theorem dT_X9_price : cX9_price.data.toList = dT_X9_price_0 := eq_of_beq (show (cX9_price.data.toList == dT_X9_price_0) = true by decide +kernel)
theorem dQ_X9_price_0 : dQ_P cX9_price 0 dT_X9_price_0 := fun i => by rw [dT_X9_price]; rfl
theorem dQ_X9_price_1 : dQ_P cX9_price 16 dT_X9_price_1 := fun i => (dQ_X9_price_0 (i + 16)).trans dk_t
theorem dX9_price_0 : decode cX9_price 0 = .ok (.aload_n 0, 1) := dk_42 ((dQ_X9_price_0 0).trans dk_j0)
theorem dX9_price_1 : decode cX9_price 1 = .ok (.iload_n 1, 1) := dk_27 ((dQ_X9_price_0 1).trans dk_j1)
theorem dX9_price_2 : decode cX9_price 2 = .ok (.invokevirtual 323, 3) := dk_182 ((dQ_X9_price_0 2).trans dk_j2) ((dQ_X9_price_0 3).trans dk_j3) ((dQ_X9_price_0 4).trans dk_j4) dk_vu2_1_67
theorem dX9_price_5 : decode cX9_price 5 = .ok (.ifCond .ne 6, 3) := dk_154 ((dQ_X9_price_0 5).trans dk_j5) ((dQ_X9_price_0 6).trans dk_j6) ((dQ_X9_price_0 7).trans dk_j7) dk_vs2_0_6
theorem dX9_price_8 : decode cX9_price 8 = .ok (.bipush (-2), 2) := dk_16 ((dQ_X9_price_0 8).trans dk_j8) ((dQ_X9_price_0 9).trans dk_j9) dk_vs1_254
theorem dX9_price_10 : decode cX9_price 10 = .ok (.ireturn, 1) := dk_172 ((dQ_X9_price_0 10).trans dk_j10)
theorem dX9_price_11 : decode cX9_price 11 = .ok (.iconst 0, 1) := dk_3 ((dQ_X9_price_0 11).trans dk_j11)
theorem dX9_price_12 : decode cX9_price 12 = .ok (.istore_n 2, 1) := dk_61 ((dQ_X9_price_0 12).trans dk_j12)
theorem dX9_price_13 : decode cX9_price 13 = .ok (.aload_n 0, 1) := dk_42 ((dQ_X9_price_0 13).trans dk_j13)
theorem dX9_price_14 : decode cX9_price 14 = .ok (.iload_n 1, 1) := dk_27 ((dQ_X9_price_0 14).trans dk_j14)
theorem dX9_price_15 : decode cX9_price 15 = .ok (.iload_n 2, 1) := dk_28 ((dQ_X9_price_0 15).trans dk_j15)
theorem dk_vu2_1_92 : (0x01 : UInt8).toNat * 256 + (0x5c : UInt8).toNat = (348 : Nat) := by decide +kernel
theorem dX9_price_16 : decode cX9_price 16 = .ok (.invokevirtual 348, 3) := dk_182 ((dQ_X9_price_1 0).trans dk_j0) ((dQ_X9_price_1 1).trans dk_j1) ((dQ_X9_price_1 2).trans dk_j2) dk_vu2_1_92
theorem dX9_price_19 : decode cX9_price 19 = .ok (.ifCond .eq 9, 3) := dk_153 ((dQ_X9_price_1 3).trans dk_j3) ((dQ_X9_price_1 4).trans dk_j4) ((dQ_X9_price_1 5).trans dk_j5) dk_vs2_0_9
theorem dX9_price_22 : decode cX9_price 22 = .ok (.iinc 2 1, 3) := dk_132 ((dQ_X9_price_1 6).trans dk_j6) ((dQ_X9_price_1 7).trans dk_j7) ((dQ_X9_price_1 8).trans dk_j8) dk_vu1_2 dk_vs1_1
theorem dk_vs2_255_244 : Reader.signed 16 ((0xff : UInt8).toNat * 256 + (0xf4 : UInt8).toNat) = (-12 : Int) := by decide +kernel
theorem dX9_price_25 : decode cX9_price 25 = .ok (.goto (-12), 3) := dk_167 ((dQ_X9_price_1 9).trans dk_j9) ((dQ_X9_price_1 10).trans dk_j10) ((dQ_X9_price_1 11).trans dk_j11) dk_vs2_255_244
theorem dX9_price_28 : decode cX9_price 28 = .ok (.iload_n 2, 1) := dk_28 ((dQ_X9_price_1 12).trans dk_j12)
theorem dX9_price_29 : decode cX9_price 29 = .ok (.ireturn, 1) := dk_172 ((dQ_X9_price_1 13).trans dk_j13)
def dT_X9_tickleSince_2 : List UInt8 := (0xa7 : UInt8) :: (0xff : UInt8) :: (0xe6 : UInt8) :: (0x15 : UInt8) :: (0x04 : UInt8) :: (0xac : UInt8) :: []
def dT_X9_tickleSince_1 : List UInt8 := (0x00 : UInt8) :: (0x34 : UInt8) :: (0x10 : UInt8) :: (0x06 : UInt8) :: (0x15 : UInt8) :: (0x05 : UInt8) :: (0x68 : UInt8) :: (0x1b : UInt8) :: (0x60 : UInt8) :: (0x2e : UInt8) :: (0x60 : UInt8) :: (0x36 : UInt8) :: (0x04 : UInt8) :: (0x84 : UInt8) :: (0x05 : UInt8) :: (0x01 : UInt8) :: dT_X9_tickleSince_2
def dT_X9_tickleSince_0 : List UInt8 := (0x03 : UInt8) :: (0x36 : UInt8) :: (0x04 : UInt8) :: (0x1c : UInt8) :: (0x36 : UInt8) :: (0x05 : UInt8) :: (0x15 : UInt8) :: (0x05 : UInt8) :: (0x1d : UInt8) :: (0xa3 : UInt8) :: (0x00 : UInt8) :: (0x1a : UInt8) :: (0x15 : UInt8) :: (0x04 : UInt8) :: (0x2a : UInt8) :: (0xb4 : UInt8) :: dT_X9_tickleSince_1
theorem dT_X9_tickleSince : cX9_tickleSince.data.toList = dT_X9_tickleSince_0 := eq_of_beq (show (cX9_tickleSince.data.toList == dT_X9_tickleSince_0) = true by decide +kernel)
theorem dQ_X9_tickleSince_0 : dQ_P cX9_tickleSince 0 dT_X9_tickleSince_0 := fun i => by rw [dT_X9_tickleSince]; rfl
theorem dQ_X9_tickleSince_1 : dQ_P cX9_tickleSince 16 dT_X9_tickleSince_1 := fun i => (dQ_X9_tickleSince_0 (i + 16)).trans dk_t
theorem dQ_X9_tickleSince_2 : dQ_P cX9_tickleSince 32 dT_X9_tickleSince_2 := fun i => (dQ_X9_tickleSince_1 (i + 16)).trans dk_t
theorem dX9_tickleSince_0 : decode cX9_tickleSince 0 = .ok (.iconst 0, 1) := dk_3 ((dQ_X9_tickleSince_0 0).trans dk_j0)
theorem dX9_tickleSince_1 : decode cX9_tickleSince 1 = .ok (.istore 4, 2) := dk_54 ((dQ_X9_tickleSince_0 1).trans dk_j1) ((dQ_X9_tickleSince_0 2).trans dk_j2) dk_vu1_4
theorem dX9_tickleSince_3 : decode cX9_tickleSince 3 = .ok (.iload_n 2, 1) := dk_28 ((dQ_X9_tickleSince_0 3).trans dk_j3)
theorem dX9_tickleSince_4 : decode cX9_tickleSince 4 = .ok (.istore 5, 2) := dk_54 ((dQ_X9_tickleSince_0 4).trans dk_j4) ((dQ_X9_tickleSince_0 5).trans dk_j5) dk_vu1_5
theorem dX9_tickleSince_6 : decode cX9_tickleSince 6 = .ok (.iload 5, 2) := dk_21 ((dQ_X9_tickleSince_0 6).trans dk_j6) ((dQ_X9_tickleSince_0 7).trans dk_j7) dk_vu1_5
theorem dX9_tickleSince_8 : decode cX9_tickleSince 8 = .ok (.iload_n 3, 1) := dk_29 ((dQ_X9_tickleSince_0 8).trans dk_j8)
theorem dX9_tickleSince_9 : decode cX9_tickleSince 9 = .ok (.if_icmp .gt 26, 3) := dk_163 ((dQ_X9_tickleSince_0 9).trans dk_j9) ((dQ_X9_tickleSince_0 10).trans dk_j10) ((dQ_X9_tickleSince_0 11).trans dk_j11) dk_vs2_0_26
theorem dX9_tickleSince_12 : decode cX9_tickleSince 12 = .ok (.iload 4, 2) := dk_21 ((dQ_X9_tickleSince_0 12).trans dk_j12) ((dQ_X9_tickleSince_0 13).trans dk_j13) dk_vu1_4
theorem dX9_tickleSince_14 : decode cX9_tickleSince 14 = .ok (.aload_n 0, 1) := dk_42 ((dQ_X9_tickleSince_0 14).trans dk_j14)
theorem dX9_tickleSince_15 : decode cX9_tickleSince 15 = .ok (.getfield 52, 3) := dk_180 ((dQ_X9_tickleSince_0 15).trans dk_j15) ((dQ_X9_tickleSince_1 0).trans dk_j0) ((dQ_X9_tickleSince_1 1).trans dk_j1) dk_vu2_0_52
theorem dX9_tickleSince_18 : decode cX9_tickleSince 18 = .ok (.bipush 6, 2) := dk_16 ((dQ_X9_tickleSince_1 2).trans dk_j2) ((dQ_X9_tickleSince_1 3).trans dk_j3) dk_vs1_6
theorem dX9_tickleSince_20 : decode cX9_tickleSince 20 = .ok (.iload 5, 2) := dk_21 ((dQ_X9_tickleSince_1 4).trans dk_j4) ((dQ_X9_tickleSince_1 5).trans dk_j5) dk_vu1_5
theorem dX9_tickleSince_22 : decode cX9_tickleSince 22 = .ok (.imul, 1) := dk_104 ((dQ_X9_tickleSince_1 6).trans dk_j6)
theorem dX9_tickleSince_23 : decode cX9_tickleSince 23 = .ok (.iload_n 1, 1) := dk_27 ((dQ_X9_tickleSince_1 7).trans dk_j7)
theorem dX9_tickleSince_24 : decode cX9_tickleSince 24 = .ok (.iadd, 1) := dk_96 ((dQ_X9_tickleSince_1 8).trans dk_j8)
theorem dX9_tickleSince_25 : decode cX9_tickleSince 25 = .ok (.iaload, 1) := dk_46 ((dQ_X9_tickleSince_1 9).trans dk_j9)
theorem dX9_tickleSince_26 : decode cX9_tickleSince 26 = .ok (.iadd, 1) := dk_96 ((dQ_X9_tickleSince_1 10).trans dk_j10)
theorem dX9_tickleSince_27 : decode cX9_tickleSince 27 = .ok (.istore 4, 2) := dk_54 ((dQ_X9_tickleSince_1 11).trans dk_j11) ((dQ_X9_tickleSince_1 12).trans dk_j12) dk_vu1_4
theorem dX9_tickleSince_29 : decode cX9_tickleSince 29 = .ok (.iinc 5 1, 3) := dk_132 ((dQ_X9_tickleSince_1 13).trans dk_j13) ((dQ_X9_tickleSince_1 14).trans dk_j14) ((dQ_X9_tickleSince_1 15).trans dk_j15) dk_vu1_5 dk_vs1_1
theorem dX9_tickleSince_32 : decode cX9_tickleSince 32 = .ok (.goto (-26), 3) := dk_167 ((dQ_X9_tickleSince_2 0).trans dk_j0) ((dQ_X9_tickleSince_2 1).trans dk_j1) ((dQ_X9_tickleSince_2 2).trans dk_j2) dk_vs2_255_230
theorem dX9_tickleSince_35 : decode cX9_tickleSince 35 = .ok (.iload 4, 2) := dk_21 ((dQ_X9_tickleSince_2 3).trans dk_j3) ((dQ_X9_tickleSince_2 4).trans dk_j4) dk_vu1_4
theorem dX9_tickleSince_37 : decode cX9_tickleSince 37 = .ok (.ireturn, 1) := dk_172 ((dQ_X9_tickleSince_2 5).trans dk_j5)
def dT_X9_layHold_13 : List UInt8 := (0xb4 : UInt8) :: (0x00 : UInt8) :: (0x43 : UInt8) :: (0x15 : UInt8) :: (0x05 : UInt8) :: (0x2a : UInt8) :: (0xb4 : UInt8) :: (0x00 : UInt8) :: (0x43 : UInt8) :: (0x15 : UInt8) :: (0x07 : UInt8) :: (0x2e : UInt8) :: (0x4f : UInt8) :: (0xb1 : UInt8) :: []
def dT_X9_layHold_12 : List UInt8 := (0xb1 : UInt8) :: (0x2a : UInt8) :: (0xb4 : UInt8) :: (0x00 : UInt8) :: (0x40 : UInt8) :: (0x15 : UInt8) :: (0x05 : UInt8) :: (0x2a : UInt8) :: (0xb4 : UInt8) :: (0x00 : UInt8) :: (0x40 : UInt8) :: (0x15 : UInt8) :: (0x07 : UInt8) :: (0x2e : UInt8) :: (0x4f : UInt8) :: (0x2a : UInt8) :: dT_X9_layHold_13
def dT_X9_layHold_11 : List UInt8 := (0x2e : UInt8) :: (0xa2 : UInt8) :: (0x00 : UInt8) :: (0x07 : UInt8) :: (0x04 : UInt8) :: (0xa7 : UInt8) :: (0x00 : UInt8) :: (0x04 : UInt8) :: (0x03 : UInt8) :: (0x36 : UInt8) :: (0x08 : UInt8) :: (0x15 : UInt8) :: (0x08 : UInt8) :: (0x9a : UInt8) :: (0x00 : UInt8) :: (0x04 : UInt8) :: dT_X9_layHold_12
def dT_X9_layHold_10 : List UInt8 := (0xa0 : UInt8) :: (0x00 : UInt8) :: (0x18 : UInt8) :: (0x2a : UInt8) :: (0xb4 : UInt8) :: (0x00 : UInt8) :: (0x43 : UInt8) :: (0x15 : UInt8) :: (0x07 : UInt8) :: (0x2e : UInt8) :: (0x2a : UInt8) :: (0xb4 : UInt8) :: (0x00 : UInt8) :: (0x43 : UInt8) :: (0x15 : UInt8) :: (0x05 : UInt8) :: dT_X9_layHold_11
def dT_X9_layHold_9 : List UInt8 := (0x00 : UInt8) :: (0x25 : UInt8) :: (0x2a : UInt8) :: (0xb4 : UInt8) :: (0x00 : UInt8) :: (0x40 : UInt8) :: (0x15 : UInt8) :: (0x07 : UInt8) :: (0x2e : UInt8) :: (0x2a : UInt8) :: (0xb4 : UInt8) :: (0x00 : UInt8) :: (0x40 : UInt8) :: (0x15 : UInt8) :: (0x05 : UInt8) :: (0x2e : UInt8) :: dT_X9_layHold_10
def dT_X9_layHold_8 : List UInt8 := (0x07 : UInt8) :: (0x2a : UInt8) :: (0xb4 : UInt8) :: (0x00 : UInt8) :: (0x40 : UInt8) :: (0x15 : UInt8) :: (0x07 : UInt8) :: (0x2e : UInt8) :: (0x2a : UInt8) :: (0xb4 : UInt8) :: (0x00 : UInt8) :: (0x40 : UInt8) :: (0x15 : UInt8) :: (0x05 : UInt8) :: (0x2e : UInt8) :: (0xa1 : UInt8) :: dT_X9_layHold_9
def dT_X9_layHold_7 : List UInt8 := (0x04 : UInt8) :: (0xa0 : UInt8) :: (0x00 : UInt8) :: (0x04 : UInt8) :: (0xb1 : UInt8) :: (0x10 : UInt8) :: (0x1f : UInt8) :: (0x1d : UInt8) :: (0x04 : UInt8) :: (0x60 : UInt8) :: (0x68 : UInt8) :: (0x1d : UInt8) :: (0x60 : UInt8) :: (0x04 : UInt8) :: (0x60 : UInt8) :: (0x36 : UInt8) :: dT_X9_layHold_8
def dT_X9_layHold_6 : List UInt8 := (0xb4 : UInt8) :: (0x00 : UInt8) :: (0x43 : UInt8) :: (0x15 : UInt8) :: (0x06 : UInt8) :: (0x2e : UInt8) :: (0x04 : UInt8) :: (0x1d : UInt8) :: (0x78 : UInt8) :: (0x80 : UInt8) :: (0x4f : UInt8) :: (0x1c : UInt8) :: (0x1d : UInt8) :: (0xb8 : UInt8) :: (0x00 : UInt8) :: (0xfe : UInt8) :: dT_X9_layHold_7
def dT_X9_layHold_5 : List UInt8 := (0xb4 : UInt8) :: (0x00 : UInt8) :: (0x40 : UInt8) :: (0x15 : UInt8) :: (0x06 : UInt8) :: (0x2e : UInt8) :: (0x04 : UInt8) :: (0x60 : UInt8) :: (0x4f : UInt8) :: (0x2a : UInt8) :: (0xb4 : UInt8) :: (0x00 : UInt8) :: (0x43 : UInt8) :: (0x15 : UInt8) :: (0x05 : UInt8) :: (0x2a : UInt8) :: dT_X9_layHold_6
def dT_X9_layHold_4 : List UInt8 := (0x68 : UInt8) :: (0x60 : UInt8) :: (0x04 : UInt8) :: (0x60 : UInt8) :: (0x2e : UInt8) :: (0xa2 : UInt8) :: (0x00 : UInt8) :: (0x04 : UInt8) :: (0xb1 : UInt8) :: (0x2a : UInt8) :: (0xb4 : UInt8) :: (0x00 : UInt8) :: (0x40 : UInt8) :: (0x15 : UInt8) :: (0x05 : UInt8) :: (0x2a : UInt8) :: dT_X9_layHold_5
def dT_X9_layHold_3 : List UInt8 := (0x2a : UInt8) :: (0x1b : UInt8) :: (0x15 : UInt8) :: (0x04 : UInt8) :: (0x1d : UInt8) :: (0xb6 : UInt8) :: (0x01 : UInt8) :: (0x60 : UInt8) :: (0x2a : UInt8) :: (0xb4 : UInt8) :: (0x00 : UInt8) :: (0x09 : UInt8) :: (0x10 : UInt8) :: (0x0b : UInt8) :: (0x05 : UInt8) :: (0x1b : UInt8) :: dT_X9_layHold_4
def dT_X9_layHold_2 : List UInt8 := (0x2e : UInt8) :: (0x4f : UInt8) :: (0x2a : UInt8) :: (0xb4 : UInt8) :: (0x00 : UInt8) :: (0x43 : UInt8) :: (0x15 : UInt8) :: (0x05 : UInt8) :: (0x2a : UInt8) :: (0xb4 : UInt8) :: (0x00 : UInt8) :: (0x43 : UInt8) :: (0x15 : UInt8) :: (0x06 : UInt8) :: (0x2e : UInt8) :: (0x4f : UInt8) :: dT_X9_layHold_3
def dT_X9_layHold_1 : List UInt8 := (0x04 : UInt8) :: (0x60 : UInt8) :: (0x36 : UInt8) :: (0x06 : UInt8) :: (0x2a : UInt8) :: (0xb4 : UInt8) :: (0x00 : UInt8) :: (0x40 : UInt8) :: (0x15 : UInt8) :: (0x05 : UInt8) :: (0x2a : UInt8) :: (0xb4 : UInt8) :: (0x00 : UInt8) :: (0x40 : UInt8) :: (0x15 : UInt8) :: (0x06 : UInt8) :: dT_X9_layHold_2
def dT_X9_layHold_0 : List UInt8 := (0x10 : UInt8) :: (0x1f : UInt8) :: (0x1d : UInt8) :: (0x68 : UInt8) :: (0x15 : UInt8) :: (0x04 : UInt8) :: (0x60 : UInt8) :: (0x36 : UInt8) :: (0x05 : UInt8) :: (0x10 : UInt8) :: (0x1f : UInt8) :: (0x1d : UInt8) :: (0x04 : UInt8) :: (0x60 : UInt8) :: (0x68 : UInt8) :: (0x15 : UInt8) :: dT_X9_layHold_1
theorem dT_X9_layHold : cX9_layHold.data.toList = dT_X9_layHold_0 := eq_of_beq (show (cX9_layHold.data.toList == dT_X9_layHold_0) = true by decide +kernel)
theorem dQ_X9_layHold_0 : dQ_P cX9_layHold 0 dT_X9_layHold_0 := fun i => by rw [dT_X9_layHold]; rfl
theorem dQ_X9_layHold_1 : dQ_P cX9_layHold 16 dT_X9_layHold_1 := fun i => (dQ_X9_layHold_0 (i + 16)).trans dk_t
theorem dQ_X9_layHold_2 : dQ_P cX9_layHold 32 dT_X9_layHold_2 := fun i => (dQ_X9_layHold_1 (i + 16)).trans dk_t
theorem dQ_X9_layHold_3 : dQ_P cX9_layHold 48 dT_X9_layHold_3 := fun i => (dQ_X9_layHold_2 (i + 16)).trans dk_t
theorem dQ_X9_layHold_4 : dQ_P cX9_layHold 64 dT_X9_layHold_4 := fun i => (dQ_X9_layHold_3 (i + 16)).trans dk_t
theorem dQ_X9_layHold_5 : dQ_P cX9_layHold 80 dT_X9_layHold_5 := fun i => (dQ_X9_layHold_4 (i + 16)).trans dk_t
theorem dQ_X9_layHold_6 : dQ_P cX9_layHold 96 dT_X9_layHold_6 := fun i => (dQ_X9_layHold_5 (i + 16)).trans dk_t
theorem dQ_X9_layHold_7 : dQ_P cX9_layHold 112 dT_X9_layHold_7 := fun i => (dQ_X9_layHold_6 (i + 16)).trans dk_t
theorem dQ_X9_layHold_8 : dQ_P cX9_layHold 128 dT_X9_layHold_8 := fun i => (dQ_X9_layHold_7 (i + 16)).trans dk_t
theorem dQ_X9_layHold_9 : dQ_P cX9_layHold 144 dT_X9_layHold_9 := fun i => (dQ_X9_layHold_8 (i + 16)).trans dk_t
theorem dQ_X9_layHold_10 : dQ_P cX9_layHold 160 dT_X9_layHold_10 := fun i => (dQ_X9_layHold_9 (i + 16)).trans dk_t
theorem dQ_X9_layHold_11 : dQ_P cX9_layHold 176 dT_X9_layHold_11 := fun i => (dQ_X9_layHold_10 (i + 16)).trans dk_t
theorem dQ_X9_layHold_12 : dQ_P cX9_layHold 192 dT_X9_layHold_12 := fun i => (dQ_X9_layHold_11 (i + 16)).trans dk_t
theorem dQ_X9_layHold_13 : dQ_P cX9_layHold 208 dT_X9_layHold_13 := fun i => (dQ_X9_layHold_12 (i + 16)).trans dk_t
theorem dk_vs1_31 : Reader.signed 8 (0x1f : UInt8).toNat = (31 : Int) := by decide +kernel
theorem dX9_layHold_0 : decode cX9_layHold 0 = .ok (.bipush 31, 2) := dk_16 ((dQ_X9_layHold_0 0).trans dk_j0) ((dQ_X9_layHold_0 1).trans dk_j1) dk_vs1_31
theorem dX9_layHold_2 : decode cX9_layHold 2 = .ok (.iload_n 3, 1) := dk_29 ((dQ_X9_layHold_0 2).trans dk_j2)
theorem dX9_layHold_3 : decode cX9_layHold 3 = .ok (.imul, 1) := dk_104 ((dQ_X9_layHold_0 3).trans dk_j3)
theorem dX9_layHold_4 : decode cX9_layHold 4 = .ok (.iload 4, 2) := dk_21 ((dQ_X9_layHold_0 4).trans dk_j4) ((dQ_X9_layHold_0 5).trans dk_j5) dk_vu1_4
theorem dX9_layHold_6 : decode cX9_layHold 6 = .ok (.iadd, 1) := dk_96 ((dQ_X9_layHold_0 6).trans dk_j6)
theorem dX9_layHold_7 : decode cX9_layHold 7 = .ok (.istore 5, 2) := dk_54 ((dQ_X9_layHold_0 7).trans dk_j7) ((dQ_X9_layHold_0 8).trans dk_j8) dk_vu1_5
theorem dX9_layHold_9 : decode cX9_layHold 9 = .ok (.bipush 31, 2) := dk_16 ((dQ_X9_layHold_0 9).trans dk_j9) ((dQ_X9_layHold_0 10).trans dk_j10) dk_vs1_31
theorem dX9_layHold_11 : decode cX9_layHold 11 = .ok (.iload_n 3, 1) := dk_29 ((dQ_X9_layHold_0 11).trans dk_j11)
theorem dX9_layHold_12 : decode cX9_layHold 12 = .ok (.iconst 1, 1) := dk_4 ((dQ_X9_layHold_0 12).trans dk_j12)
theorem dX9_layHold_13 : decode cX9_layHold 13 = .ok (.iadd, 1) := dk_96 ((dQ_X9_layHold_0 13).trans dk_j13)
theorem dX9_layHold_14 : decode cX9_layHold 14 = .ok (.imul, 1) := dk_104 ((dQ_X9_layHold_0 14).trans dk_j14)
theorem dX9_layHold_15 : decode cX9_layHold 15 = .ok (.iload 4, 2) := dk_21 ((dQ_X9_layHold_0 15).trans dk_j15) ((dQ_X9_layHold_1 0).trans dk_j0) dk_vu1_4
theorem dX9_layHold_17 : decode cX9_layHold 17 = .ok (.iadd, 1) := dk_96 ((dQ_X9_layHold_1 1).trans dk_j1)
theorem dX9_layHold_18 : decode cX9_layHold 18 = .ok (.istore 6, 2) := dk_54 ((dQ_X9_layHold_1 2).trans dk_j2) ((dQ_X9_layHold_1 3).trans dk_j3) dk_vu1_6
theorem dX9_layHold_20 : decode cX9_layHold 20 = .ok (.aload_n 0, 1) := dk_42 ((dQ_X9_layHold_1 4).trans dk_j4)
theorem dX9_layHold_21 : decode cX9_layHold 21 = .ok (.getfield 64, 3) := dk_180 ((dQ_X9_layHold_1 5).trans dk_j5) ((dQ_X9_layHold_1 6).trans dk_j6) ((dQ_X9_layHold_1 7).trans dk_j7) dk_vu2_0_64
theorem dX9_layHold_24 : decode cX9_layHold 24 = .ok (.iload 5, 2) := dk_21 ((dQ_X9_layHold_1 8).trans dk_j8) ((dQ_X9_layHold_1 9).trans dk_j9) dk_vu1_5
theorem dX9_layHold_26 : decode cX9_layHold 26 = .ok (.aload_n 0, 1) := dk_42 ((dQ_X9_layHold_1 10).trans dk_j10)
theorem dX9_layHold_27 : decode cX9_layHold 27 = .ok (.getfield 64, 3) := dk_180 ((dQ_X9_layHold_1 11).trans dk_j11) ((dQ_X9_layHold_1 12).trans dk_j12) ((dQ_X9_layHold_1 13).trans dk_j13) dk_vu2_0_64
theorem dX9_layHold_30 : decode cX9_layHold 30 = .ok (.iload 6, 2) := dk_21 ((dQ_X9_layHold_1 14).trans dk_j14) ((dQ_X9_layHold_1 15).trans dk_j15) dk_vu1_6
theorem dX9_layHold_32 : decode cX9_layHold 32 = .ok (.iaload, 1) := dk_46 ((dQ_X9_layHold_2 0).trans dk_j0)
theorem dX9_layHold_33 : decode cX9_layHold 33 = .ok (.iastore, 1) := dk_79 ((dQ_X9_layHold_2 1).trans dk_j1)
theorem dX9_layHold_34 : decode cX9_layHold 34 = .ok (.aload_n 0, 1) := dk_42 ((dQ_X9_layHold_2 2).trans dk_j2)
theorem dX9_layHold_35 : decode cX9_layHold 35 = .ok (.getfield 67, 3) := dk_180 ((dQ_X9_layHold_2 3).trans dk_j3) ((dQ_X9_layHold_2 4).trans dk_j4) ((dQ_X9_layHold_2 5).trans dk_j5) dk_vu2_0_67
theorem dX9_layHold_38 : decode cX9_layHold 38 = .ok (.iload 5, 2) := dk_21 ((dQ_X9_layHold_2 6).trans dk_j6) ((dQ_X9_layHold_2 7).trans dk_j7) dk_vu1_5
theorem dX9_layHold_40 : decode cX9_layHold 40 = .ok (.aload_n 0, 1) := dk_42 ((dQ_X9_layHold_2 8).trans dk_j8)
theorem dX9_layHold_41 : decode cX9_layHold 41 = .ok (.getfield 67, 3) := dk_180 ((dQ_X9_layHold_2 9).trans dk_j9) ((dQ_X9_layHold_2 10).trans dk_j10) ((dQ_X9_layHold_2 11).trans dk_j11) dk_vu2_0_67
theorem dX9_layHold_44 : decode cX9_layHold 44 = .ok (.iload 6, 2) := dk_21 ((dQ_X9_layHold_2 12).trans dk_j12) ((dQ_X9_layHold_2 13).trans dk_j13) dk_vu1_6
theorem dX9_layHold_46 : decode cX9_layHold 46 = .ok (.iaload, 1) := dk_46 ((dQ_X9_layHold_2 14).trans dk_j14)
theorem dX9_layHold_47 : decode cX9_layHold 47 = .ok (.iastore, 1) := dk_79 ((dQ_X9_layHold_2 15).trans dk_j15)
theorem dX9_layHold_48 : decode cX9_layHold 48 = .ok (.aload_n 0, 1) := dk_42 ((dQ_X9_layHold_3 0).trans dk_j0)
theorem dX9_layHold_49 : decode cX9_layHold 49 = .ok (.iload_n 1, 1) := dk_27 ((dQ_X9_layHold_3 1).trans dk_j1)
theorem dX9_layHold_50 : decode cX9_layHold 50 = .ok (.iload 4, 2) := dk_21 ((dQ_X9_layHold_3 2).trans dk_j2) ((dQ_X9_layHold_3 3).trans dk_j3) dk_vu1_4
theorem dX9_layHold_52 : decode cX9_layHold 52 = .ok (.iload_n 3, 1) := dk_29 ((dQ_X9_layHold_3 4).trans dk_j4)
theorem dk_vu2_1_96 : (0x01 : UInt8).toNat * 256 + (0x60 : UInt8).toNat = (352 : Nat) := by decide +kernel
theorem dX9_layHold_53 : decode cX9_layHold 53 = .ok (.invokevirtual 352, 3) := dk_182 ((dQ_X9_layHold_3 5).trans dk_j5) ((dQ_X9_layHold_3 6).trans dk_j6) ((dQ_X9_layHold_3 7).trans dk_j7) dk_vu2_1_96
theorem dX9_layHold_56 : decode cX9_layHold 56 = .ok (.aload_n 0, 1) := dk_42 ((dQ_X9_layHold_3 8).trans dk_j8)
theorem dX9_layHold_57 : decode cX9_layHold 57 = .ok (.getfield 9, 3) := dk_180 ((dQ_X9_layHold_3 9).trans dk_j9) ((dQ_X9_layHold_3 10).trans dk_j10) ((dQ_X9_layHold_3 11).trans dk_j11) dk_vu2_0_9
theorem dX9_layHold_60 : decode cX9_layHold 60 = .ok (.bipush 11, 2) := dk_16 ((dQ_X9_layHold_3 12).trans dk_j12) ((dQ_X9_layHold_3 13).trans dk_j13) dk_vs1_11
theorem dX9_layHold_62 : decode cX9_layHold 62 = .ok (.iconst 2, 1) := dk_5 ((dQ_X9_layHold_3 14).trans dk_j14)
theorem dX9_layHold_63 : decode cX9_layHold 63 = .ok (.iload_n 1, 1) := dk_27 ((dQ_X9_layHold_3 15).trans dk_j15)
theorem dX9_layHold_64 : decode cX9_layHold 64 = .ok (.imul, 1) := dk_104 ((dQ_X9_layHold_4 0).trans dk_j0)
theorem dX9_layHold_65 : decode cX9_layHold 65 = .ok (.iadd, 1) := dk_96 ((dQ_X9_layHold_4 1).trans dk_j1)
theorem dX9_layHold_66 : decode cX9_layHold 66 = .ok (.iconst 1, 1) := dk_4 ((dQ_X9_layHold_4 2).trans dk_j2)
theorem dX9_layHold_67 : decode cX9_layHold 67 = .ok (.iadd, 1) := dk_96 ((dQ_X9_layHold_4 3).trans dk_j3)
theorem dX9_layHold_68 : decode cX9_layHold 68 = .ok (.iaload, 1) := dk_46 ((dQ_X9_layHold_4 4).trans dk_j4)
theorem dX9_layHold_69 : decode cX9_layHold 69 = .ok (.if_icmp .ge 4, 3) := dk_162 ((dQ_X9_layHold_4 5).trans dk_j5) ((dQ_X9_layHold_4 6).trans dk_j6) ((dQ_X9_layHold_4 7).trans dk_j7) dk_vs2_0_4
theorem dX9_layHold_72 : decode cX9_layHold 72 = .ok (.return_, 1) := dk_177 ((dQ_X9_layHold_4 8).trans dk_j8)
theorem dX9_layHold_73 : decode cX9_layHold 73 = .ok (.aload_n 0, 1) := dk_42 ((dQ_X9_layHold_4 9).trans dk_j9)
theorem dX9_layHold_74 : decode cX9_layHold 74 = .ok (.getfield 64, 3) := dk_180 ((dQ_X9_layHold_4 10).trans dk_j10) ((dQ_X9_layHold_4 11).trans dk_j11) ((dQ_X9_layHold_4 12).trans dk_j12) dk_vu2_0_64
theorem dX9_layHold_77 : decode cX9_layHold 77 = .ok (.iload 5, 2) := dk_21 ((dQ_X9_layHold_4 13).trans dk_j13) ((dQ_X9_layHold_4 14).trans dk_j14) dk_vu1_5
theorem dX9_layHold_79 : decode cX9_layHold 79 = .ok (.aload_n 0, 1) := dk_42 ((dQ_X9_layHold_4 15).trans dk_j15)
theorem dX9_layHold_80 : decode cX9_layHold 80 = .ok (.getfield 64, 3) := dk_180 ((dQ_X9_layHold_5 0).trans dk_j0) ((dQ_X9_layHold_5 1).trans dk_j1) ((dQ_X9_layHold_5 2).trans dk_j2) dk_vu2_0_64
theorem dX9_layHold_83 : decode cX9_layHold 83 = .ok (.iload 6, 2) := dk_21 ((dQ_X9_layHold_5 3).trans dk_j3) ((dQ_X9_layHold_5 4).trans dk_j4) dk_vu1_6
theorem dX9_layHold_85 : decode cX9_layHold 85 = .ok (.iaload, 1) := dk_46 ((dQ_X9_layHold_5 5).trans dk_j5)
theorem dX9_layHold_86 : decode cX9_layHold 86 = .ok (.iconst 1, 1) := dk_4 ((dQ_X9_layHold_5 6).trans dk_j6)
theorem dX9_layHold_87 : decode cX9_layHold 87 = .ok (.iadd, 1) := dk_96 ((dQ_X9_layHold_5 7).trans dk_j7)
theorem dX9_layHold_88 : decode cX9_layHold 88 = .ok (.iastore, 1) := dk_79 ((dQ_X9_layHold_5 8).trans dk_j8)
theorem dX9_layHold_89 : decode cX9_layHold 89 = .ok (.aload_n 0, 1) := dk_42 ((dQ_X9_layHold_5 9).trans dk_j9)
theorem dX9_layHold_90 : decode cX9_layHold 90 = .ok (.getfield 67, 3) := dk_180 ((dQ_X9_layHold_5 10).trans dk_j10) ((dQ_X9_layHold_5 11).trans dk_j11) ((dQ_X9_layHold_5 12).trans dk_j12) dk_vu2_0_67
theorem dX9_layHold_93 : decode cX9_layHold 93 = .ok (.iload 5, 2) := dk_21 ((dQ_X9_layHold_5 13).trans dk_j13) ((dQ_X9_layHold_5 14).trans dk_j14) dk_vu1_5
theorem dX9_layHold_95 : decode cX9_layHold 95 = .ok (.aload_n 0, 1) := dk_42 ((dQ_X9_layHold_5 15).trans dk_j15)
theorem dX9_layHold_96 : decode cX9_layHold 96 = .ok (.getfield 67, 3) := dk_180 ((dQ_X9_layHold_6 0).trans dk_j0) ((dQ_X9_layHold_6 1).trans dk_j1) ((dQ_X9_layHold_6 2).trans dk_j2) dk_vu2_0_67
theorem dX9_layHold_99 : decode cX9_layHold 99 = .ok (.iload 6, 2) := dk_21 ((dQ_X9_layHold_6 3).trans dk_j3) ((dQ_X9_layHold_6 4).trans dk_j4) dk_vu1_6
theorem dX9_layHold_101 : decode cX9_layHold 101 = .ok (.iaload, 1) := dk_46 ((dQ_X9_layHold_6 5).trans dk_j5)
theorem dX9_layHold_102 : decode cX9_layHold 102 = .ok (.iconst 1, 1) := dk_4 ((dQ_X9_layHold_6 6).trans dk_j6)
theorem dX9_layHold_103 : decode cX9_layHold 103 = .ok (.iload_n 3, 1) := dk_29 ((dQ_X9_layHold_6 7).trans dk_j7)
theorem dX9_layHold_104 : decode cX9_layHold 104 = .ok (.ishl, 1) := dk_120 ((dQ_X9_layHold_6 8).trans dk_j8)
theorem dX9_layHold_105 : decode cX9_layHold 105 = .ok (.ior, 1) := dk_128 ((dQ_X9_layHold_6 9).trans dk_j9)
theorem dX9_layHold_106 : decode cX9_layHold 106 = .ok (.iastore, 1) := dk_79 ((dQ_X9_layHold_6 10).trans dk_j10)
theorem dX9_layHold_107 : decode cX9_layHold 107 = .ok (.iload_n 2, 1) := dk_28 ((dQ_X9_layHold_6 11).trans dk_j11)
theorem dX9_layHold_108 : decode cX9_layHold 108 = .ok (.iload_n 3, 1) := dk_29 ((dQ_X9_layHold_6 12).trans dk_j12)
theorem dX9_layHold_109 : decode cX9_layHold 109 = .ok (.invokestatic 254, 3) := dk_184 ((dQ_X9_layHold_6 13).trans dk_j13) ((dQ_X9_layHold_6 14).trans dk_j14) ((dQ_X9_layHold_6 15).trans dk_j15) dk_vu2_0_254
theorem dX9_layHold_112 : decode cX9_layHold 112 = .ok (.iconst 1, 1) := dk_4 ((dQ_X9_layHold_7 0).trans dk_j0)
theorem dX9_layHold_113 : decode cX9_layHold 113 = .ok (.if_icmp .ne 4, 3) := dk_160 ((dQ_X9_layHold_7 1).trans dk_j1) ((dQ_X9_layHold_7 2).trans dk_j2) ((dQ_X9_layHold_7 3).trans dk_j3) dk_vs2_0_4
theorem dX9_layHold_116 : decode cX9_layHold 116 = .ok (.return_, 1) := dk_177 ((dQ_X9_layHold_7 4).trans dk_j4)
theorem dX9_layHold_117 : decode cX9_layHold 117 = .ok (.bipush 31, 2) := dk_16 ((dQ_X9_layHold_7 5).trans dk_j5) ((dQ_X9_layHold_7 6).trans dk_j6) dk_vs1_31
theorem dX9_layHold_119 : decode cX9_layHold 119 = .ok (.iload_n 3, 1) := dk_29 ((dQ_X9_layHold_7 7).trans dk_j7)
theorem dX9_layHold_120 : decode cX9_layHold 120 = .ok (.iconst 1, 1) := dk_4 ((dQ_X9_layHold_7 8).trans dk_j8)
theorem dX9_layHold_121 : decode cX9_layHold 121 = .ok (.iadd, 1) := dk_96 ((dQ_X9_layHold_7 9).trans dk_j9)
theorem dX9_layHold_122 : decode cX9_layHold 122 = .ok (.imul, 1) := dk_104 ((dQ_X9_layHold_7 10).trans dk_j10)
theorem dX9_layHold_123 : decode cX9_layHold 123 = .ok (.iload_n 3, 1) := dk_29 ((dQ_X9_layHold_7 11).trans dk_j11)
theorem dX9_layHold_124 : decode cX9_layHold 124 = .ok (.iadd, 1) := dk_96 ((dQ_X9_layHold_7 12).trans dk_j12)
theorem dX9_layHold_125 : decode cX9_layHold 125 = .ok (.iconst 1, 1) := dk_4 ((dQ_X9_layHold_7 13).trans dk_j13)
theorem dX9_layHold_126 : decode cX9_layHold 126 = .ok (.iadd, 1) := dk_96 ((dQ_X9_layHold_7 14).trans dk_j14)
theorem dX9_layHold_127 : decode cX9_layHold 127 = .ok (.istore 7, 2) := dk_54 ((dQ_X9_layHold_7 15).trans dk_j15) ((dQ_X9_layHold_8 0).trans dk_j0) dk_vu1_7
theorem dX9_layHold_129 : decode cX9_layHold 129 = .ok (.aload_n 0, 1) := dk_42 ((dQ_X9_layHold_8 1).trans dk_j1)
theorem dX9_layHold_130 : decode cX9_layHold 130 = .ok (.getfield 64, 3) := dk_180 ((dQ_X9_layHold_8 2).trans dk_j2) ((dQ_X9_layHold_8 3).trans dk_j3) ((dQ_X9_layHold_8 4).trans dk_j4) dk_vu2_0_64
theorem dX9_layHold_133 : decode cX9_layHold 133 = .ok (.iload 7, 2) := dk_21 ((dQ_X9_layHold_8 5).trans dk_j5) ((dQ_X9_layHold_8 6).trans dk_j6) dk_vu1_7
theorem dX9_layHold_135 : decode cX9_layHold 135 = .ok (.iaload, 1) := dk_46 ((dQ_X9_layHold_8 7).trans dk_j7)
theorem dX9_layHold_136 : decode cX9_layHold 136 = .ok (.aload_n 0, 1) := dk_42 ((dQ_X9_layHold_8 8).trans dk_j8)
theorem dX9_layHold_137 : decode cX9_layHold 137 = .ok (.getfield 64, 3) := dk_180 ((dQ_X9_layHold_8 9).trans dk_j9) ((dQ_X9_layHold_8 10).trans dk_j10) ((dQ_X9_layHold_8 11).trans dk_j11) dk_vu2_0_64
theorem dX9_layHold_140 : decode cX9_layHold 140 = .ok (.iload 5, 2) := dk_21 ((dQ_X9_layHold_8 12).trans dk_j12) ((dQ_X9_layHold_8 13).trans dk_j13) dk_vu1_5
theorem dX9_layHold_142 : decode cX9_layHold 142 = .ok (.iaload, 1) := dk_46 ((dQ_X9_layHold_8 14).trans dk_j14)
theorem dX9_layHold_143 : decode cX9_layHold 143 = .ok (.if_icmp .lt 37, 3) := dk_161 ((dQ_X9_layHold_8 15).trans dk_j15) ((dQ_X9_layHold_9 0).trans dk_j0) ((dQ_X9_layHold_9 1).trans dk_j1) dk_vs2_0_37
theorem dX9_layHold_146 : decode cX9_layHold 146 = .ok (.aload_n 0, 1) := dk_42 ((dQ_X9_layHold_9 2).trans dk_j2)
theorem dX9_layHold_147 : decode cX9_layHold 147 = .ok (.getfield 64, 3) := dk_180 ((dQ_X9_layHold_9 3).trans dk_j3) ((dQ_X9_layHold_9 4).trans dk_j4) ((dQ_X9_layHold_9 5).trans dk_j5) dk_vu2_0_64
theorem dX9_layHold_150 : decode cX9_layHold 150 = .ok (.iload 7, 2) := dk_21 ((dQ_X9_layHold_9 6).trans dk_j6) ((dQ_X9_layHold_9 7).trans dk_j7) dk_vu1_7
theorem dX9_layHold_152 : decode cX9_layHold 152 = .ok (.iaload, 1) := dk_46 ((dQ_X9_layHold_9 8).trans dk_j8)
theorem dX9_layHold_153 : decode cX9_layHold 153 = .ok (.aload_n 0, 1) := dk_42 ((dQ_X9_layHold_9 9).trans dk_j9)
theorem dX9_layHold_154 : decode cX9_layHold 154 = .ok (.getfield 64, 3) := dk_180 ((dQ_X9_layHold_9 10).trans dk_j10) ((dQ_X9_layHold_9 11).trans dk_j11) ((dQ_X9_layHold_9 12).trans dk_j12) dk_vu2_0_64
theorem dX9_layHold_157 : decode cX9_layHold 157 = .ok (.iload 5, 2) := dk_21 ((dQ_X9_layHold_9 13).trans dk_j13) ((dQ_X9_layHold_9 14).trans dk_j14) dk_vu1_5
theorem dX9_layHold_159 : decode cX9_layHold 159 = .ok (.iaload, 1) := dk_46 ((dQ_X9_layHold_9 15).trans dk_j15)
theorem dX9_layHold_160 : decode cX9_layHold 160 = .ok (.if_icmp .ne 24, 3) := dk_160 ((dQ_X9_layHold_10 0).trans dk_j0) ((dQ_X9_layHold_10 1).trans dk_j1) ((dQ_X9_layHold_10 2).trans dk_j2) dk_vs2_0_24
theorem dX9_layHold_163 : decode cX9_layHold 163 = .ok (.aload_n 0, 1) := dk_42 ((dQ_X9_layHold_10 3).trans dk_j3)
theorem dX9_layHold_164 : decode cX9_layHold 164 = .ok (.getfield 67, 3) := dk_180 ((dQ_X9_layHold_10 4).trans dk_j4) ((dQ_X9_layHold_10 5).trans dk_j5) ((dQ_X9_layHold_10 6).trans dk_j6) dk_vu2_0_67
theorem dX9_layHold_167 : decode cX9_layHold 167 = .ok (.iload 7, 2) := dk_21 ((dQ_X9_layHold_10 7).trans dk_j7) ((dQ_X9_layHold_10 8).trans dk_j8) dk_vu1_7
theorem dX9_layHold_169 : decode cX9_layHold 169 = .ok (.iaload, 1) := dk_46 ((dQ_X9_layHold_10 9).trans dk_j9)
theorem dX9_layHold_170 : decode cX9_layHold 170 = .ok (.aload_n 0, 1) := dk_42 ((dQ_X9_layHold_10 10).trans dk_j10)
theorem dX9_layHold_171 : decode cX9_layHold 171 = .ok (.getfield 67, 3) := dk_180 ((dQ_X9_layHold_10 11).trans dk_j11) ((dQ_X9_layHold_10 12).trans dk_j12) ((dQ_X9_layHold_10 13).trans dk_j13) dk_vu2_0_67
theorem dX9_layHold_174 : decode cX9_layHold 174 = .ok (.iload 5, 2) := dk_21 ((dQ_X9_layHold_10 14).trans dk_j14) ((dQ_X9_layHold_10 15).trans dk_j15) dk_vu1_5
theorem dX9_layHold_176 : decode cX9_layHold 176 = .ok (.iaload, 1) := dk_46 ((dQ_X9_layHold_11 0).trans dk_j0)
theorem dX9_layHold_177 : decode cX9_layHold 177 = .ok (.if_icmp .ge 7, 3) := dk_162 ((dQ_X9_layHold_11 1).trans dk_j1) ((dQ_X9_layHold_11 2).trans dk_j2) ((dQ_X9_layHold_11 3).trans dk_j3) dk_vs2_0_7
theorem dX9_layHold_180 : decode cX9_layHold 180 = .ok (.iconst 1, 1) := dk_4 ((dQ_X9_layHold_11 4).trans dk_j4)
theorem dX9_layHold_181 : decode cX9_layHold 181 = .ok (.goto 4, 3) := dk_167 ((dQ_X9_layHold_11 5).trans dk_j5) ((dQ_X9_layHold_11 6).trans dk_j6) ((dQ_X9_layHold_11 7).trans dk_j7) dk_vs2_0_4
theorem dX9_layHold_184 : decode cX9_layHold 184 = .ok (.iconst 0, 1) := dk_3 ((dQ_X9_layHold_11 8).trans dk_j8)
theorem dX9_layHold_185 : decode cX9_layHold 185 = .ok (.istore 8, 2) := dk_54 ((dQ_X9_layHold_11 9).trans dk_j9) ((dQ_X9_layHold_11 10).trans dk_j10) dk_vu1_8
theorem dX9_layHold_187 : decode cX9_layHold 187 = .ok (.iload 8, 2) := dk_21 ((dQ_X9_layHold_11 11).trans dk_j11) ((dQ_X9_layHold_11 12).trans dk_j12) dk_vu1_8
theorem dX9_layHold_189 : decode cX9_layHold 189 = .ok (.ifCond .ne 4, 3) := dk_154 ((dQ_X9_layHold_11 13).trans dk_j13) ((dQ_X9_layHold_11 14).trans dk_j14) ((dQ_X9_layHold_11 15).trans dk_j15) dk_vs2_0_4
theorem dX9_layHold_192 : decode cX9_layHold 192 = .ok (.return_, 1) := dk_177 ((dQ_X9_layHold_12 0).trans dk_j0)
theorem dX9_layHold_193 : decode cX9_layHold 193 = .ok (.aload_n 0, 1) := dk_42 ((dQ_X9_layHold_12 1).trans dk_j1)
theorem dX9_layHold_194 : decode cX9_layHold 194 = .ok (.getfield 64, 3) := dk_180 ((dQ_X9_layHold_12 2).trans dk_j2) ((dQ_X9_layHold_12 3).trans dk_j3) ((dQ_X9_layHold_12 4).trans dk_j4) dk_vu2_0_64
theorem dX9_layHold_197 : decode cX9_layHold 197 = .ok (.iload 5, 2) := dk_21 ((dQ_X9_layHold_12 5).trans dk_j5) ((dQ_X9_layHold_12 6).trans dk_j6) dk_vu1_5
theorem dX9_layHold_199 : decode cX9_layHold 199 = .ok (.aload_n 0, 1) := dk_42 ((dQ_X9_layHold_12 7).trans dk_j7)
theorem dX9_layHold_200 : decode cX9_layHold 200 = .ok (.getfield 64, 3) := dk_180 ((dQ_X9_layHold_12 8).trans dk_j8) ((dQ_X9_layHold_12 9).trans dk_j9) ((dQ_X9_layHold_12 10).trans dk_j10) dk_vu2_0_64
theorem dX9_layHold_203 : decode cX9_layHold 203 = .ok (.iload 7, 2) := dk_21 ((dQ_X9_layHold_12 11).trans dk_j11) ((dQ_X9_layHold_12 12).trans dk_j12) dk_vu1_7
theorem dX9_layHold_205 : decode cX9_layHold 205 = .ok (.iaload, 1) := dk_46 ((dQ_X9_layHold_12 13).trans dk_j13)
theorem dX9_layHold_206 : decode cX9_layHold 206 = .ok (.iastore, 1) := dk_79 ((dQ_X9_layHold_12 14).trans dk_j14)
theorem dX9_layHold_207 : decode cX9_layHold 207 = .ok (.aload_n 0, 1) := dk_42 ((dQ_X9_layHold_12 15).trans dk_j15)
theorem dX9_layHold_208 : decode cX9_layHold 208 = .ok (.getfield 67, 3) := dk_180 ((dQ_X9_layHold_13 0).trans dk_j0) ((dQ_X9_layHold_13 1).trans dk_j1) ((dQ_X9_layHold_13 2).trans dk_j2) dk_vu2_0_67
theorem dX9_layHold_211 : decode cX9_layHold 211 = .ok (.iload 5, 2) := dk_21 ((dQ_X9_layHold_13 3).trans dk_j3) ((dQ_X9_layHold_13 4).trans dk_j4) dk_vu1_5
theorem dX9_layHold_213 : decode cX9_layHold 213 = .ok (.aload_n 0, 1) := dk_42 ((dQ_X9_layHold_13 5).trans dk_j5)
theorem dX9_layHold_214 : decode cX9_layHold 214 = .ok (.getfield 67, 3) := dk_180 ((dQ_X9_layHold_13 6).trans dk_j6) ((dQ_X9_layHold_13 7).trans dk_j7) ((dQ_X9_layHold_13 8).trans dk_j8) dk_vu2_0_67
theorem dX9_layHold_217 : decode cX9_layHold 217 = .ok (.iload 7, 2) := dk_21 ((dQ_X9_layHold_13 9).trans dk_j9) ((dQ_X9_layHold_13 10).trans dk_j10) dk_vu1_7
theorem dX9_layHold_219 : decode cX9_layHold 219 = .ok (.iaload, 1) := dk_46 ((dQ_X9_layHold_13 11).trans dk_j11)
theorem dX9_layHold_220 : decode cX9_layHold 220 = .ok (.iastore, 1) := dk_79 ((dQ_X9_layHold_13 12).trans dk_j12)
theorem dX9_layHold_221 : decode cX9_layHold 221 = .ok (.return_, 1) := dk_177 ((dQ_X9_layHold_13 13).trans dk_j13)
def dT_X9_layHolds_6 : List UInt8 := (0x02 : UInt8) :: (0xff : UInt8) :: (0xa7 : UInt8) :: (0xff : UInt8) :: (0xdb : UInt8) :: (0x04 : UInt8) :: (0xac : UInt8) :: []
def dT_X9_layHolds_5 : List UInt8 := (0x1b : UInt8) :: (0xb6 : UInt8) :: (0x01 : UInt8) :: (0x30 : UInt8) :: (0x1c : UInt8) :: (0x1d : UInt8) :: (0xb6 : UInt8) :: (0x01 : UInt8) :: (0x63 : UInt8) :: (0x84 : UInt8) :: (0x03 : UInt8) :: (0x01 : UInt8) :: (0xa7 : UInt8) :: (0xff : UInt8) :: (0xe7 : UInt8) :: (0x84 : UInt8) :: dT_X9_layHolds_6
def dT_X9_layHolds_4 : List UInt8 := (0x27 : UInt8) :: (0x03 : UInt8) :: (0x3e : UInt8) :: (0x1d : UInt8) :: (0x1c : UInt8) :: (0xa3 : UInt8) :: (0x00 : UInt8) :: (0x1a : UInt8) :: (0x2a : UInt8) :: (0x2a : UInt8) :: (0x1b : UInt8) :: (0x03 : UInt8) :: (0xb6 : UInt8) :: (0x00 : UInt8) :: (0xea : UInt8) :: (0x2a : UInt8) :: dT_X9_layHolds_5
def dT_X9_layHolds_3 : List UInt8 := (0x84 : UInt8) :: (0x02 : UInt8) :: (0x01 : UInt8) :: (0xa7 : UInt8) :: (0xff : UInt8) :: (0xd9 : UInt8) :: (0x2a : UInt8) :: (0xb6 : UInt8) :: (0x00 : UInt8) :: (0xf9 : UInt8) :: (0x04 : UInt8) :: (0x64 : UInt8) :: (0x3d : UInt8) :: (0x1c : UInt8) :: (0x9b : UInt8) :: (0x00 : UInt8) :: dT_X9_layHolds_4
def dT_X9_layHolds_2 : List UInt8 := (0x4f : UInt8) :: (0x2a : UInt8) :: (0xb4 : UInt8) :: (0x00 : UInt8) :: (0x43 : UInt8) :: (0x10 : UInt8) :: (0x1f : UInt8) :: (0x2a : UInt8) :: (0xb6 : UInt8) :: (0x00 : UInt8) :: (0xf9 : UInt8) :: (0x68 : UInt8) :: (0x1c : UInt8) :: (0x60 : UInt8) :: (0x03 : UInt8) :: (0x4f : UInt8) :: dT_X9_layHolds_3
def dT_X9_layHolds_1 : List UInt8 := (0x00 : UInt8) :: (0x27 : UInt8) :: (0x2a : UInt8) :: (0xb4 : UInt8) :: (0x00 : UInt8) :: (0x40 : UInt8) :: (0x10 : UInt8) :: (0x1f : UInt8) :: (0x2a : UInt8) :: (0xb6 : UInt8) :: (0x00 : UInt8) :: (0xf9 : UInt8) :: (0x68 : UInt8) :: (0x1c : UInt8) :: (0x60 : UInt8) :: (0x03 : UInt8) :: dT_X9_layHolds_2
def dT_X9_layHolds_0 : List UInt8 := (0x2a : UInt8) :: (0x1b : UInt8) :: (0xb6 : UInt8) :: (0x01 : UInt8) :: (0x43 : UInt8) :: (0x9a : UInt8) :: (0x00 : UInt8) :: (0x05 : UInt8) :: (0x03 : UInt8) :: (0xac : UInt8) :: (0x03 : UInt8) :: (0x3d : UInt8) :: (0x1c : UInt8) :: (0x10 : UInt8) :: (0x1f : UInt8) :: (0xa2 : UInt8) :: dT_X9_layHolds_1
theorem dT_X9_layHolds : cX9_layHolds.data.toList = dT_X9_layHolds_0 := eq_of_beq (show (cX9_layHolds.data.toList == dT_X9_layHolds_0) = true by decide +kernel)
theorem dQ_X9_layHolds_0 : dQ_P cX9_layHolds 0 dT_X9_layHolds_0 := fun i => by rw [dT_X9_layHolds]; rfl
theorem dQ_X9_layHolds_1 : dQ_P cX9_layHolds 16 dT_X9_layHolds_1 := fun i => (dQ_X9_layHolds_0 (i + 16)).trans dk_t
theorem dQ_X9_layHolds_2 : dQ_P cX9_layHolds 32 dT_X9_layHolds_2 := fun i => (dQ_X9_layHolds_1 (i + 16)).trans dk_t
theorem dQ_X9_layHolds_3 : dQ_P cX9_layHolds 48 dT_X9_layHolds_3 := fun i => (dQ_X9_layHolds_2 (i + 16)).trans dk_t
theorem dQ_X9_layHolds_4 : dQ_P cX9_layHolds 64 dT_X9_layHolds_4 := fun i => (dQ_X9_layHolds_3 (i + 16)).trans dk_t
theorem dQ_X9_layHolds_5 : dQ_P cX9_layHolds 80 dT_X9_layHolds_5 := fun i => (dQ_X9_layHolds_4 (i + 16)).trans dk_t
theorem dQ_X9_layHolds_6 : dQ_P cX9_layHolds 96 dT_X9_layHolds_6 := fun i => (dQ_X9_layHolds_5 (i + 16)).trans dk_t
theorem dX9_layHolds_0 : decode cX9_layHolds 0 = .ok (.aload_n 0, 1) := dk_42 ((dQ_X9_layHolds_0 0).trans dk_j0)
theorem dX9_layHolds_1 : decode cX9_layHolds 1 = .ok (.iload_n 1, 1) := dk_27 ((dQ_X9_layHolds_0 1).trans dk_j1)
theorem dX9_layHolds_2 : decode cX9_layHolds 2 = .ok (.invokevirtual 323, 3) := dk_182 ((dQ_X9_layHolds_0 2).trans dk_j2) ((dQ_X9_layHolds_0 3).trans dk_j3) ((dQ_X9_layHolds_0 4).trans dk_j4) dk_vu2_1_67
theorem dX9_layHolds_5 : decode cX9_layHolds 5 = .ok (.ifCond .ne 5, 3) := dk_154 ((dQ_X9_layHolds_0 5).trans dk_j5) ((dQ_X9_layHolds_0 6).trans dk_j6) ((dQ_X9_layHolds_0 7).trans dk_j7) dk_vs2_0_5
theorem dX9_layHolds_8 : decode cX9_layHolds 8 = .ok (.iconst 0, 1) := dk_3 ((dQ_X9_layHolds_0 8).trans dk_j8)
theorem dX9_layHolds_9 : decode cX9_layHolds 9 = .ok (.ireturn, 1) := dk_172 ((dQ_X9_layHolds_0 9).trans dk_j9)
theorem dX9_layHolds_10 : decode cX9_layHolds 10 = .ok (.iconst 0, 1) := dk_3 ((dQ_X9_layHolds_0 10).trans dk_j10)
theorem dX9_layHolds_11 : decode cX9_layHolds 11 = .ok (.istore_n 2, 1) := dk_61 ((dQ_X9_layHolds_0 11).trans dk_j11)
theorem dX9_layHolds_12 : decode cX9_layHolds 12 = .ok (.iload_n 2, 1) := dk_28 ((dQ_X9_layHolds_0 12).trans dk_j12)
theorem dX9_layHolds_13 : decode cX9_layHolds 13 = .ok (.bipush 31, 2) := dk_16 ((dQ_X9_layHolds_0 13).trans dk_j13) ((dQ_X9_layHolds_0 14).trans dk_j14) dk_vs1_31
theorem dk_vs2_0_39 : Reader.signed 16 ((0x00 : UInt8).toNat * 256 + (0x27 : UInt8).toNat) = (39 : Int) := by decide +kernel
theorem dX9_layHolds_15 : decode cX9_layHolds 15 = .ok (.if_icmp .ge 39, 3) := dk_162 ((dQ_X9_layHolds_0 15).trans dk_j15) ((dQ_X9_layHolds_1 0).trans dk_j0) ((dQ_X9_layHolds_1 1).trans dk_j1) dk_vs2_0_39
theorem dX9_layHolds_18 : decode cX9_layHolds 18 = .ok (.aload_n 0, 1) := dk_42 ((dQ_X9_layHolds_1 2).trans dk_j2)
theorem dX9_layHolds_19 : decode cX9_layHolds 19 = .ok (.getfield 64, 3) := dk_180 ((dQ_X9_layHolds_1 3).trans dk_j3) ((dQ_X9_layHolds_1 4).trans dk_j4) ((dQ_X9_layHolds_1 5).trans dk_j5) dk_vu2_0_64
theorem dX9_layHolds_22 : decode cX9_layHolds 22 = .ok (.bipush 31, 2) := dk_16 ((dQ_X9_layHolds_1 6).trans dk_j6) ((dQ_X9_layHolds_1 7).trans dk_j7) dk_vs1_31
theorem dX9_layHolds_24 : decode cX9_layHolds 24 = .ok (.aload_n 0, 1) := dk_42 ((dQ_X9_layHolds_1 8).trans dk_j8)
theorem dX9_layHolds_25 : decode cX9_layHolds 25 = .ok (.invokevirtual 249, 3) := dk_182 ((dQ_X9_layHolds_1 9).trans dk_j9) ((dQ_X9_layHolds_1 10).trans dk_j10) ((dQ_X9_layHolds_1 11).trans dk_j11) dk_vu2_0_249
theorem dX9_layHolds_28 : decode cX9_layHolds 28 = .ok (.imul, 1) := dk_104 ((dQ_X9_layHolds_1 12).trans dk_j12)
theorem dX9_layHolds_29 : decode cX9_layHolds 29 = .ok (.iload_n 2, 1) := dk_28 ((dQ_X9_layHolds_1 13).trans dk_j13)
theorem dX9_layHolds_30 : decode cX9_layHolds 30 = .ok (.iadd, 1) := dk_96 ((dQ_X9_layHolds_1 14).trans dk_j14)
theorem dX9_layHolds_31 : decode cX9_layHolds 31 = .ok (.iconst 0, 1) := dk_3 ((dQ_X9_layHolds_1 15).trans dk_j15)
theorem dX9_layHolds_32 : decode cX9_layHolds 32 = .ok (.iastore, 1) := dk_79 ((dQ_X9_layHolds_2 0).trans dk_j0)
theorem dX9_layHolds_33 : decode cX9_layHolds 33 = .ok (.aload_n 0, 1) := dk_42 ((dQ_X9_layHolds_2 1).trans dk_j1)
theorem dX9_layHolds_34 : decode cX9_layHolds 34 = .ok (.getfield 67, 3) := dk_180 ((dQ_X9_layHolds_2 2).trans dk_j2) ((dQ_X9_layHolds_2 3).trans dk_j3) ((dQ_X9_layHolds_2 4).trans dk_j4) dk_vu2_0_67
theorem dX9_layHolds_37 : decode cX9_layHolds 37 = .ok (.bipush 31, 2) := dk_16 ((dQ_X9_layHolds_2 5).trans dk_j5) ((dQ_X9_layHolds_2 6).trans dk_j6) dk_vs1_31
theorem dX9_layHolds_39 : decode cX9_layHolds 39 = .ok (.aload_n 0, 1) := dk_42 ((dQ_X9_layHolds_2 7).trans dk_j7)
theorem dX9_layHolds_40 : decode cX9_layHolds 40 = .ok (.invokevirtual 249, 3) := dk_182 ((dQ_X9_layHolds_2 8).trans dk_j8) ((dQ_X9_layHolds_2 9).trans dk_j9) ((dQ_X9_layHolds_2 10).trans dk_j10) dk_vu2_0_249
theorem dX9_layHolds_43 : decode cX9_layHolds 43 = .ok (.imul, 1) := dk_104 ((dQ_X9_layHolds_2 11).trans dk_j11)
theorem dX9_layHolds_44 : decode cX9_layHolds 44 = .ok (.iload_n 2, 1) := dk_28 ((dQ_X9_layHolds_2 12).trans dk_j12)
theorem dX9_layHolds_45 : decode cX9_layHolds 45 = .ok (.iadd, 1) := dk_96 ((dQ_X9_layHolds_2 13).trans dk_j13)
theorem dX9_layHolds_46 : decode cX9_layHolds 46 = .ok (.iconst 0, 1) := dk_3 ((dQ_X9_layHolds_2 14).trans dk_j14)
theorem dX9_layHolds_47 : decode cX9_layHolds 47 = .ok (.iastore, 1) := dk_79 ((dQ_X9_layHolds_2 15).trans dk_j15)
theorem dX9_layHolds_48 : decode cX9_layHolds 48 = .ok (.iinc 2 1, 3) := dk_132 ((dQ_X9_layHolds_3 0).trans dk_j0) ((dQ_X9_layHolds_3 1).trans dk_j1) ((dQ_X9_layHolds_3 2).trans dk_j2) dk_vu1_2 dk_vs1_1
theorem dk_vs2_255_217 : Reader.signed 16 ((0xff : UInt8).toNat * 256 + (0xd9 : UInt8).toNat) = (-39 : Int) := by decide +kernel
theorem dX9_layHolds_51 : decode cX9_layHolds 51 = .ok (.goto (-39), 3) := dk_167 ((dQ_X9_layHolds_3 3).trans dk_j3) ((dQ_X9_layHolds_3 4).trans dk_j4) ((dQ_X9_layHolds_3 5).trans dk_j5) dk_vs2_255_217
theorem dX9_layHolds_54 : decode cX9_layHolds 54 = .ok (.aload_n 0, 1) := dk_42 ((dQ_X9_layHolds_3 6).trans dk_j6)
theorem dX9_layHolds_55 : decode cX9_layHolds 55 = .ok (.invokevirtual 249, 3) := dk_182 ((dQ_X9_layHolds_3 7).trans dk_j7) ((dQ_X9_layHolds_3 8).trans dk_j8) ((dQ_X9_layHolds_3 9).trans dk_j9) dk_vu2_0_249
theorem dX9_layHolds_58 : decode cX9_layHolds 58 = .ok (.iconst 1, 1) := dk_4 ((dQ_X9_layHolds_3 10).trans dk_j10)
theorem dX9_layHolds_59 : decode cX9_layHolds 59 = .ok (.isub, 1) := dk_100 ((dQ_X9_layHolds_3 11).trans dk_j11)
theorem dX9_layHolds_60 : decode cX9_layHolds 60 = .ok (.istore_n 2, 1) := dk_61 ((dQ_X9_layHolds_3 12).trans dk_j12)
theorem dX9_layHolds_61 : decode cX9_layHolds 61 = .ok (.iload_n 2, 1) := dk_28 ((dQ_X9_layHolds_3 13).trans dk_j13)
theorem dX9_layHolds_62 : decode cX9_layHolds 62 = .ok (.ifCond .lt 39, 3) := dk_155 ((dQ_X9_layHolds_3 14).trans dk_j14) ((dQ_X9_layHolds_3 15).trans dk_j15) ((dQ_X9_layHolds_4 0).trans dk_j0) dk_vs2_0_39
theorem dX9_layHolds_65 : decode cX9_layHolds 65 = .ok (.iconst 0, 1) := dk_3 ((dQ_X9_layHolds_4 1).trans dk_j1)
theorem dX9_layHolds_66 : decode cX9_layHolds 66 = .ok (.istore_n 3, 1) := dk_62 ((dQ_X9_layHolds_4 2).trans dk_j2)
theorem dX9_layHolds_67 : decode cX9_layHolds 67 = .ok (.iload_n 3, 1) := dk_29 ((dQ_X9_layHolds_4 3).trans dk_j3)
theorem dX9_layHolds_68 : decode cX9_layHolds 68 = .ok (.iload_n 2, 1) := dk_28 ((dQ_X9_layHolds_4 4).trans dk_j4)
theorem dX9_layHolds_69 : decode cX9_layHolds 69 = .ok (.if_icmp .gt 26, 3) := dk_163 ((dQ_X9_layHolds_4 5).trans dk_j5) ((dQ_X9_layHolds_4 6).trans dk_j6) ((dQ_X9_layHolds_4 7).trans dk_j7) dk_vs2_0_26
theorem dX9_layHolds_72 : decode cX9_layHolds 72 = .ok (.aload_n 0, 1) := dk_42 ((dQ_X9_layHolds_4 8).trans dk_j8)
theorem dX9_layHolds_73 : decode cX9_layHolds 73 = .ok (.aload_n 0, 1) := dk_42 ((dQ_X9_layHolds_4 9).trans dk_j9)
theorem dX9_layHolds_74 : decode cX9_layHolds 74 = .ok (.iload_n 1, 1) := dk_27 ((dQ_X9_layHolds_4 10).trans dk_j10)
theorem dX9_layHolds_75 : decode cX9_layHolds 75 = .ok (.iconst 0, 1) := dk_3 ((dQ_X9_layHolds_4 11).trans dk_j11)
theorem dX9_layHolds_76 : decode cX9_layHolds 76 = .ok (.invokevirtual 234, 3) := dk_182 ((dQ_X9_layHolds_4 12).trans dk_j12) ((dQ_X9_layHolds_4 13).trans dk_j13) ((dQ_X9_layHolds_4 14).trans dk_j14) dk_vu2_0_234
theorem dX9_layHolds_79 : decode cX9_layHolds 79 = .ok (.aload_n 0, 1) := dk_42 ((dQ_X9_layHolds_4 15).trans dk_j15)
theorem dX9_layHolds_80 : decode cX9_layHolds 80 = .ok (.iload_n 1, 1) := dk_27 ((dQ_X9_layHolds_5 0).trans dk_j0)
theorem dX9_layHolds_81 : decode cX9_layHolds 81 = .ok (.invokevirtual 304, 3) := dk_182 ((dQ_X9_layHolds_5 1).trans dk_j1) ((dQ_X9_layHolds_5 2).trans dk_j2) ((dQ_X9_layHolds_5 3).trans dk_j3) dk_vu2_1_48
theorem dX9_layHolds_84 : decode cX9_layHolds 84 = .ok (.iload_n 2, 1) := dk_28 ((dQ_X9_layHolds_5 4).trans dk_j4)
theorem dX9_layHolds_85 : decode cX9_layHolds 85 = .ok (.iload_n 3, 1) := dk_29 ((dQ_X9_layHolds_5 5).trans dk_j5)
theorem dk_vu2_1_99 : (0x01 : UInt8).toNat * 256 + (0x63 : UInt8).toNat = (355 : Nat) := by decide +kernel
theorem dX9_layHolds_86 : decode cX9_layHolds 86 = .ok (.invokevirtual 355, 3) := dk_182 ((dQ_X9_layHolds_5 6).trans dk_j6) ((dQ_X9_layHolds_5 7).trans dk_j7) ((dQ_X9_layHolds_5 8).trans dk_j8) dk_vu2_1_99
theorem dX9_layHolds_89 : decode cX9_layHolds 89 = .ok (.iinc 3 1, 3) := dk_132 ((dQ_X9_layHolds_5 9).trans dk_j9) ((dQ_X9_layHolds_5 10).trans dk_j10) ((dQ_X9_layHolds_5 11).trans dk_j11) dk_vu1_3 dk_vs1_1
theorem dX9_layHolds_92 : decode cX9_layHolds 92 = .ok (.goto (-25), 3) := dk_167 ((dQ_X9_layHolds_5 12).trans dk_j12) ((dQ_X9_layHolds_5 13).trans dk_j13) ((dQ_X9_layHolds_5 14).trans dk_j14) dk_vs2_255_231
theorem dk_vs1_255 : Reader.signed 8 (0xff : UInt8).toNat = (-1 : Int) := by decide +kernel
theorem dX9_layHolds_95 : decode cX9_layHolds 95 = .ok (.iinc 2 (-1), 3) := dk_132 ((dQ_X9_layHolds_5 15).trans dk_j15) ((dQ_X9_layHolds_6 0).trans dk_j0) ((dQ_X9_layHolds_6 1).trans dk_j1) dk_vu1_2 dk_vs1_255
theorem dX9_layHolds_98 : decode cX9_layHolds 98 = .ok (.goto (-37), 3) := dk_167 ((dQ_X9_layHolds_6 2).trans dk_j2) ((dQ_X9_layHolds_6 3).trans dk_j3) ((dQ_X9_layHolds_6 4).trans dk_j4) dk_vs2_255_219
theorem dX9_layHolds_101 : decode cX9_layHolds 101 = .ok (.iconst 1, 1) := dk_4 ((dQ_X9_layHolds_6 5).trans dk_j5)
theorem dX9_layHolds_102 : decode cX9_layHolds 102 = .ok (.ireturn, 1) := dk_172 ((dQ_X9_layHolds_6 6).trans dk_j6)
def dT_X9_hold_1 : List UInt8 := (0x05 : UInt8) :: (0x10 : UInt8) :: (0xfe : UInt8) :: (0xac : UInt8) :: []
def dT_X9_hold_0 : List UInt8 := (0x2a : UInt8) :: (0x1b : UInt8) :: (0xb6 : UInt8) :: (0x01 : UInt8) :: (0x67 : UInt8) :: (0x99 : UInt8) :: (0x00 : UInt8) :: (0x0c : UInt8) :: (0x2a : UInt8) :: (0xb4 : UInt8) :: (0x00 : UInt8) :: (0x40 : UInt8) :: (0x03 : UInt8) :: (0x2e : UInt8) :: (0xa7 : UInt8) :: (0x00 : UInt8) :: dT_X9_hold_1
theorem dT_X9_hold : cX9_hold.data.toList = dT_X9_hold_0 := eq_of_beq (show (cX9_hold.data.toList == dT_X9_hold_0) = true by decide +kernel)
theorem dQ_X9_hold_0 : dQ_P cX9_hold 0 dT_X9_hold_0 := fun i => by rw [dT_X9_hold]; rfl
theorem dQ_X9_hold_1 : dQ_P cX9_hold 16 dT_X9_hold_1 := fun i => (dQ_X9_hold_0 (i + 16)).trans dk_t
theorem dX9_hold_0 : decode cX9_hold 0 = .ok (.aload_n 0, 1) := dk_42 ((dQ_X9_hold_0 0).trans dk_j0)
theorem dX9_hold_1 : decode cX9_hold 1 = .ok (.iload_n 1, 1) := dk_27 ((dQ_X9_hold_0 1).trans dk_j1)
theorem dk_vu2_1_103 : (0x01 : UInt8).toNat * 256 + (0x67 : UInt8).toNat = (359 : Nat) := by decide +kernel
theorem dX9_hold_2 : decode cX9_hold 2 = .ok (.invokevirtual 359, 3) := dk_182 ((dQ_X9_hold_0 2).trans dk_j2) ((dQ_X9_hold_0 3).trans dk_j3) ((dQ_X9_hold_0 4).trans dk_j4) dk_vu2_1_103
theorem dX9_hold_5 : decode cX9_hold 5 = .ok (.ifCond .eq 12, 3) := dk_153 ((dQ_X9_hold_0 5).trans dk_j5) ((dQ_X9_hold_0 6).trans dk_j6) ((dQ_X9_hold_0 7).trans dk_j7) dk_vs2_0_12
theorem dX9_hold_8 : decode cX9_hold 8 = .ok (.aload_n 0, 1) := dk_42 ((dQ_X9_hold_0 8).trans dk_j8)
theorem dX9_hold_9 : decode cX9_hold 9 = .ok (.getfield 64, 3) := dk_180 ((dQ_X9_hold_0 9).trans dk_j9) ((dQ_X9_hold_0 10).trans dk_j10) ((dQ_X9_hold_0 11).trans dk_j11) dk_vu2_0_64
theorem dX9_hold_12 : decode cX9_hold 12 = .ok (.iconst 0, 1) := dk_3 ((dQ_X9_hold_0 12).trans dk_j12)
theorem dX9_hold_13 : decode cX9_hold 13 = .ok (.iaload, 1) := dk_46 ((dQ_X9_hold_0 13).trans dk_j13)
theorem dX9_hold_14 : decode cX9_hold 14 = .ok (.goto 5, 3) := dk_167 ((dQ_X9_hold_0 14).trans dk_j14) ((dQ_X9_hold_0 15).trans dk_j15) ((dQ_X9_hold_1 0).trans dk_j0) dk_vs2_0_5
theorem dX9_hold_17 : decode cX9_hold 17 = .ok (.bipush (-2), 2) := dk_16 ((dQ_X9_hold_1 1).trans dk_j1) ((dQ_X9_hold_1 2).trans dk_j2) dk_vs1_254
theorem dX9_hold_19 : decode cX9_hold 19 = .ok (.ireturn, 1) := dk_172 ((dQ_X9_hold_1 3).trans dk_j3)
def dT_X9_holds_1 : List UInt8 := (0x05 : UInt8) :: (0x10 : UInt8) :: (0xfe : UInt8) :: (0xac : UInt8) :: []
def dT_X9_holds_0 : List UInt8 := (0x2a : UInt8) :: (0x1b : UInt8) :: (0xb6 : UInt8) :: (0x01 : UInt8) :: (0x67 : UInt8) :: (0x99 : UInt8) :: (0x00 : UInt8) :: (0x0c : UInt8) :: (0x2a : UInt8) :: (0xb4 : UInt8) :: (0x00 : UInt8) :: (0x43 : UInt8) :: (0x03 : UInt8) :: (0x2e : UInt8) :: (0xa7 : UInt8) :: (0x00 : UInt8) :: dT_X9_holds_1
theorem dT_X9_holds : cX9_holds.data.toList = dT_X9_holds_0 := eq_of_beq (show (cX9_holds.data.toList == dT_X9_holds_0) = true by decide +kernel)
theorem dQ_X9_holds_0 : dQ_P cX9_holds 0 dT_X9_holds_0 := fun i => by rw [dT_X9_holds]; rfl
theorem dQ_X9_holds_1 : dQ_P cX9_holds 16 dT_X9_holds_1 := fun i => (dQ_X9_holds_0 (i + 16)).trans dk_t
theorem dX9_holds_0 : decode cX9_holds 0 = .ok (.aload_n 0, 1) := dk_42 ((dQ_X9_holds_0 0).trans dk_j0)
theorem dX9_holds_1 : decode cX9_holds 1 = .ok (.iload_n 1, 1) := dk_27 ((dQ_X9_holds_0 1).trans dk_j1)
theorem dX9_holds_2 : decode cX9_holds 2 = .ok (.invokevirtual 359, 3) := dk_182 ((dQ_X9_holds_0 2).trans dk_j2) ((dQ_X9_holds_0 3).trans dk_j3) ((dQ_X9_holds_0 4).trans dk_j4) dk_vu2_1_103
theorem dX9_holds_5 : decode cX9_holds 5 = .ok (.ifCond .eq 12, 3) := dk_153 ((dQ_X9_holds_0 5).trans dk_j5) ((dQ_X9_holds_0 6).trans dk_j6) ((dQ_X9_holds_0 7).trans dk_j7) dk_vs2_0_12
theorem dX9_holds_8 : decode cX9_holds 8 = .ok (.aload_n 0, 1) := dk_42 ((dQ_X9_holds_0 8).trans dk_j8)
theorem dX9_holds_9 : decode cX9_holds 9 = .ok (.getfield 67, 3) := dk_180 ((dQ_X9_holds_0 9).trans dk_j9) ((dQ_X9_holds_0 10).trans dk_j10) ((dQ_X9_holds_0 11).trans dk_j11) dk_vu2_0_67
theorem dX9_holds_12 : decode cX9_holds 12 = .ok (.iconst 0, 1) := dk_3 ((dQ_X9_holds_0 12).trans dk_j12)
theorem dX9_holds_13 : decode cX9_holds 13 = .ok (.iaload, 1) := dk_46 ((dQ_X9_holds_0 13).trans dk_j13)
theorem dX9_holds_14 : decode cX9_holds 14 = .ok (.goto 5, 3) := dk_167 ((dQ_X9_holds_0 14).trans dk_j14) ((dQ_X9_holds_0 15).trans dk_j15) ((dQ_X9_holds_1 0).trans dk_j0) dk_vs2_0_5
theorem dX9_holds_17 : decode cX9_holds 17 = .ok (.bipush (-2), 2) := dk_16 ((dQ_X9_holds_1 1).trans dk_j1) ((dQ_X9_holds_1 2).trans dk_j2) dk_vs1_254
theorem dX9_holds_19 : decode cX9_holds 19 = .ok (.ireturn, 1) := dk_172 ((dQ_X9_holds_1 3).trans dk_j3)
def dT_X9_fraudsOf_5 : List UInt8 := (0xcd : UInt8) :: (0x15 : UInt8) :: (0x05 : UInt8) :: (0xac : UInt8) :: []
def dT_X9_fraudsOf_4 : List UInt8 := (0x04 : UInt8) :: (0x15 : UInt8) :: (0x06 : UInt8) :: (0x78 : UInt8) :: (0xa7 : UInt8) :: (0x00 : UInt8) :: (0x04 : UInt8) :: (0x03 : UInt8) :: (0x80 : UInt8) :: (0x36 : UInt8) :: (0x05 : UInt8) :: (0x84 : UInt8) :: (0x06 : UInt8) :: (0x01 : UInt8) :: (0xa7 : UInt8) :: (0xff : UInt8) :: dT_X9_fraudsOf_5
def dT_X9_fraudsOf_3 : List UInt8 := (0x4f : UInt8) :: (0x2a : UInt8) :: (0xb6 : UInt8) :: (0x01 : UInt8) :: (0x0a : UInt8) :: (0x15 : UInt8) :: (0x05 : UInt8) :: (0x2a : UInt8) :: (0x1b : UInt8) :: (0xb6 : UInt8) :: (0x01 : UInt8) :: (0x46 : UInt8) :: (0x1d : UInt8) :: (0xa4 : UInt8) :: (0x00 : UInt8) :: (0x0a : UInt8) :: dT_X9_fraudsOf_4
def dT_X9_fraudsOf_2 : List UInt8 := (0xf9 : UInt8) :: (0xa2 : UInt8) :: (0x00 : UInt8) :: (0x30 : UInt8) :: (0x2a : UInt8) :: (0xb4 : UInt8) :: (0x00 : UInt8) :: (0x28 : UInt8) :: (0x1c : UInt8) :: (0x15 : UInt8) :: (0x04 : UInt8) :: (0x04 : UInt8) :: (0x15 : UInt8) :: (0x06 : UInt8) :: (0x78 : UInt8) :: (0x80 : UInt8) :: dT_X9_fraudsOf_3
def dT_X9_fraudsOf_1 : List UInt8 := (0x28 : UInt8) :: (0x1c : UInt8) :: (0x2e : UInt8) :: (0x36 : UInt8) :: (0x04 : UInt8) :: (0x03 : UInt8) :: (0x36 : UInt8) :: (0x05 : UInt8) :: (0x03 : UInt8) :: (0x36 : UInt8) :: (0x06 : UInt8) :: (0x15 : UInt8) :: (0x06 : UInt8) :: (0x2a : UInt8) :: (0xb6 : UInt8) :: (0x00 : UInt8) :: dT_X9_fraudsOf_2
def dT_X9_fraudsOf_0 : List UInt8 := (0x2a : UInt8) :: (0x1b : UInt8) :: (0x03 : UInt8) :: (0xb6 : UInt8) :: (0x00 : UInt8) :: (0xea : UInt8) :: (0x3d : UInt8) :: (0x2a : UInt8) :: (0x1b : UInt8) :: (0xb6 : UInt8) :: (0x01 : UInt8) :: (0x46 : UInt8) :: (0x3e : UInt8) :: (0x2a : UInt8) :: (0xb4 : UInt8) :: (0x00 : UInt8) :: dT_X9_fraudsOf_1
theorem dT_X9_fraudsOf : cX9_fraudsOf.data.toList = dT_X9_fraudsOf_0 := eq_of_beq (show (cX9_fraudsOf.data.toList == dT_X9_fraudsOf_0) = true by decide +kernel)
theorem dQ_X9_fraudsOf_0 : dQ_P cX9_fraudsOf 0 dT_X9_fraudsOf_0 := fun i => by rw [dT_X9_fraudsOf]; rfl
theorem dQ_X9_fraudsOf_1 : dQ_P cX9_fraudsOf 16 dT_X9_fraudsOf_1 := fun i => (dQ_X9_fraudsOf_0 (i + 16)).trans dk_t
theorem dQ_X9_fraudsOf_2 : dQ_P cX9_fraudsOf 32 dT_X9_fraudsOf_2 := fun i => (dQ_X9_fraudsOf_1 (i + 16)).trans dk_t
theorem dQ_X9_fraudsOf_3 : dQ_P cX9_fraudsOf 48 dT_X9_fraudsOf_3 := fun i => (dQ_X9_fraudsOf_2 (i + 16)).trans dk_t
theorem dQ_X9_fraudsOf_4 : dQ_P cX9_fraudsOf 64 dT_X9_fraudsOf_4 := fun i => (dQ_X9_fraudsOf_3 (i + 16)).trans dk_t
theorem dQ_X9_fraudsOf_5 : dQ_P cX9_fraudsOf 80 dT_X9_fraudsOf_5 := fun i => (dQ_X9_fraudsOf_4 (i + 16)).trans dk_t
theorem dX9_fraudsOf_0 : decode cX9_fraudsOf 0 = .ok (.aload_n 0, 1) := dk_42 ((dQ_X9_fraudsOf_0 0).trans dk_j0)
theorem dX9_fraudsOf_1 : decode cX9_fraudsOf 1 = .ok (.iload_n 1, 1) := dk_27 ((dQ_X9_fraudsOf_0 1).trans dk_j1)
theorem dX9_fraudsOf_2 : decode cX9_fraudsOf 2 = .ok (.iconst 0, 1) := dk_3 ((dQ_X9_fraudsOf_0 2).trans dk_j2)
theorem dX9_fraudsOf_3 : decode cX9_fraudsOf 3 = .ok (.invokevirtual 234, 3) := dk_182 ((dQ_X9_fraudsOf_0 3).trans dk_j3) ((dQ_X9_fraudsOf_0 4).trans dk_j4) ((dQ_X9_fraudsOf_0 5).trans dk_j5) dk_vu2_0_234
theorem dX9_fraudsOf_6 : decode cX9_fraudsOf 6 = .ok (.istore_n 2, 1) := dk_61 ((dQ_X9_fraudsOf_0 6).trans dk_j6)
theorem dX9_fraudsOf_7 : decode cX9_fraudsOf 7 = .ok (.aload_n 0, 1) := dk_42 ((dQ_X9_fraudsOf_0 7).trans dk_j7)
theorem dX9_fraudsOf_8 : decode cX9_fraudsOf 8 = .ok (.iload_n 1, 1) := dk_27 ((dQ_X9_fraudsOf_0 8).trans dk_j8)
theorem dX9_fraudsOf_9 : decode cX9_fraudsOf 9 = .ok (.invokevirtual 326, 3) := dk_182 ((dQ_X9_fraudsOf_0 9).trans dk_j9) ((dQ_X9_fraudsOf_0 10).trans dk_j10) ((dQ_X9_fraudsOf_0 11).trans dk_j11) dk_vu2_1_70
theorem dX9_fraudsOf_12 : decode cX9_fraudsOf 12 = .ok (.istore_n 3, 1) := dk_62 ((dQ_X9_fraudsOf_0 12).trans dk_j12)
theorem dX9_fraudsOf_13 : decode cX9_fraudsOf 13 = .ok (.aload_n 0, 1) := dk_42 ((dQ_X9_fraudsOf_0 13).trans dk_j13)
theorem dX9_fraudsOf_14 : decode cX9_fraudsOf 14 = .ok (.getfield 40, 3) := dk_180 ((dQ_X9_fraudsOf_0 14).trans dk_j14) ((dQ_X9_fraudsOf_0 15).trans dk_j15) ((dQ_X9_fraudsOf_1 0).trans dk_j0) dk_vu2_0_40
theorem dX9_fraudsOf_17 : decode cX9_fraudsOf 17 = .ok (.iload_n 2, 1) := dk_28 ((dQ_X9_fraudsOf_1 1).trans dk_j1)
theorem dX9_fraudsOf_18 : decode cX9_fraudsOf 18 = .ok (.iaload, 1) := dk_46 ((dQ_X9_fraudsOf_1 2).trans dk_j2)
theorem dX9_fraudsOf_19 : decode cX9_fraudsOf 19 = .ok (.istore 4, 2) := dk_54 ((dQ_X9_fraudsOf_1 3).trans dk_j3) ((dQ_X9_fraudsOf_1 4).trans dk_j4) dk_vu1_4
theorem dX9_fraudsOf_21 : decode cX9_fraudsOf 21 = .ok (.iconst 0, 1) := dk_3 ((dQ_X9_fraudsOf_1 5).trans dk_j5)
theorem dX9_fraudsOf_22 : decode cX9_fraudsOf 22 = .ok (.istore 5, 2) := dk_54 ((dQ_X9_fraudsOf_1 6).trans dk_j6) ((dQ_X9_fraudsOf_1 7).trans dk_j7) dk_vu1_5
theorem dX9_fraudsOf_24 : decode cX9_fraudsOf 24 = .ok (.iconst 0, 1) := dk_3 ((dQ_X9_fraudsOf_1 8).trans dk_j8)
theorem dX9_fraudsOf_25 : decode cX9_fraudsOf 25 = .ok (.istore 6, 2) := dk_54 ((dQ_X9_fraudsOf_1 9).trans dk_j9) ((dQ_X9_fraudsOf_1 10).trans dk_j10) dk_vu1_6
theorem dX9_fraudsOf_27 : decode cX9_fraudsOf 27 = .ok (.iload 6, 2) := dk_21 ((dQ_X9_fraudsOf_1 11).trans dk_j11) ((dQ_X9_fraudsOf_1 12).trans dk_j12) dk_vu1_6
theorem dX9_fraudsOf_29 : decode cX9_fraudsOf 29 = .ok (.aload_n 0, 1) := dk_42 ((dQ_X9_fraudsOf_1 13).trans dk_j13)
theorem dX9_fraudsOf_30 : decode cX9_fraudsOf 30 = .ok (.invokevirtual 249, 3) := dk_182 ((dQ_X9_fraudsOf_1 14).trans dk_j14) ((dQ_X9_fraudsOf_1 15).trans dk_j15) ((dQ_X9_fraudsOf_2 0).trans dk_j0) dk_vu2_0_249
theorem dk_vs2_0_48 : Reader.signed 16 ((0x00 : UInt8).toNat * 256 + (0x30 : UInt8).toNat) = (48 : Int) := by decide +kernel
theorem dX9_fraudsOf_33 : decode cX9_fraudsOf 33 = .ok (.if_icmp .ge 48, 3) := dk_162 ((dQ_X9_fraudsOf_2 1).trans dk_j1) ((dQ_X9_fraudsOf_2 2).trans dk_j2) ((dQ_X9_fraudsOf_2 3).trans dk_j3) dk_vs2_0_48
theorem dX9_fraudsOf_36 : decode cX9_fraudsOf 36 = .ok (.aload_n 0, 1) := dk_42 ((dQ_X9_fraudsOf_2 4).trans dk_j4)
theorem dX9_fraudsOf_37 : decode cX9_fraudsOf 37 = .ok (.getfield 40, 3) := dk_180 ((dQ_X9_fraudsOf_2 5).trans dk_j5) ((dQ_X9_fraudsOf_2 6).trans dk_j6) ((dQ_X9_fraudsOf_2 7).trans dk_j7) dk_vu2_0_40
theorem dX9_fraudsOf_40 : decode cX9_fraudsOf 40 = .ok (.iload_n 2, 1) := dk_28 ((dQ_X9_fraudsOf_2 8).trans dk_j8)
theorem dX9_fraudsOf_41 : decode cX9_fraudsOf 41 = .ok (.iload 4, 2) := dk_21 ((dQ_X9_fraudsOf_2 9).trans dk_j9) ((dQ_X9_fraudsOf_2 10).trans dk_j10) dk_vu1_4
theorem dX9_fraudsOf_43 : decode cX9_fraudsOf 43 = .ok (.iconst 1, 1) := dk_4 ((dQ_X9_fraudsOf_2 11).trans dk_j11)
theorem dX9_fraudsOf_44 : decode cX9_fraudsOf 44 = .ok (.iload 6, 2) := dk_21 ((dQ_X9_fraudsOf_2 12).trans dk_j12) ((dQ_X9_fraudsOf_2 13).trans dk_j13) dk_vu1_6
theorem dX9_fraudsOf_46 : decode cX9_fraudsOf 46 = .ok (.ishl, 1) := dk_120 ((dQ_X9_fraudsOf_2 14).trans dk_j14)
theorem dX9_fraudsOf_47 : decode cX9_fraudsOf 47 = .ok (.ior, 1) := dk_128 ((dQ_X9_fraudsOf_2 15).trans dk_j15)
theorem dX9_fraudsOf_48 : decode cX9_fraudsOf 48 = .ok (.iastore, 1) := dk_79 ((dQ_X9_fraudsOf_3 0).trans dk_j0)
theorem dX9_fraudsOf_49 : decode cX9_fraudsOf 49 = .ok (.aload_n 0, 1) := dk_42 ((dQ_X9_fraudsOf_3 1).trans dk_j1)
theorem dX9_fraudsOf_50 : decode cX9_fraudsOf 50 = .ok (.invokevirtual 266, 3) := dk_182 ((dQ_X9_fraudsOf_3 2).trans dk_j2) ((dQ_X9_fraudsOf_3 3).trans dk_j3) ((dQ_X9_fraudsOf_3 4).trans dk_j4) dk_vu2_1_10
theorem dX9_fraudsOf_53 : decode cX9_fraudsOf 53 = .ok (.iload 5, 2) := dk_21 ((dQ_X9_fraudsOf_3 5).trans dk_j5) ((dQ_X9_fraudsOf_3 6).trans dk_j6) dk_vu1_5
theorem dX9_fraudsOf_55 : decode cX9_fraudsOf 55 = .ok (.aload_n 0, 1) := dk_42 ((dQ_X9_fraudsOf_3 7).trans dk_j7)
theorem dX9_fraudsOf_56 : decode cX9_fraudsOf 56 = .ok (.iload_n 1, 1) := dk_27 ((dQ_X9_fraudsOf_3 8).trans dk_j8)
theorem dX9_fraudsOf_57 : decode cX9_fraudsOf 57 = .ok (.invokevirtual 326, 3) := dk_182 ((dQ_X9_fraudsOf_3 9).trans dk_j9) ((dQ_X9_fraudsOf_3 10).trans dk_j10) ((dQ_X9_fraudsOf_3 11).trans dk_j11) dk_vu2_1_70
theorem dX9_fraudsOf_60 : decode cX9_fraudsOf 60 = .ok (.iload_n 3, 1) := dk_29 ((dQ_X9_fraudsOf_3 12).trans dk_j12)
theorem dX9_fraudsOf_61 : decode cX9_fraudsOf 61 = .ok (.if_icmp .le 10, 3) := dk_164 ((dQ_X9_fraudsOf_3 13).trans dk_j13) ((dQ_X9_fraudsOf_3 14).trans dk_j14) ((dQ_X9_fraudsOf_3 15).trans dk_j15) dk_vs2_0_10
theorem dX9_fraudsOf_64 : decode cX9_fraudsOf 64 = .ok (.iconst 1, 1) := dk_4 ((dQ_X9_fraudsOf_4 0).trans dk_j0)
theorem dX9_fraudsOf_65 : decode cX9_fraudsOf 65 = .ok (.iload 6, 2) := dk_21 ((dQ_X9_fraudsOf_4 1).trans dk_j1) ((dQ_X9_fraudsOf_4 2).trans dk_j2) dk_vu1_6
theorem dX9_fraudsOf_67 : decode cX9_fraudsOf 67 = .ok (.ishl, 1) := dk_120 ((dQ_X9_fraudsOf_4 3).trans dk_j3)
theorem dX9_fraudsOf_68 : decode cX9_fraudsOf 68 = .ok (.goto 4, 3) := dk_167 ((dQ_X9_fraudsOf_4 4).trans dk_j4) ((dQ_X9_fraudsOf_4 5).trans dk_j5) ((dQ_X9_fraudsOf_4 6).trans dk_j6) dk_vs2_0_4
theorem dX9_fraudsOf_71 : decode cX9_fraudsOf 71 = .ok (.iconst 0, 1) := dk_3 ((dQ_X9_fraudsOf_4 7).trans dk_j7)
theorem dX9_fraudsOf_72 : decode cX9_fraudsOf 72 = .ok (.ior, 1) := dk_128 ((dQ_X9_fraudsOf_4 8).trans dk_j8)
theorem dX9_fraudsOf_73 : decode cX9_fraudsOf 73 = .ok (.istore 5, 2) := dk_54 ((dQ_X9_fraudsOf_4 9).trans dk_j9) ((dQ_X9_fraudsOf_4 10).trans dk_j10) dk_vu1_5
theorem dX9_fraudsOf_75 : decode cX9_fraudsOf 75 = .ok (.iinc 6 1, 3) := dk_132 ((dQ_X9_fraudsOf_4 11).trans dk_j11) ((dQ_X9_fraudsOf_4 12).trans dk_j12) ((dQ_X9_fraudsOf_4 13).trans dk_j13) dk_vu1_6 dk_vs1_1
theorem dk_vs2_255_205 : Reader.signed 16 ((0xff : UInt8).toNat * 256 + (0xcd : UInt8).toNat) = (-51 : Int) := by decide +kernel
theorem dX9_fraudsOf_78 : decode cX9_fraudsOf 78 = .ok (.goto (-51), 3) := dk_167 ((dQ_X9_fraudsOf_4 14).trans dk_j14) ((dQ_X9_fraudsOf_4 15).trans dk_j15) ((dQ_X9_fraudsOf_5 0).trans dk_j0) dk_vs2_255_205
theorem dX9_fraudsOf_81 : decode cX9_fraudsOf 81 = .ok (.iload 5, 2) := dk_21 ((dQ_X9_fraudsOf_5 1).trans dk_j1) ((dQ_X9_fraudsOf_5 2).trans dk_j2) dk_vu1_5
theorem dX9_fraudsOf_83 : decode cX9_fraudsOf 83 = .ok (.ireturn, 1) := dk_172 ((dQ_X9_fraudsOf_5 3).trans dk_j3)
def dT_X9_snuff_1 : List UInt8 := (0xa7 : UInt8) :: (0x00 : UInt8) :: (0x05 : UInt8) :: (0x10 : UInt8) :: (0xfe : UInt8) :: (0xac : UInt8) :: []
def dT_X9_snuff_0 : List UInt8 := (0x2a : UInt8) :: (0x1b : UInt8) :: (0xb6 : UInt8) :: (0x01 : UInt8) :: (0x43 : UInt8) :: (0x99 : UInt8) :: (0x00 : UInt8) :: (0x0e : UInt8) :: (0x2a : UInt8) :: (0x1b : UInt8) :: (0xb6 : UInt8) :: (0x01 : UInt8) :: (0x6a : UInt8) :: (0xb8 : UInt8) :: (0x01 : UInt8) :: (0x1f : UInt8) :: dT_X9_snuff_1
theorem dT_X9_snuff : cX9_snuff.data.toList = dT_X9_snuff_0 := eq_of_beq (show (cX9_snuff.data.toList == dT_X9_snuff_0) = true by decide +kernel)
theorem dQ_X9_snuff_0 : dQ_P cX9_snuff 0 dT_X9_snuff_0 := fun i => by rw [dT_X9_snuff]; rfl
theorem dQ_X9_snuff_1 : dQ_P cX9_snuff 16 dT_X9_snuff_1 := fun i => (dQ_X9_snuff_0 (i + 16)).trans dk_t
theorem dX9_snuff_0 : decode cX9_snuff 0 = .ok (.aload_n 0, 1) := dk_42 ((dQ_X9_snuff_0 0).trans dk_j0)
theorem dX9_snuff_1 : decode cX9_snuff 1 = .ok (.iload_n 1, 1) := dk_27 ((dQ_X9_snuff_0 1).trans dk_j1)
theorem dX9_snuff_2 : decode cX9_snuff 2 = .ok (.invokevirtual 323, 3) := dk_182 ((dQ_X9_snuff_0 2).trans dk_j2) ((dQ_X9_snuff_0 3).trans dk_j3) ((dQ_X9_snuff_0 4).trans dk_j4) dk_vu2_1_67
theorem dX9_snuff_5 : decode cX9_snuff 5 = .ok (.ifCond .eq 14, 3) := dk_153 ((dQ_X9_snuff_0 5).trans dk_j5) ((dQ_X9_snuff_0 6).trans dk_j6) ((dQ_X9_snuff_0 7).trans dk_j7) dk_vs2_0_14
theorem dX9_snuff_8 : decode cX9_snuff 8 = .ok (.aload_n 0, 1) := dk_42 ((dQ_X9_snuff_0 8).trans dk_j8)
theorem dX9_snuff_9 : decode cX9_snuff 9 = .ok (.iload_n 1, 1) := dk_27 ((dQ_X9_snuff_0 9).trans dk_j9)
theorem dk_vu2_1_106 : (0x01 : UInt8).toNat * 256 + (0x6a : UInt8).toNat = (362 : Nat) := by decide +kernel
theorem dX9_snuff_10 : decode cX9_snuff 10 = .ok (.invokevirtual 362, 3) := dk_182 ((dQ_X9_snuff_0 10).trans dk_j10) ((dQ_X9_snuff_0 11).trans dk_j11) ((dQ_X9_snuff_0 12).trans dk_j12) dk_vu2_1_106
theorem dX9_snuff_13 : decode cX9_snuff 13 = .ok (.invokestatic 287, 3) := dk_184 ((dQ_X9_snuff_0 13).trans dk_j13) ((dQ_X9_snuff_0 14).trans dk_j14) ((dQ_X9_snuff_0 15).trans dk_j15) dk_vu2_1_31
theorem dX9_snuff_16 : decode cX9_snuff 16 = .ok (.goto 5, 3) := dk_167 ((dQ_X9_snuff_1 0).trans dk_j0) ((dQ_X9_snuff_1 1).trans dk_j1) ((dQ_X9_snuff_1 2).trans dk_j2) dk_vs2_0_5
theorem dX9_snuff_19 : decode cX9_snuff 19 = .ok (.bipush (-2), 2) := dk_16 ((dQ_X9_snuff_1 3).trans dk_j3) ((dQ_X9_snuff_1 4).trans dk_j4) dk_vs1_254
theorem dX9_snuff_21 : decode cX9_snuff 21 = .ok (.ireturn, 1) := dk_172 ((dQ_X9_snuff_1 5).trans dk_j5)
def dT_X9_frauds_1 : List UInt8 := (0x10 : UInt8) :: (0xfe : UInt8) :: (0xac : UInt8) :: []
def dT_X9_frauds_0 : List UInt8 := (0x2a : UInt8) :: (0x1b : UInt8) :: (0xb6 : UInt8) :: (0x01 : UInt8) :: (0x43 : UInt8) :: (0x99 : UInt8) :: (0x00 : UInt8) :: (0x0b : UInt8) :: (0x2a : UInt8) :: (0x1b : UInt8) :: (0xb6 : UInt8) :: (0x01 : UInt8) :: (0x6a : UInt8) :: (0xa7 : UInt8) :: (0x00 : UInt8) :: (0x05 : UInt8) :: dT_X9_frauds_1
theorem dT_X9_frauds : cX9_frauds.data.toList = dT_X9_frauds_0 := eq_of_beq (show (cX9_frauds.data.toList == dT_X9_frauds_0) = true by decide +kernel)
theorem dQ_X9_frauds_0 : dQ_P cX9_frauds 0 dT_X9_frauds_0 := fun i => by rw [dT_X9_frauds]; rfl
theorem dQ_X9_frauds_1 : dQ_P cX9_frauds 16 dT_X9_frauds_1 := fun i => (dQ_X9_frauds_0 (i + 16)).trans dk_t
theorem dX9_frauds_0 : decode cX9_frauds 0 = .ok (.aload_n 0, 1) := dk_42 ((dQ_X9_frauds_0 0).trans dk_j0)
theorem dX9_frauds_1 : decode cX9_frauds 1 = .ok (.iload_n 1, 1) := dk_27 ((dQ_X9_frauds_0 1).trans dk_j1)
theorem dX9_frauds_2 : decode cX9_frauds 2 = .ok (.invokevirtual 323, 3) := dk_182 ((dQ_X9_frauds_0 2).trans dk_j2) ((dQ_X9_frauds_0 3).trans dk_j3) ((dQ_X9_frauds_0 4).trans dk_j4) dk_vu2_1_67
theorem dX9_frauds_5 : decode cX9_frauds 5 = .ok (.ifCond .eq 11, 3) := dk_153 ((dQ_X9_frauds_0 5).trans dk_j5) ((dQ_X9_frauds_0 6).trans dk_j6) ((dQ_X9_frauds_0 7).trans dk_j7) dk_vs2_0_11
theorem dX9_frauds_8 : decode cX9_frauds 8 = .ok (.aload_n 0, 1) := dk_42 ((dQ_X9_frauds_0 8).trans dk_j8)
theorem dX9_frauds_9 : decode cX9_frauds 9 = .ok (.iload_n 1, 1) := dk_27 ((dQ_X9_frauds_0 9).trans dk_j9)
theorem dX9_frauds_10 : decode cX9_frauds 10 = .ok (.invokevirtual 362, 3) := dk_182 ((dQ_X9_frauds_0 10).trans dk_j10) ((dQ_X9_frauds_0 11).trans dk_j11) ((dQ_X9_frauds_0 12).trans dk_j12) dk_vu2_1_106
theorem dX9_frauds_13 : decode cX9_frauds 13 = .ok (.goto 5, 3) := dk_167 ((dQ_X9_frauds_0 13).trans dk_j13) ((dQ_X9_frauds_0 14).trans dk_j14) ((dQ_X9_frauds_0 15).trans dk_j15) dk_vs2_0_5
theorem dX9_frauds_16 : decode cX9_frauds 16 = .ok (.bipush (-2), 2) := dk_16 ((dQ_X9_frauds_1 0).trans dk_j0) ((dQ_X9_frauds_1 1).trans dk_j1) dk_vs1_254
theorem dX9_frauds_18 : decode cX9_frauds 18 = .ok (.ireturn, 1) := dk_172 ((dQ_X9_frauds_1 2).trans dk_j2)
def dT_X9_numberAt_0 : List UInt8 := (0x2a : UInt8) :: (0xb4 : UInt8) :: (0x00 : UInt8) :: (0x52 : UInt8) :: (0x10 : UInt8) :: (0x3c : UInt8) :: (0x1b : UInt8) :: (0x68 : UInt8) :: (0x1c : UInt8) :: (0x60 : UInt8) :: (0x2f : UInt8) :: (0xad : UInt8) :: []
theorem dT_X9_numberAt : cX9_numberAt.data.toList = dT_X9_numberAt_0 := eq_of_beq (show (cX9_numberAt.data.toList == dT_X9_numberAt_0) = true by decide +kernel)
theorem dQ_X9_numberAt_0 : dQ_P cX9_numberAt 0 dT_X9_numberAt_0 := fun i => by rw [dT_X9_numberAt]; rfl
theorem dX9_numberAt_0 : decode cX9_numberAt 0 = .ok (.aload_n 0, 1) := dk_42 ((dQ_X9_numberAt_0 0).trans dk_j0)
theorem dX9_numberAt_1 : decode cX9_numberAt 1 = .ok (.getfield 82, 3) := dk_180 ((dQ_X9_numberAt_0 1).trans dk_j1) ((dQ_X9_numberAt_0 2).trans dk_j2) ((dQ_X9_numberAt_0 3).trans dk_j3) dk_vu2_0_82
theorem dX9_numberAt_4 : decode cX9_numberAt 4 = .ok (.bipush 60, 2) := dk_16 ((dQ_X9_numberAt_0 4).trans dk_j4) ((dQ_X9_numberAt_0 5).trans dk_j5) dk_vs1_60
theorem dX9_numberAt_6 : decode cX9_numberAt 6 = .ok (.iload_n 1, 1) := dk_27 ((dQ_X9_numberAt_0 6).trans dk_j6)
theorem dX9_numberAt_7 : decode cX9_numberAt 7 = .ok (.imul, 1) := dk_104 ((dQ_X9_numberAt_0 7).trans dk_j7)
theorem dX9_numberAt_8 : decode cX9_numberAt 8 = .ok (.iload_n 2, 1) := dk_28 ((dQ_X9_numberAt_0 8).trans dk_j8)
theorem dX9_numberAt_9 : decode cX9_numberAt 9 = .ok (.iadd, 1) := dk_96 ((dQ_X9_numberAt_0 9).trans dk_j9)
theorem dX9_numberAt_10 : decode cX9_numberAt 10 = .ok (.laload, 1) := dk_47 ((dQ_X9_numberAt_0 10).trans dk_j10)
theorem dX9_numberAt_11 : decode cX9_numberAt 11 = .ok (.lreturn, 1) := dk_173 ((dQ_X9_numberAt_0 11).trans dk_j11)
def dT_X9_layPairs_18 : List UInt8 := (0x54 : UInt8) :: (0x84 : UInt8) :: (0x02 : UInt8) :: (0x01 : UInt8) :: (0xa7 : UInt8) :: (0xff : UInt8) :: (0x44 : UInt8) :: (0x03 : UInt8) :: (0xac : UInt8) :: []
def dT_X9_layPairs_17 : List UInt8 := (0xdd : UInt8) :: (0x2a : UInt8) :: (0x59 : UInt8) :: (0xb4 : UInt8) :: (0x01 : UInt8) :: (0x74 : UInt8) :: (0x04 : UInt8) :: (0x60 : UInt8) :: (0xb5 : UInt8) :: (0x01 : UInt8) :: (0x74 : UInt8) :: (0x84 : UInt8) :: (0x03 : UInt8) :: (0x01 : UInt8) :: (0xa7 : UInt8) :: (0xff : UInt8) :: dT_X9_layPairs_18
def dT_X9_layPairs_16 : List UInt8 := (0x2a : UInt8) :: (0xb4 : UInt8) :: (0x00 : UInt8) :: (0x2b : UInt8) :: (0x15 : UInt8) :: (0x05 : UInt8) :: (0x2e : UInt8) :: (0xb8 : UInt8) :: (0x01 : UInt8) :: (0x16 : UInt8) :: (0x4f : UInt8) :: (0x84 : UInt8) :: (0x05 : UInt8) :: (0x01 : UInt8) :: (0xa7 : UInt8) :: (0xff : UInt8) :: dT_X9_layPairs_17
def dT_X9_layPairs_15 : List UInt8 := (0x00 : UInt8) :: (0x22 : UInt8) :: (0x2a : UInt8) :: (0xb4 : UInt8) :: (0x00 : UInt8) :: (0x49 : UInt8) :: (0x10 : UInt8) :: (0x06 : UInt8) :: (0x2a : UInt8) :: (0xb4 : UInt8) :: (0x01 : UInt8) :: (0x74 : UInt8) :: (0x68 : UInt8) :: (0x15 : UInt8) :: (0x05 : UInt8) :: (0x60 : UInt8) :: dT_X9_layPairs_16
def dT_X9_layPairs_14 : List UInt8 := (0x74 : UInt8) :: (0x10 : UInt8) :: (0x0a : UInt8) :: (0x1c : UInt8) :: (0x68 : UInt8) :: (0x1d : UInt8) :: (0x60 : UInt8) :: (0x4f : UInt8) :: (0x03 : UInt8) :: (0x36 : UInt8) :: (0x05 : UInt8) :: (0x15 : UInt8) :: (0x05 : UInt8) :: (0x10 : UInt8) :: (0x06 : UInt8) :: (0xa2 : UInt8) :: dT_X9_layPairs_15
def dT_X9_layPairs_13 : List UInt8 := (0xc8 : UInt8) :: (0x15 : UInt8) :: (0x04 : UInt8) :: (0x9a : UInt8) :: (0x00 : UInt8) :: (0x06 : UInt8) :: (0xa7 : UInt8) :: (0x00 : UInt8) :: (0x45 : UInt8) :: (0x2a : UInt8) :: (0xb4 : UInt8) :: (0x00 : UInt8) :: (0x46 : UInt8) :: (0x2a : UInt8) :: (0xb4 : UInt8) :: (0x01 : UInt8) :: dT_X9_layPairs_14
def dT_X9_layPairs_12 : List UInt8 := (0x04 : UInt8) :: (0xa0 : UInt8) :: (0x00 : UInt8) :: (0x07 : UInt8) :: (0x04 : UInt8) :: (0xa7 : UInt8) :: (0x00 : UInt8) :: (0x04 : UInt8) :: (0x03 : UInt8) :: (0x36 : UInt8) :: (0x04 : UInt8) :: (0x84 : UInt8) :: (0x05 : UInt8) :: (0x02 : UInt8) :: (0xa7 : UInt8) :: (0xff : UInt8) :: dT_X9_layPairs_13
def dT_X9_layPairs_11 : List UInt8 := (0x70 : UInt8) :: (0x88 : UInt8) :: (0x2e : UInt8) :: (0x2a : UInt8) :: (0x1b : UInt8) :: (0x15 : UInt8) :: (0x05 : UInt8) :: (0x04 : UInt8) :: (0x60 : UInt8) :: (0xb6 : UInt8) :: (0x01 : UInt8) :: (0x70 : UInt8) :: (0x88 : UInt8) :: (0xb8 : UInt8) :: (0x00 : UInt8) :: (0xfe : UInt8) :: dT_X9_layPairs_12
def dT_X9_layPairs_10 : List UInt8 := (0x33 : UInt8) :: (0x15 : UInt8) :: (0x04 : UInt8) :: (0x99 : UInt8) :: (0x00 : UInt8) :: (0x25 : UInt8) :: (0x2a : UInt8) :: (0xb4 : UInt8) :: (0x00 : UInt8) :: (0x2b : UInt8) :: (0x2a : UInt8) :: (0x1b : UInt8) :: (0x15 : UInt8) :: (0x05 : UInt8) :: (0xb6 : UInt8) :: (0x01 : UInt8) :: dT_X9_layPairs_11
def dT_X9_layPairs_9 : List UInt8 := (0x04 : UInt8) :: (0x36 : UInt8) :: (0x04 : UInt8) :: (0x03 : UInt8) :: (0x36 : UInt8) :: (0x05 : UInt8) :: (0x15 : UInt8) :: (0x05 : UInt8) :: (0x2a : UInt8) :: (0xb4 : UInt8) :: (0x00 : UInt8) :: (0x4c : UInt8) :: (0x1b : UInt8) :: (0x2e : UInt8) :: (0xa2 : UInt8) :: (0x00 : UInt8) :: dT_X9_layPairs_10
def dT_X9_layPairs_8 : List UInt8 := (0x60 : UInt8) :: (0x4f : UInt8) :: (0x2a : UInt8) :: (0xb6 : UInt8) :: (0x01 : UInt8) :: (0x0a : UInt8) :: (0x2a : UInt8) :: (0xb4 : UInt8) :: (0x00 : UInt8) :: (0x22 : UInt8) :: (0x1c : UInt8) :: (0x5c : UInt8) :: (0x2e : UInt8) :: (0x1d : UInt8) :: (0x64 : UInt8) :: (0x4f : UInt8) :: dT_X9_layPairs_9
def dT_X9_layPairs_7 : List UInt8 := (0x04 : UInt8) :: (0x3e : UInt8) :: (0x1d : UInt8) :: (0x10 : UInt8) :: (0x09 : UInt8) :: (0xa3 : UInt8) :: (0x00 : UInt8) :: (0xac : UInt8) :: (0x2a : UInt8) :: (0xb4 : UInt8) :: (0x00 : UInt8) :: (0x22 : UInt8) :: (0x1c : UInt8) :: (0x5c : UInt8) :: (0x2e : UInt8) :: (0x1d : UInt8) :: dT_X9_layPairs_8
def dT_X9_layPairs_6 : List UInt8 := (0x07 : UInt8) :: (0x2a : UInt8) :: (0x03 : UInt8) :: (0xb5 : UInt8) :: (0x01 : UInt8) :: (0x74 : UInt8) :: (0x03 : UInt8) :: (0x3d : UInt8) :: (0x1c : UInt8) :: (0x2a : UInt8) :: (0xb6 : UInt8) :: (0x00 : UInt8) :: (0xf9 : UInt8) :: (0xa2 : UInt8) :: (0x00 : UInt8) :: (0xba : UInt8) :: dT_X9_layPairs_7
def dT_X9_layPairs_5 : List UInt8 := (0x13 : UInt8) :: (0x9a : UInt8) :: (0x00 : UInt8) :: (0x06 : UInt8) :: (0x10 : UInt8) :: (0xfe : UInt8) :: (0xac : UInt8) :: (0x84 : UInt8) :: (0x02 : UInt8) :: (0x02 : UInt8) :: (0xa7 : UInt8) :: (0xff : UInt8) :: (0xd4 : UInt8) :: (0x2a : UInt8) :: (0xb6 : UInt8) :: (0x01 : UInt8) :: dT_X9_layPairs_6
def dT_X9_layPairs_4 : List UInt8 := (0x00 : UInt8) :: (0xe0 : UInt8) :: (0x99 : UInt8) :: (0x00 : UInt8) :: (0x12 : UInt8) :: (0x2a : UInt8) :: (0x2a : UInt8) :: (0x1b : UInt8) :: (0x1c : UInt8) :: (0x04 : UInt8) :: (0x60 : UInt8) :: (0xb6 : UInt8) :: (0x01 : UInt8) :: (0x70 : UInt8) :: (0xb6 : UInt8) :: (0x01 : UInt8) :: dT_X9_layPairs_5
def dT_X9_layPairs_3 : List UInt8 := (0xb4 : UInt8) :: (0x00 : UInt8) :: (0x4c : UInt8) :: (0x1b : UInt8) :: (0x2e : UInt8) :: (0xa2 : UInt8) :: (0x00 : UInt8) :: (0x28 : UInt8) :: (0x2a : UInt8) :: (0x2a : UInt8) :: (0x1b : UInt8) :: (0x1c : UInt8) :: (0xb6 : UInt8) :: (0x01 : UInt8) :: (0x70 : UInt8) :: (0xb6 : UInt8) :: dT_X9_layPairs_4
def dT_X9_layPairs_2 : List UInt8 := (0x00 : UInt8) :: (0x4c : UInt8) :: (0x1b : UInt8) :: (0x2e : UInt8) :: (0x05 : UInt8) :: (0x70 : UInt8) :: (0x99 : UInt8) :: (0x00 : UInt8) :: (0x06 : UInt8) :: (0x10 : UInt8) :: (0xfe : UInt8) :: (0xac : UInt8) :: (0x03 : UInt8) :: (0x3d : UInt8) :: (0x1c : UInt8) :: (0x2a : UInt8) :: dT_X9_layPairs_3
def dT_X9_layPairs_1 : List UInt8 := (0xac : UInt8) :: (0x2a : UInt8) :: (0xb4 : UInt8) :: (0x00 : UInt8) :: (0x4c : UInt8) :: (0x1b : UInt8) :: (0x2e : UInt8) :: (0x02 : UInt8) :: (0xa0 : UInt8) :: (0x00 : UInt8) :: (0x06 : UInt8) :: (0x10 : UInt8) :: (0xfa : UInt8) :: (0xac : UInt8) :: (0x2a : UInt8) :: (0xb4 : UInt8) :: dT_X9_layPairs_2
def dT_X9_layPairs_0 : List UInt8 := (0x1b : UInt8) :: (0xb8 : UInt8) :: (0x01 : UInt8) :: (0x6d : UInt8) :: (0x99 : UInt8) :: (0x00 : UInt8) :: (0x0a : UInt8) :: (0x2a : UInt8) :: (0xb6 : UInt8) :: (0x01 : UInt8) :: (0x0d : UInt8) :: (0x9a : UInt8) :: (0x00 : UInt8) :: (0x06 : UInt8) :: (0x10 : UInt8) :: (0xfe : UInt8) :: dT_X9_layPairs_1
theorem dT_X9_layPairs : cX9_layPairs.data.toList = dT_X9_layPairs_0 := eq_of_beq (show (cX9_layPairs.data.toList == dT_X9_layPairs_0) = true by decide +kernel)
theorem dQ_X9_layPairs_0 : dQ_P cX9_layPairs 0 dT_X9_layPairs_0 := fun i => by rw [dT_X9_layPairs]; rfl
theorem dQ_X9_layPairs_1 : dQ_P cX9_layPairs 16 dT_X9_layPairs_1 := fun i => (dQ_X9_layPairs_0 (i + 16)).trans dk_t
theorem dQ_X9_layPairs_2 : dQ_P cX9_layPairs 32 dT_X9_layPairs_2 := fun i => (dQ_X9_layPairs_1 (i + 16)).trans dk_t
theorem dQ_X9_layPairs_3 : dQ_P cX9_layPairs 48 dT_X9_layPairs_3 := fun i => (dQ_X9_layPairs_2 (i + 16)).trans dk_t
theorem dQ_X9_layPairs_4 : dQ_P cX9_layPairs 64 dT_X9_layPairs_4 := fun i => (dQ_X9_layPairs_3 (i + 16)).trans dk_t
theorem dQ_X9_layPairs_5 : dQ_P cX9_layPairs 80 dT_X9_layPairs_5 := fun i => (dQ_X9_layPairs_4 (i + 16)).trans dk_t
theorem dQ_X9_layPairs_6 : dQ_P cX9_layPairs 96 dT_X9_layPairs_6 := fun i => (dQ_X9_layPairs_5 (i + 16)).trans dk_t
theorem dQ_X9_layPairs_7 : dQ_P cX9_layPairs 112 dT_X9_layPairs_7 := fun i => (dQ_X9_layPairs_6 (i + 16)).trans dk_t
theorem dQ_X9_layPairs_8 : dQ_P cX9_layPairs 128 dT_X9_layPairs_8 := fun i => (dQ_X9_layPairs_7 (i + 16)).trans dk_t
theorem dQ_X9_layPairs_9 : dQ_P cX9_layPairs 144 dT_X9_layPairs_9 := fun i => (dQ_X9_layPairs_8 (i + 16)).trans dk_t
theorem dQ_X9_layPairs_10 : dQ_P cX9_layPairs 160 dT_X9_layPairs_10 := fun i => (dQ_X9_layPairs_9 (i + 16)).trans dk_t
theorem dQ_X9_layPairs_11 : dQ_P cX9_layPairs 176 dT_X9_layPairs_11 := fun i => (dQ_X9_layPairs_10 (i + 16)).trans dk_t
theorem dQ_X9_layPairs_12 : dQ_P cX9_layPairs 192 dT_X9_layPairs_12 := fun i => (dQ_X9_layPairs_11 (i + 16)).trans dk_t
theorem dQ_X9_layPairs_13 : dQ_P cX9_layPairs 208 dT_X9_layPairs_13 := fun i => (dQ_X9_layPairs_12 (i + 16)).trans dk_t
theorem dQ_X9_layPairs_14 : dQ_P cX9_layPairs 224 dT_X9_layPairs_14 := fun i => (dQ_X9_layPairs_13 (i + 16)).trans dk_t
theorem dQ_X9_layPairs_15 : dQ_P cX9_layPairs 240 dT_X9_layPairs_15 := fun i => (dQ_X9_layPairs_14 (i + 16)).trans dk_t
theorem dQ_X9_layPairs_16 : dQ_P cX9_layPairs 256 dT_X9_layPairs_16 := fun i => (dQ_X9_layPairs_15 (i + 16)).trans dk_t
theorem dQ_X9_layPairs_17 : dQ_P cX9_layPairs 272 dT_X9_layPairs_17 := fun i => (dQ_X9_layPairs_16 (i + 16)).trans dk_t
theorem dQ_X9_layPairs_18 : dQ_P cX9_layPairs 288 dT_X9_layPairs_18 := fun i => (dQ_X9_layPairs_17 (i + 16)).trans dk_t
theorem dX9_layPairs_0 : decode cX9_layPairs 0 = .ok (.iload_n 1, 1) := dk_27 ((dQ_X9_layPairs_0 0).trans dk_j0)
theorem dk_vu2_1_109 : (0x01 : UInt8).toNat * 256 + (0x6d : UInt8).toNat = (365 : Nat) := by decide +kernel
theorem dX9_layPairs_1 : decode cX9_layPairs 1 = .ok (.invokestatic 365, 3) := dk_184 ((dQ_X9_layPairs_0 1).trans dk_j1) ((dQ_X9_layPairs_0 2).trans dk_j2) ((dQ_X9_layPairs_0 3).trans dk_j3) dk_vu2_1_109
theorem dX9_layPairs_4 : decode cX9_layPairs 4 = .ok (.ifCond .eq 10, 3) := dk_153 ((dQ_X9_layPairs_0 4).trans dk_j4) ((dQ_X9_layPairs_0 5).trans dk_j5) ((dQ_X9_layPairs_0 6).trans dk_j6) dk_vs2_0_10
theorem dX9_layPairs_7 : decode cX9_layPairs 7 = .ok (.aload_n 0, 1) := dk_42 ((dQ_X9_layPairs_0 7).trans dk_j7)
theorem dX9_layPairs_8 : decode cX9_layPairs 8 = .ok (.invokevirtual 269, 3) := dk_182 ((dQ_X9_layPairs_0 8).trans dk_j8) ((dQ_X9_layPairs_0 9).trans dk_j9) ((dQ_X9_layPairs_0 10).trans dk_j10) dk_vu2_1_13
theorem dX9_layPairs_11 : decode cX9_layPairs 11 = .ok (.ifCond .ne 6, 3) := dk_154 ((dQ_X9_layPairs_0 11).trans dk_j11) ((dQ_X9_layPairs_0 12).trans dk_j12) ((dQ_X9_layPairs_0 13).trans dk_j13) dk_vs2_0_6
theorem dX9_layPairs_14 : decode cX9_layPairs 14 = .ok (.bipush (-2), 2) := dk_16 ((dQ_X9_layPairs_0 14).trans dk_j14) ((dQ_X9_layPairs_0 15).trans dk_j15) dk_vs1_254
theorem dX9_layPairs_16 : decode cX9_layPairs 16 = .ok (.ireturn, 1) := dk_172 ((dQ_X9_layPairs_1 0).trans dk_j0)
theorem dX9_layPairs_17 : decode cX9_layPairs 17 = .ok (.aload_n 0, 1) := dk_42 ((dQ_X9_layPairs_1 1).trans dk_j1)
theorem dX9_layPairs_18 : decode cX9_layPairs 18 = .ok (.getfield 76, 3) := dk_180 ((dQ_X9_layPairs_1 2).trans dk_j2) ((dQ_X9_layPairs_1 3).trans dk_j3) ((dQ_X9_layPairs_1 4).trans dk_j4) dk_vu2_0_76
theorem dX9_layPairs_21 : decode cX9_layPairs 21 = .ok (.iload_n 1, 1) := dk_27 ((dQ_X9_layPairs_1 5).trans dk_j5)
theorem dX9_layPairs_22 : decode cX9_layPairs 22 = .ok (.iaload, 1) := dk_46 ((dQ_X9_layPairs_1 6).trans dk_j6)
theorem dX9_layPairs_23 : decode cX9_layPairs 23 = .ok (.iconst (-1), 1) := dk_2 ((dQ_X9_layPairs_1 7).trans dk_j7)
theorem dX9_layPairs_24 : decode cX9_layPairs 24 = .ok (.if_icmp .ne 6, 3) := dk_160 ((dQ_X9_layPairs_1 8).trans dk_j8) ((dQ_X9_layPairs_1 9).trans dk_j9) ((dQ_X9_layPairs_1 10).trans dk_j10) dk_vs2_0_6
theorem dX9_layPairs_27 : decode cX9_layPairs 27 = .ok (.bipush (-6), 2) := dk_16 ((dQ_X9_layPairs_1 11).trans dk_j11) ((dQ_X9_layPairs_1 12).trans dk_j12) dk_vs1_250
theorem dX9_layPairs_29 : decode cX9_layPairs 29 = .ok (.ireturn, 1) := dk_172 ((dQ_X9_layPairs_1 13).trans dk_j13)
theorem dX9_layPairs_30 : decode cX9_layPairs 30 = .ok (.aload_n 0, 1) := dk_42 ((dQ_X9_layPairs_1 14).trans dk_j14)
theorem dX9_layPairs_31 : decode cX9_layPairs 31 = .ok (.getfield 76, 3) := dk_180 ((dQ_X9_layPairs_1 15).trans dk_j15) ((dQ_X9_layPairs_2 0).trans dk_j0) ((dQ_X9_layPairs_2 1).trans dk_j1) dk_vu2_0_76
theorem dX9_layPairs_34 : decode cX9_layPairs 34 = .ok (.iload_n 1, 1) := dk_27 ((dQ_X9_layPairs_2 2).trans dk_j2)
theorem dX9_layPairs_35 : decode cX9_layPairs 35 = .ok (.iaload, 1) := dk_46 ((dQ_X9_layPairs_2 3).trans dk_j3)
theorem dX9_layPairs_36 : decode cX9_layPairs 36 = .ok (.iconst 2, 1) := dk_5 ((dQ_X9_layPairs_2 4).trans dk_j4)
theorem dX9_layPairs_37 : decode cX9_layPairs 37 = .ok (.irem, 1) := dk_112 ((dQ_X9_layPairs_2 5).trans dk_j5)
theorem dX9_layPairs_38 : decode cX9_layPairs 38 = .ok (.ifCond .eq 6, 3) := dk_153 ((dQ_X9_layPairs_2 6).trans dk_j6) ((dQ_X9_layPairs_2 7).trans dk_j7) ((dQ_X9_layPairs_2 8).trans dk_j8) dk_vs2_0_6
theorem dX9_layPairs_41 : decode cX9_layPairs 41 = .ok (.bipush (-2), 2) := dk_16 ((dQ_X9_layPairs_2 9).trans dk_j9) ((dQ_X9_layPairs_2 10).trans dk_j10) dk_vs1_254
theorem dX9_layPairs_43 : decode cX9_layPairs 43 = .ok (.ireturn, 1) := dk_172 ((dQ_X9_layPairs_2 11).trans dk_j11)
theorem dX9_layPairs_44 : decode cX9_layPairs 44 = .ok (.iconst 0, 1) := dk_3 ((dQ_X9_layPairs_2 12).trans dk_j12)
theorem dX9_layPairs_45 : decode cX9_layPairs 45 = .ok (.istore_n 2, 1) := dk_61 ((dQ_X9_layPairs_2 13).trans dk_j13)
theorem dX9_layPairs_46 : decode cX9_layPairs 46 = .ok (.iload_n 2, 1) := dk_28 ((dQ_X9_layPairs_2 14).trans dk_j14)
theorem dX9_layPairs_47 : decode cX9_layPairs 47 = .ok (.aload_n 0, 1) := dk_42 ((dQ_X9_layPairs_2 15).trans dk_j15)
theorem dX9_layPairs_48 : decode cX9_layPairs 48 = .ok (.getfield 76, 3) := dk_180 ((dQ_X9_layPairs_3 0).trans dk_j0) ((dQ_X9_layPairs_3 1).trans dk_j1) ((dQ_X9_layPairs_3 2).trans dk_j2) dk_vu2_0_76
theorem dX9_layPairs_51 : decode cX9_layPairs 51 = .ok (.iload_n 1, 1) := dk_27 ((dQ_X9_layPairs_3 3).trans dk_j3)
theorem dX9_layPairs_52 : decode cX9_layPairs 52 = .ok (.iaload, 1) := dk_46 ((dQ_X9_layPairs_3 4).trans dk_j4)
theorem dk_vs2_0_40 : Reader.signed 16 ((0x00 : UInt8).toNat * 256 + (0x28 : UInt8).toNat) = (40 : Int) := by decide +kernel
theorem dX9_layPairs_53 : decode cX9_layPairs 53 = .ok (.if_icmp .ge 40, 3) := dk_162 ((dQ_X9_layPairs_3 5).trans dk_j5) ((dQ_X9_layPairs_3 6).trans dk_j6) ((dQ_X9_layPairs_3 7).trans dk_j7) dk_vs2_0_40
theorem dX9_layPairs_56 : decode cX9_layPairs 56 = .ok (.aload_n 0, 1) := dk_42 ((dQ_X9_layPairs_3 8).trans dk_j8)
theorem dX9_layPairs_57 : decode cX9_layPairs 57 = .ok (.aload_n 0, 1) := dk_42 ((dQ_X9_layPairs_3 9).trans dk_j9)
theorem dX9_layPairs_58 : decode cX9_layPairs 58 = .ok (.iload_n 1, 1) := dk_27 ((dQ_X9_layPairs_3 10).trans dk_j10)
theorem dX9_layPairs_59 : decode cX9_layPairs 59 = .ok (.iload_n 2, 1) := dk_28 ((dQ_X9_layPairs_3 11).trans dk_j11)
theorem dk_vu2_1_112 : (0x01 : UInt8).toNat * 256 + (0x70 : UInt8).toNat = (368 : Nat) := by decide +kernel
theorem dX9_layPairs_60 : decode cX9_layPairs 60 = .ok (.invokevirtual 368, 3) := dk_182 ((dQ_X9_layPairs_3 12).trans dk_j12) ((dQ_X9_layPairs_3 13).trans dk_j13) ((dQ_X9_layPairs_3 14).trans dk_j14) dk_vu2_1_112
theorem dX9_layPairs_63 : decode cX9_layPairs 63 = .ok (.invokevirtual 224, 3) := dk_182 ((dQ_X9_layPairs_3 15).trans dk_j15) ((dQ_X9_layPairs_4 0).trans dk_j0) ((dQ_X9_layPairs_4 1).trans dk_j1) dk_vu2_0_224
theorem dX9_layPairs_66 : decode cX9_layPairs 66 = .ok (.ifCond .eq 18, 3) := dk_153 ((dQ_X9_layPairs_4 2).trans dk_j2) ((dQ_X9_layPairs_4 3).trans dk_j3) ((dQ_X9_layPairs_4 4).trans dk_j4) dk_vs2_0_18
theorem dX9_layPairs_69 : decode cX9_layPairs 69 = .ok (.aload_n 0, 1) := dk_42 ((dQ_X9_layPairs_4 5).trans dk_j5)
theorem dX9_layPairs_70 : decode cX9_layPairs 70 = .ok (.aload_n 0, 1) := dk_42 ((dQ_X9_layPairs_4 6).trans dk_j6)
theorem dX9_layPairs_71 : decode cX9_layPairs 71 = .ok (.iload_n 1, 1) := dk_27 ((dQ_X9_layPairs_4 7).trans dk_j7)
theorem dX9_layPairs_72 : decode cX9_layPairs 72 = .ok (.iload_n 2, 1) := dk_28 ((dQ_X9_layPairs_4 8).trans dk_j8)
theorem dX9_layPairs_73 : decode cX9_layPairs 73 = .ok (.iconst 1, 1) := dk_4 ((dQ_X9_layPairs_4 9).trans dk_j9)
theorem dX9_layPairs_74 : decode cX9_layPairs 74 = .ok (.iadd, 1) := dk_96 ((dQ_X9_layPairs_4 10).trans dk_j10)
theorem dX9_layPairs_75 : decode cX9_layPairs 75 = .ok (.invokevirtual 368, 3) := dk_182 ((dQ_X9_layPairs_4 11).trans dk_j11) ((dQ_X9_layPairs_4 12).trans dk_j12) ((dQ_X9_layPairs_4 13).trans dk_j13) dk_vu2_1_112
theorem dX9_layPairs_78 : decode cX9_layPairs 78 = .ok (.invokevirtual 275, 3) := dk_182 ((dQ_X9_layPairs_4 14).trans dk_j14) ((dQ_X9_layPairs_4 15).trans dk_j15) ((dQ_X9_layPairs_5 0).trans dk_j0) dk_vu2_1_19
theorem dX9_layPairs_81 : decode cX9_layPairs 81 = .ok (.ifCond .ne 6, 3) := dk_154 ((dQ_X9_layPairs_5 1).trans dk_j1) ((dQ_X9_layPairs_5 2).trans dk_j2) ((dQ_X9_layPairs_5 3).trans dk_j3) dk_vs2_0_6
theorem dX9_layPairs_84 : decode cX9_layPairs 84 = .ok (.bipush (-2), 2) := dk_16 ((dQ_X9_layPairs_5 4).trans dk_j4) ((dQ_X9_layPairs_5 5).trans dk_j5) dk_vs1_254
theorem dX9_layPairs_86 : decode cX9_layPairs 86 = .ok (.ireturn, 1) := dk_172 ((dQ_X9_layPairs_5 6).trans dk_j6)
theorem dk_vs1_2 : Reader.signed 8 (0x02 : UInt8).toNat = (2 : Int) := by decide +kernel
theorem dX9_layPairs_87 : decode cX9_layPairs 87 = .ok (.iinc 2 2, 3) := dk_132 ((dQ_X9_layPairs_5 7).trans dk_j7) ((dQ_X9_layPairs_5 8).trans dk_j8) ((dQ_X9_layPairs_5 9).trans dk_j9) dk_vu1_2 dk_vs1_2
theorem dk_vs2_255_212 : Reader.signed 16 ((0xff : UInt8).toNat * 256 + (0xd4 : UInt8).toNat) = (-44 : Int) := by decide +kernel
theorem dX9_layPairs_90 : decode cX9_layPairs 90 = .ok (.goto (-44), 3) := dk_167 ((dQ_X9_layPairs_5 10).trans dk_j10) ((dQ_X9_layPairs_5 11).trans dk_j11) ((dQ_X9_layPairs_5 12).trans dk_j12) dk_vs2_255_212
theorem dX9_layPairs_93 : decode cX9_layPairs 93 = .ok (.aload_n 0, 1) := dk_42 ((dQ_X9_layPairs_5 13).trans dk_j13)
theorem dX9_layPairs_94 : decode cX9_layPairs 94 = .ok (.invokevirtual 263, 3) := dk_182 ((dQ_X9_layPairs_5 14).trans dk_j14) ((dQ_X9_layPairs_5 15).trans dk_j15) ((dQ_X9_layPairs_6 0).trans dk_j0) dk_vu2_1_7
theorem dX9_layPairs_97 : decode cX9_layPairs 97 = .ok (.aload_n 0, 1) := dk_42 ((dQ_X9_layPairs_6 1).trans dk_j1)
theorem dX9_layPairs_98 : decode cX9_layPairs 98 = .ok (.iconst 0, 1) := dk_3 ((dQ_X9_layPairs_6 2).trans dk_j2)
theorem dk_vu2_1_116 : (0x01 : UInt8).toNat * 256 + (0x74 : UInt8).toNat = (372 : Nat) := by decide +kernel
theorem dX9_layPairs_99 : decode cX9_layPairs 99 = .ok (.putfield 372, 3) := dk_181 ((dQ_X9_layPairs_6 3).trans dk_j3) ((dQ_X9_layPairs_6 4).trans dk_j4) ((dQ_X9_layPairs_6 5).trans dk_j5) dk_vu2_1_116
theorem dX9_layPairs_102 : decode cX9_layPairs 102 = .ok (.iconst 0, 1) := dk_3 ((dQ_X9_layPairs_6 6).trans dk_j6)
theorem dX9_layPairs_103 : decode cX9_layPairs 103 = .ok (.istore_n 2, 1) := dk_61 ((dQ_X9_layPairs_6 7).trans dk_j7)
theorem dX9_layPairs_104 : decode cX9_layPairs 104 = .ok (.iload_n 2, 1) := dk_28 ((dQ_X9_layPairs_6 8).trans dk_j8)
theorem dX9_layPairs_105 : decode cX9_layPairs 105 = .ok (.aload_n 0, 1) := dk_42 ((dQ_X9_layPairs_6 9).trans dk_j9)
theorem dX9_layPairs_106 : decode cX9_layPairs 106 = .ok (.invokevirtual 249, 3) := dk_182 ((dQ_X9_layPairs_6 10).trans dk_j10) ((dQ_X9_layPairs_6 11).trans dk_j11) ((dQ_X9_layPairs_6 12).trans dk_j12) dk_vu2_0_249
theorem dk_vs2_0_186 : Reader.signed 16 ((0x00 : UInt8).toNat * 256 + (0xba : UInt8).toNat) = (186 : Int) := by decide +kernel
theorem dX9_layPairs_109 : decode cX9_layPairs 109 = .ok (.if_icmp .ge 186, 3) := dk_162 ((dQ_X9_layPairs_6 13).trans dk_j13) ((dQ_X9_layPairs_6 14).trans dk_j14) ((dQ_X9_layPairs_6 15).trans dk_j15) dk_vs2_0_186
theorem dX9_layPairs_112 : decode cX9_layPairs 112 = .ok (.iconst 1, 1) := dk_4 ((dQ_X9_layPairs_7 0).trans dk_j0)
theorem dX9_layPairs_113 : decode cX9_layPairs 113 = .ok (.istore_n 3, 1) := dk_62 ((dQ_X9_layPairs_7 1).trans dk_j1)
theorem dX9_layPairs_114 : decode cX9_layPairs 114 = .ok (.iload_n 3, 1) := dk_29 ((dQ_X9_layPairs_7 2).trans dk_j2)
theorem dX9_layPairs_115 : decode cX9_layPairs 115 = .ok (.bipush 9, 2) := dk_16 ((dQ_X9_layPairs_7 3).trans dk_j3) ((dQ_X9_layPairs_7 4).trans dk_j4) dk_vs1_9
theorem dk_vs2_0_172 : Reader.signed 16 ((0x00 : UInt8).toNat * 256 + (0xac : UInt8).toNat) = (172 : Int) := by decide +kernel
theorem dX9_layPairs_117 : decode cX9_layPairs 117 = .ok (.if_icmp .gt 172, 3) := dk_163 ((dQ_X9_layPairs_7 5).trans dk_j5) ((dQ_X9_layPairs_7 6).trans dk_j6) ((dQ_X9_layPairs_7 7).trans dk_j7) dk_vs2_0_172
theorem dX9_layPairs_120 : decode cX9_layPairs 120 = .ok (.aload_n 0, 1) := dk_42 ((dQ_X9_layPairs_7 8).trans dk_j8)
theorem dX9_layPairs_121 : decode cX9_layPairs 121 = .ok (.getfield 34, 3) := dk_180 ((dQ_X9_layPairs_7 9).trans dk_j9) ((dQ_X9_layPairs_7 10).trans dk_j10) ((dQ_X9_layPairs_7 11).trans dk_j11) dk_vu2_0_34
theorem dX9_layPairs_124 : decode cX9_layPairs 124 = .ok (.iload_n 2, 1) := dk_28 ((dQ_X9_layPairs_7 12).trans dk_j12)
theorem dX9_layPairs_125 : decode cX9_layPairs 125 = .ok (.dup2, 1) := dk_92 ((dQ_X9_layPairs_7 13).trans dk_j13)
theorem dX9_layPairs_126 : decode cX9_layPairs 126 = .ok (.iaload, 1) := dk_46 ((dQ_X9_layPairs_7 14).trans dk_j14)
theorem dX9_layPairs_127 : decode cX9_layPairs 127 = .ok (.iload_n 3, 1) := dk_29 ((dQ_X9_layPairs_7 15).trans dk_j15)
theorem dX9_layPairs_128 : decode cX9_layPairs 128 = .ok (.iadd, 1) := dk_96 ((dQ_X9_layPairs_8 0).trans dk_j0)
theorem dX9_layPairs_129 : decode cX9_layPairs 129 = .ok (.iastore, 1) := dk_79 ((dQ_X9_layPairs_8 1).trans dk_j1)
theorem dX9_layPairs_130 : decode cX9_layPairs 130 = .ok (.aload_n 0, 1) := dk_42 ((dQ_X9_layPairs_8 2).trans dk_j2)
theorem dX9_layPairs_131 : decode cX9_layPairs 131 = .ok (.invokevirtual 266, 3) := dk_182 ((dQ_X9_layPairs_8 3).trans dk_j3) ((dQ_X9_layPairs_8 4).trans dk_j4) ((dQ_X9_layPairs_8 5).trans dk_j5) dk_vu2_1_10
theorem dX9_layPairs_134 : decode cX9_layPairs 134 = .ok (.aload_n 0, 1) := dk_42 ((dQ_X9_layPairs_8 6).trans dk_j6)
theorem dX9_layPairs_135 : decode cX9_layPairs 135 = .ok (.getfield 34, 3) := dk_180 ((dQ_X9_layPairs_8 7).trans dk_j7) ((dQ_X9_layPairs_8 8).trans dk_j8) ((dQ_X9_layPairs_8 9).trans dk_j9) dk_vu2_0_34
theorem dX9_layPairs_138 : decode cX9_layPairs 138 = .ok (.iload_n 2, 1) := dk_28 ((dQ_X9_layPairs_8 10).trans dk_j10)
theorem dX9_layPairs_139 : decode cX9_layPairs 139 = .ok (.dup2, 1) := dk_92 ((dQ_X9_layPairs_8 11).trans dk_j11)
theorem dX9_layPairs_140 : decode cX9_layPairs 140 = .ok (.iaload, 1) := dk_46 ((dQ_X9_layPairs_8 12).trans dk_j12)
theorem dX9_layPairs_141 : decode cX9_layPairs 141 = .ok (.iload_n 3, 1) := dk_29 ((dQ_X9_layPairs_8 13).trans dk_j13)
theorem dX9_layPairs_142 : decode cX9_layPairs 142 = .ok (.isub, 1) := dk_100 ((dQ_X9_layPairs_8 14).trans dk_j14)
theorem dX9_layPairs_143 : decode cX9_layPairs 143 = .ok (.iastore, 1) := dk_79 ((dQ_X9_layPairs_8 15).trans dk_j15)
theorem dX9_layPairs_144 : decode cX9_layPairs 144 = .ok (.iconst 1, 1) := dk_4 ((dQ_X9_layPairs_9 0).trans dk_j0)
theorem dX9_layPairs_145 : decode cX9_layPairs 145 = .ok (.istore 4, 2) := dk_54 ((dQ_X9_layPairs_9 1).trans dk_j1) ((dQ_X9_layPairs_9 2).trans dk_j2) dk_vu1_4
theorem dX9_layPairs_147 : decode cX9_layPairs 147 = .ok (.iconst 0, 1) := dk_3 ((dQ_X9_layPairs_9 3).trans dk_j3)
theorem dX9_layPairs_148 : decode cX9_layPairs 148 = .ok (.istore 5, 2) := dk_54 ((dQ_X9_layPairs_9 4).trans dk_j4) ((dQ_X9_layPairs_9 5).trans dk_j5) dk_vu1_5
theorem dX9_layPairs_150 : decode cX9_layPairs 150 = .ok (.iload 5, 2) := dk_21 ((dQ_X9_layPairs_9 6).trans dk_j6) ((dQ_X9_layPairs_9 7).trans dk_j7) dk_vu1_5
theorem dX9_layPairs_152 : decode cX9_layPairs 152 = .ok (.aload_n 0, 1) := dk_42 ((dQ_X9_layPairs_9 8).trans dk_j8)
theorem dX9_layPairs_153 : decode cX9_layPairs 153 = .ok (.getfield 76, 3) := dk_180 ((dQ_X9_layPairs_9 9).trans dk_j9) ((dQ_X9_layPairs_9 10).trans dk_j10) ((dQ_X9_layPairs_9 11).trans dk_j11) dk_vu2_0_76
theorem dX9_layPairs_156 : decode cX9_layPairs 156 = .ok (.iload_n 1, 1) := dk_27 ((dQ_X9_layPairs_9 12).trans dk_j12)
theorem dX9_layPairs_157 : decode cX9_layPairs 157 = .ok (.iaload, 1) := dk_46 ((dQ_X9_layPairs_9 13).trans dk_j13)
theorem dk_vs2_0_51 : Reader.signed 16 ((0x00 : UInt8).toNat * 256 + (0x33 : UInt8).toNat) = (51 : Int) := by decide +kernel
theorem dX9_layPairs_158 : decode cX9_layPairs 158 = .ok (.if_icmp .ge 51, 3) := dk_162 ((dQ_X9_layPairs_9 14).trans dk_j14) ((dQ_X9_layPairs_9 15).trans dk_j15) ((dQ_X9_layPairs_10 0).trans dk_j0) dk_vs2_0_51
theorem dX9_layPairs_161 : decode cX9_layPairs 161 = .ok (.iload 4, 2) := dk_21 ((dQ_X9_layPairs_10 1).trans dk_j1) ((dQ_X9_layPairs_10 2).trans dk_j2) dk_vu1_4
theorem dX9_layPairs_163 : decode cX9_layPairs 163 = .ok (.ifCond .eq 37, 3) := dk_153 ((dQ_X9_layPairs_10 3).trans dk_j3) ((dQ_X9_layPairs_10 4).trans dk_j4) ((dQ_X9_layPairs_10 5).trans dk_j5) dk_vs2_0_37
theorem dX9_layPairs_166 : decode cX9_layPairs 166 = .ok (.aload_n 0, 1) := dk_42 ((dQ_X9_layPairs_10 6).trans dk_j6)
theorem dX9_layPairs_167 : decode cX9_layPairs 167 = .ok (.getfield 43, 3) := dk_180 ((dQ_X9_layPairs_10 7).trans dk_j7) ((dQ_X9_layPairs_10 8).trans dk_j8) ((dQ_X9_layPairs_10 9).trans dk_j9) dk_vu2_0_43
theorem dX9_layPairs_170 : decode cX9_layPairs 170 = .ok (.aload_n 0, 1) := dk_42 ((dQ_X9_layPairs_10 10).trans dk_j10)
theorem dX9_layPairs_171 : decode cX9_layPairs 171 = .ok (.iload_n 1, 1) := dk_27 ((dQ_X9_layPairs_10 11).trans dk_j11)
theorem dX9_layPairs_172 : decode cX9_layPairs 172 = .ok (.iload 5, 2) := dk_21 ((dQ_X9_layPairs_10 12).trans dk_j12) ((dQ_X9_layPairs_10 13).trans dk_j13) dk_vu1_5
theorem dX9_layPairs_174 : decode cX9_layPairs 174 = .ok (.invokevirtual 368, 3) := dk_182 ((dQ_X9_layPairs_10 14).trans dk_j14) ((dQ_X9_layPairs_10 15).trans dk_j15) ((dQ_X9_layPairs_11 0).trans dk_j0) dk_vu2_1_112
theorem dX9_layPairs_177 : decode cX9_layPairs 177 = .ok (.l2i, 1) := dk_136 ((dQ_X9_layPairs_11 1).trans dk_j1)
theorem dX9_layPairs_178 : decode cX9_layPairs 178 = .ok (.iaload, 1) := dk_46 ((dQ_X9_layPairs_11 2).trans dk_j2)
theorem dX9_layPairs_179 : decode cX9_layPairs 179 = .ok (.aload_n 0, 1) := dk_42 ((dQ_X9_layPairs_11 3).trans dk_j3)
theorem dX9_layPairs_180 : decode cX9_layPairs 180 = .ok (.iload_n 1, 1) := dk_27 ((dQ_X9_layPairs_11 4).trans dk_j4)
theorem dX9_layPairs_181 : decode cX9_layPairs 181 = .ok (.iload 5, 2) := dk_21 ((dQ_X9_layPairs_11 5).trans dk_j5) ((dQ_X9_layPairs_11 6).trans dk_j6) dk_vu1_5
theorem dX9_layPairs_183 : decode cX9_layPairs 183 = .ok (.iconst 1, 1) := dk_4 ((dQ_X9_layPairs_11 7).trans dk_j7)
theorem dX9_layPairs_184 : decode cX9_layPairs 184 = .ok (.iadd, 1) := dk_96 ((dQ_X9_layPairs_11 8).trans dk_j8)
theorem dX9_layPairs_185 : decode cX9_layPairs 185 = .ok (.invokevirtual 368, 3) := dk_182 ((dQ_X9_layPairs_11 9).trans dk_j9) ((dQ_X9_layPairs_11 10).trans dk_j10) ((dQ_X9_layPairs_11 11).trans dk_j11) dk_vu2_1_112
theorem dX9_layPairs_188 : decode cX9_layPairs 188 = .ok (.l2i, 1) := dk_136 ((dQ_X9_layPairs_11 12).trans dk_j12)
theorem dX9_layPairs_189 : decode cX9_layPairs 189 = .ok (.invokestatic 254, 3) := dk_184 ((dQ_X9_layPairs_11 13).trans dk_j13) ((dQ_X9_layPairs_11 14).trans dk_j14) ((dQ_X9_layPairs_11 15).trans dk_j15) dk_vu2_0_254
theorem dX9_layPairs_192 : decode cX9_layPairs 192 = .ok (.iconst 1, 1) := dk_4 ((dQ_X9_layPairs_12 0).trans dk_j0)
theorem dX9_layPairs_193 : decode cX9_layPairs 193 = .ok (.if_icmp .ne 7, 3) := dk_160 ((dQ_X9_layPairs_12 1).trans dk_j1) ((dQ_X9_layPairs_12 2).trans dk_j2) ((dQ_X9_layPairs_12 3).trans dk_j3) dk_vs2_0_7
theorem dX9_layPairs_196 : decode cX9_layPairs 196 = .ok (.iconst 1, 1) := dk_4 ((dQ_X9_layPairs_12 4).trans dk_j4)
theorem dX9_layPairs_197 : decode cX9_layPairs 197 = .ok (.goto 4, 3) := dk_167 ((dQ_X9_layPairs_12 5).trans dk_j5) ((dQ_X9_layPairs_12 6).trans dk_j6) ((dQ_X9_layPairs_12 7).trans dk_j7) dk_vs2_0_4
theorem dX9_layPairs_200 : decode cX9_layPairs 200 = .ok (.iconst 0, 1) := dk_3 ((dQ_X9_layPairs_12 8).trans dk_j8)
theorem dX9_layPairs_201 : decode cX9_layPairs 201 = .ok (.istore 4, 2) := dk_54 ((dQ_X9_layPairs_12 9).trans dk_j9) ((dQ_X9_layPairs_12 10).trans dk_j10) dk_vu1_4
theorem dX9_layPairs_203 : decode cX9_layPairs 203 = .ok (.iinc 5 2, 3) := dk_132 ((dQ_X9_layPairs_12 11).trans dk_j11) ((dQ_X9_layPairs_12 12).trans dk_j12) ((dQ_X9_layPairs_12 13).trans dk_j13) dk_vu1_5 dk_vs1_2
theorem dk_vs2_255_200 : Reader.signed 16 ((0xff : UInt8).toNat * 256 + (0xc8 : UInt8).toNat) = (-56 : Int) := by decide +kernel
theorem dX9_layPairs_206 : decode cX9_layPairs 206 = .ok (.goto (-56), 3) := dk_167 ((dQ_X9_layPairs_12 14).trans dk_j14) ((dQ_X9_layPairs_12 15).trans dk_j15) ((dQ_X9_layPairs_13 0).trans dk_j0) dk_vs2_255_200
theorem dX9_layPairs_209 : decode cX9_layPairs 209 = .ok (.iload 4, 2) := dk_21 ((dQ_X9_layPairs_13 1).trans dk_j1) ((dQ_X9_layPairs_13 2).trans dk_j2) dk_vu1_4
theorem dX9_layPairs_211 : decode cX9_layPairs 211 = .ok (.ifCond .ne 6, 3) := dk_154 ((dQ_X9_layPairs_13 3).trans dk_j3) ((dQ_X9_layPairs_13 4).trans dk_j4) ((dQ_X9_layPairs_13 5).trans dk_j5) dk_vs2_0_6
theorem dX9_layPairs_214 : decode cX9_layPairs 214 = .ok (.goto 69, 3) := dk_167 ((dQ_X9_layPairs_13 6).trans dk_j6) ((dQ_X9_layPairs_13 7).trans dk_j7) ((dQ_X9_layPairs_13 8).trans dk_j8) dk_vs2_0_69
theorem dX9_layPairs_217 : decode cX9_layPairs 217 = .ok (.aload_n 0, 1) := dk_42 ((dQ_X9_layPairs_13 9).trans dk_j9)
theorem dX9_layPairs_218 : decode cX9_layPairs 218 = .ok (.getfield 70, 3) := dk_180 ((dQ_X9_layPairs_13 10).trans dk_j10) ((dQ_X9_layPairs_13 11).trans dk_j11) ((dQ_X9_layPairs_13 12).trans dk_j12) dk_vu2_0_70
theorem dX9_layPairs_221 : decode cX9_layPairs 221 = .ok (.aload_n 0, 1) := dk_42 ((dQ_X9_layPairs_13 13).trans dk_j13)
theorem dX9_layPairs_222 : decode cX9_layPairs 222 = .ok (.getfield 372, 3) := dk_180 ((dQ_X9_layPairs_13 14).trans dk_j14) ((dQ_X9_layPairs_13 15).trans dk_j15) ((dQ_X9_layPairs_14 0).trans dk_j0) dk_vu2_1_116
theorem dX9_layPairs_225 : decode cX9_layPairs 225 = .ok (.bipush 10, 2) := dk_16 ((dQ_X9_layPairs_14 1).trans dk_j1) ((dQ_X9_layPairs_14 2).trans dk_j2) dk_vs1_10
theorem dX9_layPairs_227 : decode cX9_layPairs 227 = .ok (.iload_n 2, 1) := dk_28 ((dQ_X9_layPairs_14 3).trans dk_j3)
theorem dX9_layPairs_228 : decode cX9_layPairs 228 = .ok (.imul, 1) := dk_104 ((dQ_X9_layPairs_14 4).trans dk_j4)
theorem dX9_layPairs_229 : decode cX9_layPairs 229 = .ok (.iload_n 3, 1) := dk_29 ((dQ_X9_layPairs_14 5).trans dk_j5)
theorem dX9_layPairs_230 : decode cX9_layPairs 230 = .ok (.iadd, 1) := dk_96 ((dQ_X9_layPairs_14 6).trans dk_j6)
theorem dX9_layPairs_231 : decode cX9_layPairs 231 = .ok (.iastore, 1) := dk_79 ((dQ_X9_layPairs_14 7).trans dk_j7)
theorem dX9_layPairs_232 : decode cX9_layPairs 232 = .ok (.iconst 0, 1) := dk_3 ((dQ_X9_layPairs_14 8).trans dk_j8)
theorem dX9_layPairs_233 : decode cX9_layPairs 233 = .ok (.istore 5, 2) := dk_54 ((dQ_X9_layPairs_14 9).trans dk_j9) ((dQ_X9_layPairs_14 10).trans dk_j10) dk_vu1_5
theorem dX9_layPairs_235 : decode cX9_layPairs 235 = .ok (.iload 5, 2) := dk_21 ((dQ_X9_layPairs_14 11).trans dk_j11) ((dQ_X9_layPairs_14 12).trans dk_j12) dk_vu1_5
theorem dX9_layPairs_237 : decode cX9_layPairs 237 = .ok (.bipush 6, 2) := dk_16 ((dQ_X9_layPairs_14 13).trans dk_j13) ((dQ_X9_layPairs_14 14).trans dk_j14) dk_vs1_6
theorem dX9_layPairs_239 : decode cX9_layPairs 239 = .ok (.if_icmp .ge 34, 3) := dk_162 ((dQ_X9_layPairs_14 15).trans dk_j15) ((dQ_X9_layPairs_15 0).trans dk_j0) ((dQ_X9_layPairs_15 1).trans dk_j1) dk_vs2_0_34
theorem dX9_layPairs_242 : decode cX9_layPairs 242 = .ok (.aload_n 0, 1) := dk_42 ((dQ_X9_layPairs_15 2).trans dk_j2)
theorem dX9_layPairs_243 : decode cX9_layPairs 243 = .ok (.getfield 73, 3) := dk_180 ((dQ_X9_layPairs_15 3).trans dk_j3) ((dQ_X9_layPairs_15 4).trans dk_j4) ((dQ_X9_layPairs_15 5).trans dk_j5) dk_vu2_0_73
theorem dX9_layPairs_246 : decode cX9_layPairs 246 = .ok (.bipush 6, 2) := dk_16 ((dQ_X9_layPairs_15 6).trans dk_j6) ((dQ_X9_layPairs_15 7).trans dk_j7) dk_vs1_6
theorem dX9_layPairs_248 : decode cX9_layPairs 248 = .ok (.aload_n 0, 1) := dk_42 ((dQ_X9_layPairs_15 8).trans dk_j8)
theorem dX9_layPairs_249 : decode cX9_layPairs 249 = .ok (.getfield 372, 3) := dk_180 ((dQ_X9_layPairs_15 9).trans dk_j9) ((dQ_X9_layPairs_15 10).trans dk_j10) ((dQ_X9_layPairs_15 11).trans dk_j11) dk_vu2_1_116
theorem dX9_layPairs_252 : decode cX9_layPairs 252 = .ok (.imul, 1) := dk_104 ((dQ_X9_layPairs_15 12).trans dk_j12)
theorem dX9_layPairs_253 : decode cX9_layPairs 253 = .ok (.iload 5, 2) := dk_21 ((dQ_X9_layPairs_15 13).trans dk_j13) ((dQ_X9_layPairs_15 14).trans dk_j14) dk_vu1_5
theorem dX9_layPairs_255 : decode cX9_layPairs 255 = .ok (.iadd, 1) := dk_96 ((dQ_X9_layPairs_15 15).trans dk_j15)
theorem dX9_layPairs_256 : decode cX9_layPairs 256 = .ok (.aload_n 0, 1) := dk_42 ((dQ_X9_layPairs_16 0).trans dk_j0)
theorem dX9_layPairs_257 : decode cX9_layPairs 257 = .ok (.getfield 43, 3) := dk_180 ((dQ_X9_layPairs_16 1).trans dk_j1) ((dQ_X9_layPairs_16 2).trans dk_j2) ((dQ_X9_layPairs_16 3).trans dk_j3) dk_vu2_0_43
theorem dX9_layPairs_260 : decode cX9_layPairs 260 = .ok (.iload 5, 2) := dk_21 ((dQ_X9_layPairs_16 4).trans dk_j4) ((dQ_X9_layPairs_16 5).trans dk_j5) dk_vu1_5
theorem dX9_layPairs_262 : decode cX9_layPairs 262 = .ok (.iaload, 1) := dk_46 ((dQ_X9_layPairs_16 6).trans dk_j6)
theorem dX9_layPairs_263 : decode cX9_layPairs 263 = .ok (.invokestatic 278, 3) := dk_184 ((dQ_X9_layPairs_16 7).trans dk_j7) ((dQ_X9_layPairs_16 8).trans dk_j8) ((dQ_X9_layPairs_16 9).trans dk_j9) dk_vu2_1_22
theorem dX9_layPairs_266 : decode cX9_layPairs 266 = .ok (.iastore, 1) := dk_79 ((dQ_X9_layPairs_16 10).trans dk_j10)
theorem dX9_layPairs_267 : decode cX9_layPairs 267 = .ok (.iinc 5 1, 3) := dk_132 ((dQ_X9_layPairs_16 11).trans dk_j11) ((dQ_X9_layPairs_16 12).trans dk_j12) ((dQ_X9_layPairs_16 13).trans dk_j13) dk_vu1_5 dk_vs1_1
theorem dk_vs2_255_221 : Reader.signed 16 ((0xff : UInt8).toNat * 256 + (0xdd : UInt8).toNat) = (-35 : Int) := by decide +kernel
theorem dX9_layPairs_270 : decode cX9_layPairs 270 = .ok (.goto (-35), 3) := dk_167 ((dQ_X9_layPairs_16 14).trans dk_j14) ((dQ_X9_layPairs_16 15).trans dk_j15) ((dQ_X9_layPairs_17 0).trans dk_j0) dk_vs2_255_221
theorem dX9_layPairs_273 : decode cX9_layPairs 273 = .ok (.aload_n 0, 1) := dk_42 ((dQ_X9_layPairs_17 1).trans dk_j1)
theorem dX9_layPairs_274 : decode cX9_layPairs 274 = .ok (.dup, 1) := dk_89 ((dQ_X9_layPairs_17 2).trans dk_j2)
theorem dX9_layPairs_275 : decode cX9_layPairs 275 = .ok (.getfield 372, 3) := dk_180 ((dQ_X9_layPairs_17 3).trans dk_j3) ((dQ_X9_layPairs_17 4).trans dk_j4) ((dQ_X9_layPairs_17 5).trans dk_j5) dk_vu2_1_116
theorem dX9_layPairs_278 : decode cX9_layPairs 278 = .ok (.iconst 1, 1) := dk_4 ((dQ_X9_layPairs_17 6).trans dk_j6)
theorem dX9_layPairs_279 : decode cX9_layPairs 279 = .ok (.iadd, 1) := dk_96 ((dQ_X9_layPairs_17 7).trans dk_j7)
theorem dX9_layPairs_280 : decode cX9_layPairs 280 = .ok (.putfield 372, 3) := dk_181 ((dQ_X9_layPairs_17 8).trans dk_j8) ((dQ_X9_layPairs_17 9).trans dk_j9) ((dQ_X9_layPairs_17 10).trans dk_j10) dk_vu2_1_116
theorem dX9_layPairs_283 : decode cX9_layPairs 283 = .ok (.iinc 3 1, 3) := dk_132 ((dQ_X9_layPairs_17 11).trans dk_j11) ((dQ_X9_layPairs_17 12).trans dk_j12) ((dQ_X9_layPairs_17 13).trans dk_j13) dk_vu1_3 dk_vs1_1
theorem dk_vs2_255_84 : Reader.signed 16 ((0xff : UInt8).toNat * 256 + (0x54 : UInt8).toNat) = (-172 : Int) := by decide +kernel
theorem dX9_layPairs_286 : decode cX9_layPairs 286 = .ok (.goto (-172), 3) := dk_167 ((dQ_X9_layPairs_17 14).trans dk_j14) ((dQ_X9_layPairs_17 15).trans dk_j15) ((dQ_X9_layPairs_18 0).trans dk_j0) dk_vs2_255_84
theorem dX9_layPairs_289 : decode cX9_layPairs 289 = .ok (.iinc 2 1, 3) := dk_132 ((dQ_X9_layPairs_18 1).trans dk_j1) ((dQ_X9_layPairs_18 2).trans dk_j2) ((dQ_X9_layPairs_18 3).trans dk_j3) dk_vu1_2 dk_vs1_1
theorem dk_vs2_255_68 : Reader.signed 16 ((0xff : UInt8).toNat * 256 + (0x44 : UInt8).toNat) = (-188 : Int) := by decide +kernel
theorem dX9_layPairs_292 : decode cX9_layPairs 292 = .ok (.goto (-188), 3) := dk_167 ((dQ_X9_layPairs_18 4).trans dk_j4) ((dQ_X9_layPairs_18 5).trans dk_j5) ((dQ_X9_layPairs_18 6).trans dk_j6) dk_vs2_255_68
theorem dX9_layPairs_295 : decode cX9_layPairs 295 = .ok (.iconst 0, 1) := dk_3 ((dQ_X9_layPairs_18 7).trans dk_j7)
theorem dX9_layPairs_296 : decode cX9_layPairs 296 = .ok (.ireturn, 1) := dk_172 ((dQ_X9_layPairs_18 8).trans dk_j8)
def dT_X9_which_1 : List UInt8 := (0x01 : UInt8) :: (0x74 : UInt8) :: (0xac : UInt8) :: []
def dT_X9_which_0 : List UInt8 := (0x2a : UInt8) :: (0x1b : UInt8) :: (0xb6 : UInt8) :: (0x01 : UInt8) :: (0x77 : UInt8) :: (0x3d : UInt8) :: (0x1c : UInt8) :: (0x9c : UInt8) :: (0x00 : UInt8) :: (0x07 : UInt8) :: (0x1c : UInt8) :: (0xa7 : UInt8) :: (0x00 : UInt8) :: (0x07 : UInt8) :: (0x2a : UInt8) :: (0xb4 : UInt8) :: dT_X9_which_1
theorem dT_X9_which : cX9_which.data.toList = dT_X9_which_0 := eq_of_beq (show (cX9_which.data.toList == dT_X9_which_0) = true by decide +kernel)
theorem dQ_X9_which_0 : dQ_P cX9_which 0 dT_X9_which_0 := fun i => by rw [dT_X9_which]; rfl
theorem dQ_X9_which_1 : dQ_P cX9_which 16 dT_X9_which_1 := fun i => (dQ_X9_which_0 (i + 16)).trans dk_t
theorem dX9_which_0 : decode cX9_which 0 = .ok (.aload_n 0, 1) := dk_42 ((dQ_X9_which_0 0).trans dk_j0)
theorem dX9_which_1 : decode cX9_which 1 = .ok (.iload_n 1, 1) := dk_27 ((dQ_X9_which_0 1).trans dk_j1)
theorem dk_vu2_1_119 : (0x01 : UInt8).toNat * 256 + (0x77 : UInt8).toNat = (375 : Nat) := by decide +kernel
theorem dX9_which_2 : decode cX9_which 2 = .ok (.invokevirtual 375, 3) := dk_182 ((dQ_X9_which_0 2).trans dk_j2) ((dQ_X9_which_0 3).trans dk_j3) ((dQ_X9_which_0 4).trans dk_j4) dk_vu2_1_119
theorem dX9_which_5 : decode cX9_which 5 = .ok (.istore_n 2, 1) := dk_61 ((dQ_X9_which_0 5).trans dk_j5)
theorem dX9_which_6 : decode cX9_which 6 = .ok (.iload_n 2, 1) := dk_28 ((dQ_X9_which_0 6).trans dk_j6)
theorem dX9_which_7 : decode cX9_which 7 = .ok (.ifCond .ge 7, 3) := dk_156 ((dQ_X9_which_0 7).trans dk_j7) ((dQ_X9_which_0 8).trans dk_j8) ((dQ_X9_which_0 9).trans dk_j9) dk_vs2_0_7
theorem dX9_which_10 : decode cX9_which 10 = .ok (.iload_n 2, 1) := dk_28 ((dQ_X9_which_0 10).trans dk_j10)
theorem dX9_which_11 : decode cX9_which 11 = .ok (.goto 7, 3) := dk_167 ((dQ_X9_which_0 11).trans dk_j11) ((dQ_X9_which_0 12).trans dk_j12) ((dQ_X9_which_0 13).trans dk_j13) dk_vs2_0_7
theorem dX9_which_14 : decode cX9_which 14 = .ok (.aload_n 0, 1) := dk_42 ((dQ_X9_which_0 14).trans dk_j14)
theorem dX9_which_15 : decode cX9_which 15 = .ok (.getfield 372, 3) := dk_180 ((dQ_X9_which_0 15).trans dk_j15) ((dQ_X9_which_1 0).trans dk_j0) ((dQ_X9_which_1 1).trans dk_j1) dk_vu2_1_116
theorem dX9_which_18 : decode cX9_which 18 = .ok (.ireturn, 1) := dk_172 ((dQ_X9_which_1 2).trans dk_j2)
def dT_X9_when_3 : List UInt8 := (0xac : UInt8) :: []
def dT_X9_when_2 : List UInt8 := (0x15 : UInt8) :: (0x04 : UInt8) :: (0x2e : UInt8) :: (0x10 : UInt8) :: (0x0a : UInt8) :: (0x6c : UInt8) :: (0x78 : UInt8) :: (0x80 : UInt8) :: (0x3e : UInt8) :: (0x84 : UInt8) :: (0x04 : UInt8) :: (0x01 : UInt8) :: (0xa7 : UInt8) :: (0xff : UInt8) :: (0xe5 : UInt8) :: (0x1d : UInt8) :: dT_X9_when_3
def dT_X9_when_1 : List UInt8 := (0x04 : UInt8) :: (0x15 : UInt8) :: (0x04 : UInt8) :: (0x2a : UInt8) :: (0xb4 : UInt8) :: (0x01 : UInt8) :: (0x74 : UInt8) :: (0xa2 : UInt8) :: (0x00 : UInt8) :: (0x18 : UInt8) :: (0x1d : UInt8) :: (0x04 : UInt8) :: (0x2a : UInt8) :: (0xb4 : UInt8) :: (0x00 : UInt8) :: (0x46 : UInt8) :: dT_X9_when_2
def dT_X9_when_0 : List UInt8 := (0x2a : UInt8) :: (0x1b : UInt8) :: (0xb6 : UInt8) :: (0x01 : UInt8) :: (0x77 : UInt8) :: (0x3d : UInt8) :: (0x1c : UInt8) :: (0x9c : UInt8) :: (0x00 : UInt8) :: (0x05 : UInt8) :: (0x1c : UInt8) :: (0xac : UInt8) :: (0x03 : UInt8) :: (0x3e : UInt8) :: (0x03 : UInt8) :: (0x36 : UInt8) :: dT_X9_when_1
theorem dT_X9_when : cX9_when.data.toList = dT_X9_when_0 := eq_of_beq (show (cX9_when.data.toList == dT_X9_when_0) = true by decide +kernel)
theorem dQ_X9_when_0 : dQ_P cX9_when 0 dT_X9_when_0 := fun i => by rw [dT_X9_when]; rfl
theorem dQ_X9_when_1 : dQ_P cX9_when 16 dT_X9_when_1 := fun i => (dQ_X9_when_0 (i + 16)).trans dk_t
theorem dQ_X9_when_2 : dQ_P cX9_when 32 dT_X9_when_2 := fun i => (dQ_X9_when_1 (i + 16)).trans dk_t
theorem dQ_X9_when_3 : dQ_P cX9_when 48 dT_X9_when_3 := fun i => (dQ_X9_when_2 (i + 16)).trans dk_t
theorem dX9_when_0 : decode cX9_when 0 = .ok (.aload_n 0, 1) := dk_42 ((dQ_X9_when_0 0).trans dk_j0)
theorem dX9_when_1 : decode cX9_when 1 = .ok (.iload_n 1, 1) := dk_27 ((dQ_X9_when_0 1).trans dk_j1)
theorem dX9_when_2 : decode cX9_when 2 = .ok (.invokevirtual 375, 3) := dk_182 ((dQ_X9_when_0 2).trans dk_j2) ((dQ_X9_when_0 3).trans dk_j3) ((dQ_X9_when_0 4).trans dk_j4) dk_vu2_1_119
theorem dX9_when_5 : decode cX9_when 5 = .ok (.istore_n 2, 1) := dk_61 ((dQ_X9_when_0 5).trans dk_j5)
theorem dX9_when_6 : decode cX9_when 6 = .ok (.iload_n 2, 1) := dk_28 ((dQ_X9_when_0 6).trans dk_j6)
theorem dX9_when_7 : decode cX9_when 7 = .ok (.ifCond .ge 5, 3) := dk_156 ((dQ_X9_when_0 7).trans dk_j7) ((dQ_X9_when_0 8).trans dk_j8) ((dQ_X9_when_0 9).trans dk_j9) dk_vs2_0_5
theorem dX9_when_10 : decode cX9_when 10 = .ok (.iload_n 2, 1) := dk_28 ((dQ_X9_when_0 10).trans dk_j10)
theorem dX9_when_11 : decode cX9_when 11 = .ok (.ireturn, 1) := dk_172 ((dQ_X9_when_0 11).trans dk_j11)
theorem dX9_when_12 : decode cX9_when 12 = .ok (.iconst 0, 1) := dk_3 ((dQ_X9_when_0 12).trans dk_j12)
theorem dX9_when_13 : decode cX9_when 13 = .ok (.istore_n 3, 1) := dk_62 ((dQ_X9_when_0 13).trans dk_j13)
theorem dX9_when_14 : decode cX9_when 14 = .ok (.iconst 0, 1) := dk_3 ((dQ_X9_when_0 14).trans dk_j14)
theorem dX9_when_15 : decode cX9_when 15 = .ok (.istore 4, 2) := dk_54 ((dQ_X9_when_0 15).trans dk_j15) ((dQ_X9_when_1 0).trans dk_j0) dk_vu1_4
theorem dX9_when_17 : decode cX9_when 17 = .ok (.iload 4, 2) := dk_21 ((dQ_X9_when_1 1).trans dk_j1) ((dQ_X9_when_1 2).trans dk_j2) dk_vu1_4
theorem dX9_when_19 : decode cX9_when 19 = .ok (.aload_n 0, 1) := dk_42 ((dQ_X9_when_1 3).trans dk_j3)
theorem dX9_when_20 : decode cX9_when 20 = .ok (.getfield 372, 3) := dk_180 ((dQ_X9_when_1 4).trans dk_j4) ((dQ_X9_when_1 5).trans dk_j5) ((dQ_X9_when_1 6).trans dk_j6) dk_vu2_1_116
theorem dX9_when_23 : decode cX9_when 23 = .ok (.if_icmp .ge 24, 3) := dk_162 ((dQ_X9_when_1 7).trans dk_j7) ((dQ_X9_when_1 8).trans dk_j8) ((dQ_X9_when_1 9).trans dk_j9) dk_vs2_0_24
theorem dX9_when_26 : decode cX9_when 26 = .ok (.iload_n 3, 1) := dk_29 ((dQ_X9_when_1 10).trans dk_j10)
theorem dX9_when_27 : decode cX9_when 27 = .ok (.iconst 1, 1) := dk_4 ((dQ_X9_when_1 11).trans dk_j11)
theorem dX9_when_28 : decode cX9_when 28 = .ok (.aload_n 0, 1) := dk_42 ((dQ_X9_when_1 12).trans dk_j12)
theorem dX9_when_29 : decode cX9_when 29 = .ok (.getfield 70, 3) := dk_180 ((dQ_X9_when_1 13).trans dk_j13) ((dQ_X9_when_1 14).trans dk_j14) ((dQ_X9_when_1 15).trans dk_j15) dk_vu2_0_70
theorem dX9_when_32 : decode cX9_when 32 = .ok (.iload 4, 2) := dk_21 ((dQ_X9_when_2 0).trans dk_j0) ((dQ_X9_when_2 1).trans dk_j1) dk_vu1_4
theorem dX9_when_34 : decode cX9_when 34 = .ok (.iaload, 1) := dk_46 ((dQ_X9_when_2 2).trans dk_j2)
theorem dX9_when_35 : decode cX9_when 35 = .ok (.bipush 10, 2) := dk_16 ((dQ_X9_when_2 3).trans dk_j3) ((dQ_X9_when_2 4).trans dk_j4) dk_vs1_10
theorem dX9_when_37 : decode cX9_when 37 = .ok (.idiv, 1) := dk_108 ((dQ_X9_when_2 5).trans dk_j5)
theorem dX9_when_38 : decode cX9_when 38 = .ok (.ishl, 1) := dk_120 ((dQ_X9_when_2 6).trans dk_j6)
theorem dX9_when_39 : decode cX9_when 39 = .ok (.ior, 1) := dk_128 ((dQ_X9_when_2 7).trans dk_j7)
theorem dX9_when_40 : decode cX9_when 40 = .ok (.istore_n 3, 1) := dk_62 ((dQ_X9_when_2 8).trans dk_j8)
theorem dX9_when_41 : decode cX9_when 41 = .ok (.iinc 4 1, 3) := dk_132 ((dQ_X9_when_2 9).trans dk_j9) ((dQ_X9_when_2 10).trans dk_j10) ((dQ_X9_when_2 11).trans dk_j11) dk_vu1_4 dk_vs1_1
theorem dX9_when_44 : decode cX9_when 44 = .ok (.goto (-27), 3) := dk_167 ((dQ_X9_when_2 12).trans dk_j12) ((dQ_X9_when_2 13).trans dk_j13) ((dQ_X9_when_2 14).trans dk_j14) dk_vs2_255_229
theorem dX9_when_47 : decode cX9_when 47 = .ok (.iload_n 3, 1) := dk_29 ((dQ_X9_when_2 15).trans dk_j15)
theorem dX9_when_48 : decode cX9_when 48 = .ok (.ireturn, 1) := dk_172 ((dQ_X9_when_3 0).trans dk_j0)
def dT_X9_gust_1 : List UInt8 := (0x9a : UInt8) :: (0x00 : UInt8) :: (0x07 : UInt8) :: (0x02 : UInt8) :: (0xa7 : UInt8) :: (0x00 : UInt8) :: (0x09 : UInt8) :: (0x2a : UInt8) :: (0xb4 : UInt8) :: (0x00 : UInt8) :: (0x46 : UInt8) :: (0x03 : UInt8) :: (0x2e : UInt8) :: (0xac : UInt8) :: []
def dT_X9_gust_0 : List UInt8 := (0x2a : UInt8) :: (0x1b : UInt8) :: (0xb6 : UInt8) :: (0x01 : UInt8) :: (0x77 : UInt8) :: (0x3d : UInt8) :: (0x1c : UInt8) :: (0x9c : UInt8) :: (0x00 : UInt8) :: (0x05 : UInt8) :: (0x1c : UInt8) :: (0xac : UInt8) :: (0x2a : UInt8) :: (0xb4 : UInt8) :: (0x01 : UInt8) :: (0x74 : UInt8) :: dT_X9_gust_1
theorem dT_X9_gust : cX9_gust.data.toList = dT_X9_gust_0 := eq_of_beq (show (cX9_gust.data.toList == dT_X9_gust_0) = true by decide +kernel)
theorem dQ_X9_gust_0 : dQ_P cX9_gust 0 dT_X9_gust_0 := fun i => by rw [dT_X9_gust]; rfl
theorem dQ_X9_gust_1 : dQ_P cX9_gust 16 dT_X9_gust_1 := fun i => (dQ_X9_gust_0 (i + 16)).trans dk_t
theorem dX9_gust_0 : decode cX9_gust 0 = .ok (.aload_n 0, 1) := dk_42 ((dQ_X9_gust_0 0).trans dk_j0)
theorem dX9_gust_1 : decode cX9_gust 1 = .ok (.iload_n 1, 1) := dk_27 ((dQ_X9_gust_0 1).trans dk_j1)
theorem dX9_gust_2 : decode cX9_gust 2 = .ok (.invokevirtual 375, 3) := dk_182 ((dQ_X9_gust_0 2).trans dk_j2) ((dQ_X9_gust_0 3).trans dk_j3) ((dQ_X9_gust_0 4).trans dk_j4) dk_vu2_1_119
theorem dX9_gust_5 : decode cX9_gust 5 = .ok (.istore_n 2, 1) := dk_61 ((dQ_X9_gust_0 5).trans dk_j5)
theorem dX9_gust_6 : decode cX9_gust 6 = .ok (.iload_n 2, 1) := dk_28 ((dQ_X9_gust_0 6).trans dk_j6)
theorem dX9_gust_7 : decode cX9_gust 7 = .ok (.ifCond .ge 5, 3) := dk_156 ((dQ_X9_gust_0 7).trans dk_j7) ((dQ_X9_gust_0 8).trans dk_j8) ((dQ_X9_gust_0 9).trans dk_j9) dk_vs2_0_5
theorem dX9_gust_10 : decode cX9_gust 10 = .ok (.iload_n 2, 1) := dk_28 ((dQ_X9_gust_0 10).trans dk_j10)
theorem dX9_gust_11 : decode cX9_gust 11 = .ok (.ireturn, 1) := dk_172 ((dQ_X9_gust_0 11).trans dk_j11)
theorem dX9_gust_12 : decode cX9_gust 12 = .ok (.aload_n 0, 1) := dk_42 ((dQ_X9_gust_0 12).trans dk_j12)
theorem dX9_gust_13 : decode cX9_gust 13 = .ok (.getfield 372, 3) := dk_180 ((dQ_X9_gust_0 13).trans dk_j13) ((dQ_X9_gust_0 14).trans dk_j14) ((dQ_X9_gust_0 15).trans dk_j15) dk_vu2_1_116
theorem dX9_gust_16 : decode cX9_gust 16 = .ok (.ifCond .ne 7, 3) := dk_154 ((dQ_X9_gust_1 0).trans dk_j0) ((dQ_X9_gust_1 1).trans dk_j1) ((dQ_X9_gust_1 2).trans dk_j2) dk_vs2_0_7
theorem dX9_gust_19 : decode cX9_gust 19 = .ok (.iconst (-1), 1) := dk_2 ((dQ_X9_gust_1 3).trans dk_j3)
theorem dX9_gust_20 : decode cX9_gust 20 = .ok (.goto 9, 3) := dk_167 ((dQ_X9_gust_1 4).trans dk_j4) ((dQ_X9_gust_1 5).trans dk_j5) ((dQ_X9_gust_1 6).trans dk_j6) dk_vs2_0_9
theorem dX9_gust_23 : decode cX9_gust 23 = .ok (.aload_n 0, 1) := dk_42 ((dQ_X9_gust_1 7).trans dk_j7)
theorem dX9_gust_24 : decode cX9_gust 24 = .ok (.getfield 70, 3) := dk_180 ((dQ_X9_gust_1 8).trans dk_j8) ((dQ_X9_gust_1 9).trans dk_j9) ((dQ_X9_gust_1 10).trans dk_j10) dk_vu2_0_70
theorem dX9_gust_27 : decode cX9_gust 27 = .ok (.iconst 0, 1) := dk_3 ((dQ_X9_gust_1 11).trans dk_j11)
theorem dX9_gust_28 : decode cX9_gust 28 = .ok (.iaload, 1) := dk_46 ((dQ_X9_gust_1 12).trans dk_j12)
theorem dX9_gust_29 : decode cX9_gust 29 = .ok (.ireturn, 1) := dk_172 ((dQ_X9_gust_1 13).trans dk_j13)
def dT_X9_askOf_7 : List UInt8 := (0x3c : UInt8) :: (0x84 : UInt8) :: (0x02 : UInt8) :: (0x01 : UInt8) :: (0xa7 : UInt8) :: (0xff : UInt8) :: (0x98 : UInt8) :: (0x1b : UInt8) :: (0xac : UInt8) :: []
def dT_X9_askOf_6 : List UInt8 := (0x2a : UInt8) :: (0xb4 : UInt8) :: (0x01 : UInt8) :: (0x7a : UInt8) :: (0xa1 : UInt8) :: (0x00 : UInt8) :: (0x06 : UInt8) :: (0xa7 : UInt8) :: (0x00 : UInt8) :: (0x0a : UInt8) :: (0x2a : UInt8) :: (0x1d : UInt8) :: (0xb5 : UInt8) :: (0x01 : UInt8) :: (0x7a : UInt8) :: (0x1c : UInt8) :: dT_X9_askOf_7
def dT_X9_askOf_5 : List UInt8 := (0xff : UInt8) :: (0xd9 : UInt8) :: (0x1d : UInt8) :: (0x15 : UInt8) :: (0x05 : UInt8) :: (0xb8 : UInt8) :: (0x01 : UInt8) :: (0x25 : UInt8) :: (0x3e : UInt8) :: (0x84 : UInt8) :: (0x04 : UInt8) :: (0x01 : UInt8) :: (0xa7 : UInt8) :: (0xff : UInt8) :: (0xbf : UInt8) :: (0x1d : UInt8) :: dT_X9_askOf_6
def dT_X9_askOf_4 : List UInt8 := (0x04 : UInt8) :: (0xa0 : UInt8) :: (0x00 : UInt8) :: (0x07 : UInt8) :: (0x04 : UInt8) :: (0xa7 : UInt8) :: (0x00 : UInt8) :: (0x04 : UInt8) :: (0x03 : UInt8) :: (0x60 : UInt8) :: (0x36 : UInt8) :: (0x05 : UInt8) :: (0x84 : UInt8) :: (0x06 : UInt8) :: (0x01 : UInt8) :: (0xa7 : UInt8) :: dT_X9_askOf_5
def dT_X9_askOf_3 : List UInt8 := (0x24 : UInt8) :: (0x15 : UInt8) :: (0x05 : UInt8) :: (0x2a : UInt8) :: (0xb4 : UInt8) :: (0x00 : UInt8) :: (0x49 : UInt8) :: (0x10 : UInt8) :: (0x06 : UInt8) :: (0x15 : UInt8) :: (0x06 : UInt8) :: (0x68 : UInt8) :: (0x1c : UInt8) :: (0x60 : UInt8) :: (0x2e : UInt8) :: (0x15 : UInt8) :: dT_X9_askOf_4
def dT_X9_askOf_2 : List UInt8 := (0x00 : UInt8) :: (0x40 : UInt8) :: (0x03 : UInt8) :: (0x36 : UInt8) :: (0x05 : UInt8) :: (0x03 : UInt8) :: (0x36 : UInt8) :: (0x06 : UInt8) :: (0x15 : UInt8) :: (0x06 : UInt8) :: (0x2a : UInt8) :: (0xb4 : UInt8) :: (0x01 : UInt8) :: (0x74 : UInt8) :: (0xa2 : UInt8) :: (0x00 : UInt8) :: dT_X9_askOf_3
def dT_X9_askOf_1 : List UInt8 := (0x09 : UInt8) :: (0x08 : UInt8) :: (0x2e : UInt8) :: (0xa2 : UInt8) :: (0x00 : UInt8) :: (0x64 : UInt8) :: (0x03 : UInt8) :: (0x3e : UInt8) :: (0x03 : UInt8) :: (0x36 : UInt8) :: (0x04 : UInt8) :: (0x15 : UInt8) :: (0x04 : UInt8) :: (0x10 : UInt8) :: (0x1e : UInt8) :: (0xa3 : UInt8) :: dT_X9_askOf_2
def dT_X9_askOf_0 : List UInt8 := (0x2a : UInt8) :: (0x2a : UInt8) :: (0xb4 : UInt8) :: (0x01 : UInt8) :: (0x74 : UInt8) :: (0xb5 : UInt8) :: (0x01 : UInt8) :: (0x7a : UInt8) :: (0x02 : UInt8) :: (0x3c : UInt8) :: (0x03 : UInt8) :: (0x3d : UInt8) :: (0x1c : UInt8) :: (0x2a : UInt8) :: (0xb4 : UInt8) :: (0x00 : UInt8) :: dT_X9_askOf_1
theorem dT_X9_askOf : cX9_askOf.data.toList = dT_X9_askOf_0 := eq_of_beq (show (cX9_askOf.data.toList == dT_X9_askOf_0) = true by decide +kernel)
theorem dQ_X9_askOf_0 : dQ_P cX9_askOf 0 dT_X9_askOf_0 := fun i => by rw [dT_X9_askOf]; rfl
theorem dQ_X9_askOf_1 : dQ_P cX9_askOf 16 dT_X9_askOf_1 := fun i => (dQ_X9_askOf_0 (i + 16)).trans dk_t
theorem dQ_X9_askOf_2 : dQ_P cX9_askOf 32 dT_X9_askOf_2 := fun i => (dQ_X9_askOf_1 (i + 16)).trans dk_t
theorem dQ_X9_askOf_3 : dQ_P cX9_askOf 48 dT_X9_askOf_3 := fun i => (dQ_X9_askOf_2 (i + 16)).trans dk_t
theorem dQ_X9_askOf_4 : dQ_P cX9_askOf 64 dT_X9_askOf_4 := fun i => (dQ_X9_askOf_3 (i + 16)).trans dk_t
theorem dQ_X9_askOf_5 : dQ_P cX9_askOf 80 dT_X9_askOf_5 := fun i => (dQ_X9_askOf_4 (i + 16)).trans dk_t
theorem dQ_X9_askOf_6 : dQ_P cX9_askOf 96 dT_X9_askOf_6 := fun i => (dQ_X9_askOf_5 (i + 16)).trans dk_t
theorem dQ_X9_askOf_7 : dQ_P cX9_askOf 112 dT_X9_askOf_7 := fun i => (dQ_X9_askOf_6 (i + 16)).trans dk_t
theorem dX9_askOf_0 : decode cX9_askOf 0 = .ok (.aload_n 0, 1) := dk_42 ((dQ_X9_askOf_0 0).trans dk_j0)
theorem dX9_askOf_1 : decode cX9_askOf 1 = .ok (.aload_n 0, 1) := dk_42 ((dQ_X9_askOf_0 1).trans dk_j1)
theorem dX9_askOf_2 : decode cX9_askOf 2 = .ok (.getfield 372, 3) := dk_180 ((dQ_X9_askOf_0 2).trans dk_j2) ((dQ_X9_askOf_0 3).trans dk_j3) ((dQ_X9_askOf_0 4).trans dk_j4) dk_vu2_1_116
theorem dk_vu2_1_122 : (0x01 : UInt8).toNat * 256 + (0x7a : UInt8).toNat = (378 : Nat) := by decide +kernel
theorem dX9_askOf_5 : decode cX9_askOf 5 = .ok (.putfield 378, 3) := dk_181 ((dQ_X9_askOf_0 5).trans dk_j5) ((dQ_X9_askOf_0 6).trans dk_j6) ((dQ_X9_askOf_0 7).trans dk_j7) dk_vu2_1_122
theorem dX9_askOf_8 : decode cX9_askOf 8 = .ok (.iconst (-1), 1) := dk_2 ((dQ_X9_askOf_0 8).trans dk_j8)
theorem dX9_askOf_9 : decode cX9_askOf 9 = .ok (.istore_n 1, 1) := dk_60 ((dQ_X9_askOf_0 9).trans dk_j9)
theorem dX9_askOf_10 : decode cX9_askOf 10 = .ok (.iconst 0, 1) := dk_3 ((dQ_X9_askOf_0 10).trans dk_j10)
theorem dX9_askOf_11 : decode cX9_askOf 11 = .ok (.istore_n 2, 1) := dk_61 ((dQ_X9_askOf_0 11).trans dk_j11)
theorem dX9_askOf_12 : decode cX9_askOf 12 = .ok (.iload_n 2, 1) := dk_28 ((dQ_X9_askOf_0 12).trans dk_j12)
theorem dX9_askOf_13 : decode cX9_askOf 13 = .ok (.aload_n 0, 1) := dk_42 ((dQ_X9_askOf_0 13).trans dk_j13)
theorem dX9_askOf_14 : decode cX9_askOf 14 = .ok (.getfield 9, 3) := dk_180 ((dQ_X9_askOf_0 14).trans dk_j14) ((dQ_X9_askOf_0 15).trans dk_j15) ((dQ_X9_askOf_1 0).trans dk_j0) dk_vu2_0_9
theorem dX9_askOf_17 : decode cX9_askOf 17 = .ok (.iconst 5, 1) := dk_8 ((dQ_X9_askOf_1 1).trans dk_j1)
theorem dX9_askOf_18 : decode cX9_askOf 18 = .ok (.iaload, 1) := dk_46 ((dQ_X9_askOf_1 2).trans dk_j2)
theorem dk_vs2_0_100 : Reader.signed 16 ((0x00 : UInt8).toNat * 256 + (0x64 : UInt8).toNat) = (100 : Int) := by decide +kernel
theorem dX9_askOf_19 : decode cX9_askOf 19 = .ok (.if_icmp .ge 100, 3) := dk_162 ((dQ_X9_askOf_1 3).trans dk_j3) ((dQ_X9_askOf_1 4).trans dk_j4) ((dQ_X9_askOf_1 5).trans dk_j5) dk_vs2_0_100
theorem dX9_askOf_22 : decode cX9_askOf 22 = .ok (.iconst 0, 1) := dk_3 ((dQ_X9_askOf_1 6).trans dk_j6)
theorem dX9_askOf_23 : decode cX9_askOf 23 = .ok (.istore_n 3, 1) := dk_62 ((dQ_X9_askOf_1 7).trans dk_j7)
theorem dX9_askOf_24 : decode cX9_askOf 24 = .ok (.iconst 0, 1) := dk_3 ((dQ_X9_askOf_1 8).trans dk_j8)
theorem dX9_askOf_25 : decode cX9_askOf 25 = .ok (.istore 4, 2) := dk_54 ((dQ_X9_askOf_1 9).trans dk_j9) ((dQ_X9_askOf_1 10).trans dk_j10) dk_vu1_4
theorem dX9_askOf_27 : decode cX9_askOf 27 = .ok (.iload 4, 2) := dk_21 ((dQ_X9_askOf_1 11).trans dk_j11) ((dQ_X9_askOf_1 12).trans dk_j12) dk_vu1_4
theorem dX9_askOf_29 : decode cX9_askOf 29 = .ok (.bipush 30, 2) := dk_16 ((dQ_X9_askOf_1 13).trans dk_j13) ((dQ_X9_askOf_1 14).trans dk_j14) dk_vs1_30
theorem dk_vs2_0_64 : Reader.signed 16 ((0x00 : UInt8).toNat * 256 + (0x40 : UInt8).toNat) = (64 : Int) := by decide +kernel
theorem dX9_askOf_31 : decode cX9_askOf 31 = .ok (.if_icmp .gt 64, 3) := dk_163 ((dQ_X9_askOf_1 15).trans dk_j15) ((dQ_X9_askOf_2 0).trans dk_j0) ((dQ_X9_askOf_2 1).trans dk_j1) dk_vs2_0_64
theorem dX9_askOf_34 : decode cX9_askOf 34 = .ok (.iconst 0, 1) := dk_3 ((dQ_X9_askOf_2 2).trans dk_j2)
theorem dX9_askOf_35 : decode cX9_askOf 35 = .ok (.istore 5, 2) := dk_54 ((dQ_X9_askOf_2 3).trans dk_j3) ((dQ_X9_askOf_2 4).trans dk_j4) dk_vu1_5
theorem dX9_askOf_37 : decode cX9_askOf 37 = .ok (.iconst 0, 1) := dk_3 ((dQ_X9_askOf_2 5).trans dk_j5)
theorem dX9_askOf_38 : decode cX9_askOf 38 = .ok (.istore 6, 2) := dk_54 ((dQ_X9_askOf_2 6).trans dk_j6) ((dQ_X9_askOf_2 7).trans dk_j7) dk_vu1_6
theorem dX9_askOf_40 : decode cX9_askOf 40 = .ok (.iload 6, 2) := dk_21 ((dQ_X9_askOf_2 8).trans dk_j8) ((dQ_X9_askOf_2 9).trans dk_j9) dk_vu1_6
theorem dX9_askOf_42 : decode cX9_askOf 42 = .ok (.aload_n 0, 1) := dk_42 ((dQ_X9_askOf_2 10).trans dk_j10)
theorem dX9_askOf_43 : decode cX9_askOf 43 = .ok (.getfield 372, 3) := dk_180 ((dQ_X9_askOf_2 11).trans dk_j11) ((dQ_X9_askOf_2 12).trans dk_j12) ((dQ_X9_askOf_2 13).trans dk_j13) dk_vu2_1_116
theorem dX9_askOf_46 : decode cX9_askOf 46 = .ok (.if_icmp .ge 36, 3) := dk_162 ((dQ_X9_askOf_2 14).trans dk_j14) ((dQ_X9_askOf_2 15).trans dk_j15) ((dQ_X9_askOf_3 0).trans dk_j0) dk_vs2_0_36
theorem dX9_askOf_49 : decode cX9_askOf 49 = .ok (.iload 5, 2) := dk_21 ((dQ_X9_askOf_3 1).trans dk_j1) ((dQ_X9_askOf_3 2).trans dk_j2) dk_vu1_5
theorem dX9_askOf_51 : decode cX9_askOf 51 = .ok (.aload_n 0, 1) := dk_42 ((dQ_X9_askOf_3 3).trans dk_j3)
theorem dX9_askOf_52 : decode cX9_askOf 52 = .ok (.getfield 73, 3) := dk_180 ((dQ_X9_askOf_3 4).trans dk_j4) ((dQ_X9_askOf_3 5).trans dk_j5) ((dQ_X9_askOf_3 6).trans dk_j6) dk_vu2_0_73
theorem dX9_askOf_55 : decode cX9_askOf 55 = .ok (.bipush 6, 2) := dk_16 ((dQ_X9_askOf_3 7).trans dk_j7) ((dQ_X9_askOf_3 8).trans dk_j8) dk_vs1_6
theorem dX9_askOf_57 : decode cX9_askOf 57 = .ok (.iload 6, 2) := dk_21 ((dQ_X9_askOf_3 9).trans dk_j9) ((dQ_X9_askOf_3 10).trans dk_j10) dk_vu1_6
theorem dX9_askOf_59 : decode cX9_askOf 59 = .ok (.imul, 1) := dk_104 ((dQ_X9_askOf_3 11).trans dk_j11)
theorem dX9_askOf_60 : decode cX9_askOf 60 = .ok (.iload_n 2, 1) := dk_28 ((dQ_X9_askOf_3 12).trans dk_j12)
theorem dX9_askOf_61 : decode cX9_askOf 61 = .ok (.iadd, 1) := dk_96 ((dQ_X9_askOf_3 13).trans dk_j13)
theorem dX9_askOf_62 : decode cX9_askOf 62 = .ok (.iaload, 1) := dk_46 ((dQ_X9_askOf_3 14).trans dk_j14)
theorem dX9_askOf_63 : decode cX9_askOf 63 = .ok (.iload 4, 2) := dk_21 ((dQ_X9_askOf_3 15).trans dk_j15) ((dQ_X9_askOf_4 0).trans dk_j0) dk_vu1_4
theorem dX9_askOf_65 : decode cX9_askOf 65 = .ok (.if_icmp .ne 7, 3) := dk_160 ((dQ_X9_askOf_4 1).trans dk_j1) ((dQ_X9_askOf_4 2).trans dk_j2) ((dQ_X9_askOf_4 3).trans dk_j3) dk_vs2_0_7
theorem dX9_askOf_68 : decode cX9_askOf 68 = .ok (.iconst 1, 1) := dk_4 ((dQ_X9_askOf_4 4).trans dk_j4)
theorem dX9_askOf_69 : decode cX9_askOf 69 = .ok (.goto 4, 3) := dk_167 ((dQ_X9_askOf_4 5).trans dk_j5) ((dQ_X9_askOf_4 6).trans dk_j6) ((dQ_X9_askOf_4 7).trans dk_j7) dk_vs2_0_4
theorem dX9_askOf_72 : decode cX9_askOf 72 = .ok (.iconst 0, 1) := dk_3 ((dQ_X9_askOf_4 8).trans dk_j8)
theorem dX9_askOf_73 : decode cX9_askOf 73 = .ok (.iadd, 1) := dk_96 ((dQ_X9_askOf_4 9).trans dk_j9)
theorem dX9_askOf_74 : decode cX9_askOf 74 = .ok (.istore 5, 2) := dk_54 ((dQ_X9_askOf_4 10).trans dk_j10) ((dQ_X9_askOf_4 11).trans dk_j11) dk_vu1_5
theorem dX9_askOf_76 : decode cX9_askOf 76 = .ok (.iinc 6 1, 3) := dk_132 ((dQ_X9_askOf_4 12).trans dk_j12) ((dQ_X9_askOf_4 13).trans dk_j13) ((dQ_X9_askOf_4 14).trans dk_j14) dk_vu1_6 dk_vs1_1
theorem dX9_askOf_79 : decode cX9_askOf 79 = .ok (.goto (-39), 3) := dk_167 ((dQ_X9_askOf_4 15).trans dk_j15) ((dQ_X9_askOf_5 0).trans dk_j0) ((dQ_X9_askOf_5 1).trans dk_j1) dk_vs2_255_217
theorem dX9_askOf_82 : decode cX9_askOf 82 = .ok (.iload_n 3, 1) := dk_29 ((dQ_X9_askOf_5 2).trans dk_j2)
theorem dX9_askOf_83 : decode cX9_askOf 83 = .ok (.iload 5, 2) := dk_21 ((dQ_X9_askOf_5 3).trans dk_j3) ((dQ_X9_askOf_5 4).trans dk_j4) dk_vu1_5
theorem dX9_askOf_85 : decode cX9_askOf 85 = .ok (.invokestatic 293, 3) := dk_184 ((dQ_X9_askOf_5 5).trans dk_j5) ((dQ_X9_askOf_5 6).trans dk_j6) ((dQ_X9_askOf_5 7).trans dk_j7) dk_vu2_1_37
theorem dX9_askOf_88 : decode cX9_askOf 88 = .ok (.istore_n 3, 1) := dk_62 ((dQ_X9_askOf_5 8).trans dk_j8)
theorem dX9_askOf_89 : decode cX9_askOf 89 = .ok (.iinc 4 1, 3) := dk_132 ((dQ_X9_askOf_5 9).trans dk_j9) ((dQ_X9_askOf_5 10).trans dk_j10) ((dQ_X9_askOf_5 11).trans dk_j11) dk_vu1_4 dk_vs1_1
theorem dX9_askOf_92 : decode cX9_askOf 92 = .ok (.goto (-65), 3) := dk_167 ((dQ_X9_askOf_5 12).trans dk_j12) ((dQ_X9_askOf_5 13).trans dk_j13) ((dQ_X9_askOf_5 14).trans dk_j14) dk_vs2_255_191
theorem dX9_askOf_95 : decode cX9_askOf 95 = .ok (.iload_n 3, 1) := dk_29 ((dQ_X9_askOf_5 15).trans dk_j15)
theorem dX9_askOf_96 : decode cX9_askOf 96 = .ok (.aload_n 0, 1) := dk_42 ((dQ_X9_askOf_6 0).trans dk_j0)
theorem dX9_askOf_97 : decode cX9_askOf 97 = .ok (.getfield 378, 3) := dk_180 ((dQ_X9_askOf_6 1).trans dk_j1) ((dQ_X9_askOf_6 2).trans dk_j2) ((dQ_X9_askOf_6 3).trans dk_j3) dk_vu2_1_122
theorem dX9_askOf_100 : decode cX9_askOf 100 = .ok (.if_icmp .lt 6, 3) := dk_161 ((dQ_X9_askOf_6 4).trans dk_j4) ((dQ_X9_askOf_6 5).trans dk_j5) ((dQ_X9_askOf_6 6).trans dk_j6) dk_vs2_0_6
theorem dX9_askOf_103 : decode cX9_askOf 103 = .ok (.goto 10, 3) := dk_167 ((dQ_X9_askOf_6 7).trans dk_j7) ((dQ_X9_askOf_6 8).trans dk_j8) ((dQ_X9_askOf_6 9).trans dk_j9) dk_vs2_0_10
theorem dX9_askOf_106 : decode cX9_askOf 106 = .ok (.aload_n 0, 1) := dk_42 ((dQ_X9_askOf_6 10).trans dk_j10)
theorem dX9_askOf_107 : decode cX9_askOf 107 = .ok (.iload_n 3, 1) := dk_29 ((dQ_X9_askOf_6 11).trans dk_j11)
theorem dX9_askOf_108 : decode cX9_askOf 108 = .ok (.putfield 378, 3) := dk_181 ((dQ_X9_askOf_6 12).trans dk_j12) ((dQ_X9_askOf_6 13).trans dk_j13) ((dQ_X9_askOf_6 14).trans dk_j14) dk_vu2_1_122
theorem dX9_askOf_111 : decode cX9_askOf 111 = .ok (.iload_n 2, 1) := dk_28 ((dQ_X9_askOf_6 15).trans dk_j15)
theorem dX9_askOf_112 : decode cX9_askOf 112 = .ok (.istore_n 1, 1) := dk_60 ((dQ_X9_askOf_7 0).trans dk_j0)
theorem dX9_askOf_113 : decode cX9_askOf 113 = .ok (.iinc 2 1, 3) := dk_132 ((dQ_X9_askOf_7 1).trans dk_j1) ((dQ_X9_askOf_7 2).trans dk_j2) ((dQ_X9_askOf_7 3).trans dk_j3) dk_vu1_2 dk_vs1_1
theorem dk_vs2_255_152 : Reader.signed 16 ((0xff : UInt8).toNat * 256 + (0x98 : UInt8).toNat) = (-104 : Int) := by decide +kernel
theorem dX9_askOf_116 : decode cX9_askOf 116 = .ok (.goto (-104), 3) := dk_167 ((dQ_X9_askOf_7 4).trans dk_j4) ((dQ_X9_askOf_7 5).trans dk_j5) ((dQ_X9_askOf_7 6).trans dk_j6) dk_vs2_255_152
theorem dX9_askOf_119 : decode cX9_askOf 119 = .ok (.iload_n 1, 1) := dk_27 ((dQ_X9_askOf_7 7).trans dk_j7)
theorem dX9_askOf_120 : decode cX9_askOf 120 = .ok (.ireturn, 1) := dk_172 ((dQ_X9_askOf_7 8).trans dk_j8)
def dT_X9_ask_1 : List UInt8 := (0x01 : UInt8) :: (0x7d : UInt8) :: (0xac : UInt8) :: []
def dT_X9_ask_0 : List UInt8 := (0x2a : UInt8) :: (0x1b : UInt8) :: (0xb6 : UInt8) :: (0x01 : UInt8) :: (0x77 : UInt8) :: (0x3d : UInt8) :: (0x1c : UInt8) :: (0x9c : UInt8) :: (0x00 : UInt8) :: (0x07 : UInt8) :: (0x1c : UInt8) :: (0xa7 : UInt8) :: (0x00 : UInt8) :: (0x07 : UInt8) :: (0x2a : UInt8) :: (0xb6 : UInt8) :: dT_X9_ask_1
theorem dT_X9_ask : cX9_ask.data.toList = dT_X9_ask_0 := eq_of_beq (show (cX9_ask.data.toList == dT_X9_ask_0) = true by decide +kernel)
theorem dQ_X9_ask_0 : dQ_P cX9_ask 0 dT_X9_ask_0 := fun i => by rw [dT_X9_ask]; rfl
theorem dQ_X9_ask_1 : dQ_P cX9_ask 16 dT_X9_ask_1 := fun i => (dQ_X9_ask_0 (i + 16)).trans dk_t
theorem dX9_ask_0 : decode cX9_ask 0 = .ok (.aload_n 0, 1) := dk_42 ((dQ_X9_ask_0 0).trans dk_j0)
theorem dX9_ask_1 : decode cX9_ask 1 = .ok (.iload_n 1, 1) := dk_27 ((dQ_X9_ask_0 1).trans dk_j1)
theorem dX9_ask_2 : decode cX9_ask 2 = .ok (.invokevirtual 375, 3) := dk_182 ((dQ_X9_ask_0 2).trans dk_j2) ((dQ_X9_ask_0 3).trans dk_j3) ((dQ_X9_ask_0 4).trans dk_j4) dk_vu2_1_119
theorem dX9_ask_5 : decode cX9_ask 5 = .ok (.istore_n 2, 1) := dk_61 ((dQ_X9_ask_0 5).trans dk_j5)
theorem dX9_ask_6 : decode cX9_ask 6 = .ok (.iload_n 2, 1) := dk_28 ((dQ_X9_ask_0 6).trans dk_j6)
theorem dX9_ask_7 : decode cX9_ask 7 = .ok (.ifCond .ge 7, 3) := dk_156 ((dQ_X9_ask_0 7).trans dk_j7) ((dQ_X9_ask_0 8).trans dk_j8) ((dQ_X9_ask_0 9).trans dk_j9) dk_vs2_0_7
theorem dX9_ask_10 : decode cX9_ask 10 = .ok (.iload_n 2, 1) := dk_28 ((dQ_X9_ask_0 10).trans dk_j10)
theorem dX9_ask_11 : decode cX9_ask 11 = .ok (.goto 7, 3) := dk_167 ((dQ_X9_ask_0 11).trans dk_j11) ((dQ_X9_ask_0 12).trans dk_j12) ((dQ_X9_ask_0 13).trans dk_j13) dk_vs2_0_7
theorem dX9_ask_14 : decode cX9_ask 14 = .ok (.aload_n 0, 1) := dk_42 ((dQ_X9_ask_0 14).trans dk_j14)
theorem dk_vu2_1_125 : (0x01 : UInt8).toNat * 256 + (0x7d : UInt8).toNat = (381 : Nat) := by decide +kernel
theorem dX9_ask_15 : decode cX9_ask 15 = .ok (.invokevirtual 381, 3) := dk_182 ((dQ_X9_ask_0 15).trans dk_j15) ((dQ_X9_ask_1 0).trans dk_j0) ((dQ_X9_ask_1 1).trans dk_j1) dk_vu2_1_125
theorem dX9_ask_18 : decode cX9_ask 18 = .ok (.ireturn, 1) := dk_172 ((dQ_X9_ask_1 2).trans dk_j2)
def dT_X9_leaves_1 : List UInt8 := (0x57 : UInt8) :: (0x2a : UInt8) :: (0xb4 : UInt8) :: (0x01 : UInt8) :: (0x7a : UInt8) :: (0xac : UInt8) :: []
def dT_X9_leaves_0 : List UInt8 := (0x2a : UInt8) :: (0x1b : UInt8) :: (0xb6 : UInt8) :: (0x01 : UInt8) :: (0x77 : UInt8) :: (0x3d : UInt8) :: (0x1c : UInt8) :: (0x9c : UInt8) :: (0x00 : UInt8) :: (0x05 : UInt8) :: (0x1c : UInt8) :: (0xac : UInt8) :: (0x2a : UInt8) :: (0xb6 : UInt8) :: (0x01 : UInt8) :: (0x7d : UInt8) :: dT_X9_leaves_1
theorem dT_X9_leaves : cX9_leaves.data.toList = dT_X9_leaves_0 := eq_of_beq (show (cX9_leaves.data.toList == dT_X9_leaves_0) = true by decide +kernel)
theorem dQ_X9_leaves_0 : dQ_P cX9_leaves 0 dT_X9_leaves_0 := fun i => by rw [dT_X9_leaves]; rfl
theorem dQ_X9_leaves_1 : dQ_P cX9_leaves 16 dT_X9_leaves_1 := fun i => (dQ_X9_leaves_0 (i + 16)).trans dk_t
theorem dX9_leaves_0 : decode cX9_leaves 0 = .ok (.aload_n 0, 1) := dk_42 ((dQ_X9_leaves_0 0).trans dk_j0)
theorem dX9_leaves_1 : decode cX9_leaves 1 = .ok (.iload_n 1, 1) := dk_27 ((dQ_X9_leaves_0 1).trans dk_j1)
theorem dX9_leaves_2 : decode cX9_leaves 2 = .ok (.invokevirtual 375, 3) := dk_182 ((dQ_X9_leaves_0 2).trans dk_j2) ((dQ_X9_leaves_0 3).trans dk_j3) ((dQ_X9_leaves_0 4).trans dk_j4) dk_vu2_1_119
theorem dX9_leaves_5 : decode cX9_leaves 5 = .ok (.istore_n 2, 1) := dk_61 ((dQ_X9_leaves_0 5).trans dk_j5)
theorem dX9_leaves_6 : decode cX9_leaves 6 = .ok (.iload_n 2, 1) := dk_28 ((dQ_X9_leaves_0 6).trans dk_j6)
theorem dX9_leaves_7 : decode cX9_leaves 7 = .ok (.ifCond .ge 5, 3) := dk_156 ((dQ_X9_leaves_0 7).trans dk_j7) ((dQ_X9_leaves_0 8).trans dk_j8) ((dQ_X9_leaves_0 9).trans dk_j9) dk_vs2_0_5
theorem dX9_leaves_10 : decode cX9_leaves 10 = .ok (.iload_n 2, 1) := dk_28 ((dQ_X9_leaves_0 10).trans dk_j10)
theorem dX9_leaves_11 : decode cX9_leaves 11 = .ok (.ireturn, 1) := dk_172 ((dQ_X9_leaves_0 11).trans dk_j11)
theorem dX9_leaves_12 : decode cX9_leaves 12 = .ok (.aload_n 0, 1) := dk_42 ((dQ_X9_leaves_0 12).trans dk_j12)
theorem dX9_leaves_13 : decode cX9_leaves 13 = .ok (.invokevirtual 381, 3) := dk_182 ((dQ_X9_leaves_0 13).trans dk_j13) ((dQ_X9_leaves_0 14).trans dk_j14) ((dQ_X9_leaves_0 15).trans dk_j15) dk_vu2_1_125
theorem dX9_leaves_16 : decode cX9_leaves 16 = .ok (.pop, 1) := dk_87 ((dQ_X9_leaves_1 0).trans dk_j0)
theorem dX9_leaves_17 : decode cX9_leaves 17 = .ok (.aload_n 0, 1) := dk_42 ((dQ_X9_leaves_1 1).trans dk_j1)
theorem dX9_leaves_18 : decode cX9_leaves 18 = .ok (.getfield 378, 3) := dk_180 ((dQ_X9_leaves_1 2).trans dk_j2) ((dQ_X9_leaves_1 3).trans dk_j3) ((dQ_X9_leaves_1 4).trans dk_j4) dk_vu2_1_122
theorem dX9_leaves_21 : decode cX9_leaves 21 = .ok (.ireturn, 1) := dk_172 ((dQ_X9_leaves_1 5).trans dk_j5)
def dT_X9_losesBy_5 : List UInt8 := (0x04 : UInt8) :: (0xa0 : UInt8) :: (0x00 : UInt8) :: (0x0c : UInt8) :: (0x2a : UInt8) :: (0xb6 : UInt8) :: (0x00 : UInt8) :: (0xf9 : UInt8) :: (0x07 : UInt8) :: (0x6c : UInt8) :: (0xa7 : UInt8) :: (0x00 : UInt8) :: (0x04 : UInt8) :: (0x03 : UInt8) :: (0x60 : UInt8) :: (0xac : UInt8) :: []
def dT_X9_losesBy_4 : List UInt8 := (0x2e : UInt8) :: (0xb8 : UInt8) :: (0x01 : UInt8) :: (0x16 : UInt8) :: (0x68 : UInt8) :: (0x15 : UInt8) :: (0x05 : UInt8) :: (0x9a : UInt8) :: (0x00 : UInt8) :: (0x07 : UInt8) :: (0x1d : UInt8) :: (0xa7 : UInt8) :: (0x00 : UInt8) :: (0x05 : UInt8) :: (0x15 : UInt8) :: (0x04 : UInt8) :: dT_X9_losesBy_5
def dT_X9_losesBy_3 : List UInt8 := (0x00 : UInt8) :: (0x07 : UInt8) :: (0x1b : UInt8) :: (0xa7 : UInt8) :: (0x00 : UInt8) :: (0x04 : UInt8) :: (0x1c : UInt8) :: (0x36 : UInt8) :: (0x07 : UInt8) :: (0x06 : UInt8) :: (0x2a : UInt8) :: (0xb4 : UInt8) :: (0x00 : UInt8) :: (0x2b : UInt8) :: (0x15 : UInt8) :: (0x07 : UInt8) :: dT_X9_losesBy_4
def dT_X9_losesBy_2 : List UInt8 := (0x0b : UInt8) :: (0x2a : UInt8) :: (0xb4 : UInt8) :: (0x00 : UInt8) :: (0x25 : UInt8) :: (0x1c : UInt8) :: (0x15 : UInt8) :: (0x06 : UInt8) :: (0x4f : UInt8) :: (0x2a : UInt8) :: (0xb6 : UInt8) :: (0x01 : UInt8) :: (0x0a : UInt8) :: (0x15 : UInt8) :: (0x05 : UInt8) :: (0x9a : UInt8) :: dT_X9_losesBy_3
def dT_X9_losesBy_1 : List UInt8 := (0xa0 : UInt8) :: (0x00 : UInt8) :: (0x0b : UInt8) :: (0x2a : UInt8) :: (0xb4 : UInt8) :: (0x00 : UInt8) :: (0x25 : UInt8) :: (0x1b : UInt8) :: (0x15 : UInt8) :: (0x06 : UInt8) :: (0x4f : UInt8) :: (0x15 : UInt8) :: (0x04 : UInt8) :: (0x04 : UInt8) :: (0xa0 : UInt8) :: (0x00 : UInt8) :: dT_X9_losesBy_2
def dT_X9_losesBy_0 : List UInt8 := (0x2a : UInt8) :: (0xb6 : UInt8) :: (0x01 : UInt8) :: (0x07 : UInt8) :: (0x04 : UInt8) :: (0x2a : UInt8) :: (0xb6 : UInt8) :: (0x00 : UInt8) :: (0xf9 : UInt8) :: (0x78 : UInt8) :: (0x04 : UInt8) :: (0x64 : UInt8) :: (0x36 : UInt8) :: (0x06 : UInt8) :: (0x1d : UInt8) :: (0x04 : UInt8) :: dT_X9_losesBy_1
theorem dT_X9_losesBy : cX9_losesBy.data.toList = dT_X9_losesBy_0 := eq_of_beq (show (cX9_losesBy.data.toList == dT_X9_losesBy_0) = true by decide +kernel)
theorem dQ_X9_losesBy_0 : dQ_P cX9_losesBy 0 dT_X9_losesBy_0 := fun i => by rw [dT_X9_losesBy]; rfl
theorem dQ_X9_losesBy_1 : dQ_P cX9_losesBy 16 dT_X9_losesBy_1 := fun i => (dQ_X9_losesBy_0 (i + 16)).trans dk_t
theorem dQ_X9_losesBy_2 : dQ_P cX9_losesBy 32 dT_X9_losesBy_2 := fun i => (dQ_X9_losesBy_1 (i + 16)).trans dk_t
theorem dQ_X9_losesBy_3 : dQ_P cX9_losesBy 48 dT_X9_losesBy_3 := fun i => (dQ_X9_losesBy_2 (i + 16)).trans dk_t
theorem dQ_X9_losesBy_4 : dQ_P cX9_losesBy 64 dT_X9_losesBy_4 := fun i => (dQ_X9_losesBy_3 (i + 16)).trans dk_t
theorem dQ_X9_losesBy_5 : dQ_P cX9_losesBy 80 dT_X9_losesBy_5 := fun i => (dQ_X9_losesBy_4 (i + 16)).trans dk_t
theorem dX9_losesBy_0 : decode cX9_losesBy 0 = .ok (.aload_n 0, 1) := dk_42 ((dQ_X9_losesBy_0 0).trans dk_j0)
theorem dX9_losesBy_1 : decode cX9_losesBy 1 = .ok (.invokevirtual 263, 3) := dk_182 ((dQ_X9_losesBy_0 1).trans dk_j1) ((dQ_X9_losesBy_0 2).trans dk_j2) ((dQ_X9_losesBy_0 3).trans dk_j3) dk_vu2_1_7
theorem dX9_losesBy_4 : decode cX9_losesBy 4 = .ok (.iconst 1, 1) := dk_4 ((dQ_X9_losesBy_0 4).trans dk_j4)
theorem dX9_losesBy_5 : decode cX9_losesBy 5 = .ok (.aload_n 0, 1) := dk_42 ((dQ_X9_losesBy_0 5).trans dk_j5)
theorem dX9_losesBy_6 : decode cX9_losesBy 6 = .ok (.invokevirtual 249, 3) := dk_182 ((dQ_X9_losesBy_0 6).trans dk_j6) ((dQ_X9_losesBy_0 7).trans dk_j7) ((dQ_X9_losesBy_0 8).trans dk_j8) dk_vu2_0_249
theorem dX9_losesBy_9 : decode cX9_losesBy 9 = .ok (.ishl, 1) := dk_120 ((dQ_X9_losesBy_0 9).trans dk_j9)
theorem dX9_losesBy_10 : decode cX9_losesBy 10 = .ok (.iconst 1, 1) := dk_4 ((dQ_X9_losesBy_0 10).trans dk_j10)
theorem dX9_losesBy_11 : decode cX9_losesBy 11 = .ok (.isub, 1) := dk_100 ((dQ_X9_losesBy_0 11).trans dk_j11)
theorem dX9_losesBy_12 : decode cX9_losesBy 12 = .ok (.istore 6, 2) := dk_54 ((dQ_X9_losesBy_0 12).trans dk_j12) ((dQ_X9_losesBy_0 13).trans dk_j13) dk_vu1_6
theorem dX9_losesBy_14 : decode cX9_losesBy 14 = .ok (.iload_n 3, 1) := dk_29 ((dQ_X9_losesBy_0 14).trans dk_j14)
theorem dX9_losesBy_15 : decode cX9_losesBy 15 = .ok (.iconst 1, 1) := dk_4 ((dQ_X9_losesBy_0 15).trans dk_j15)
theorem dX9_losesBy_16 : decode cX9_losesBy 16 = .ok (.if_icmp .ne 11, 3) := dk_160 ((dQ_X9_losesBy_1 0).trans dk_j0) ((dQ_X9_losesBy_1 1).trans dk_j1) ((dQ_X9_losesBy_1 2).trans dk_j2) dk_vs2_0_11
theorem dX9_losesBy_19 : decode cX9_losesBy 19 = .ok (.aload_n 0, 1) := dk_42 ((dQ_X9_losesBy_1 3).trans dk_j3)
theorem dX9_losesBy_20 : decode cX9_losesBy 20 = .ok (.getfield 37, 3) := dk_180 ((dQ_X9_losesBy_1 4).trans dk_j4) ((dQ_X9_losesBy_1 5).trans dk_j5) ((dQ_X9_losesBy_1 6).trans dk_j6) dk_vu2_0_37
theorem dX9_losesBy_23 : decode cX9_losesBy 23 = .ok (.iload_n 1, 1) := dk_27 ((dQ_X9_losesBy_1 7).trans dk_j7)
theorem dX9_losesBy_24 : decode cX9_losesBy 24 = .ok (.iload 6, 2) := dk_21 ((dQ_X9_losesBy_1 8).trans dk_j8) ((dQ_X9_losesBy_1 9).trans dk_j9) dk_vu1_6
theorem dX9_losesBy_26 : decode cX9_losesBy 26 = .ok (.iastore, 1) := dk_79 ((dQ_X9_losesBy_1 10).trans dk_j10)
theorem dX9_losesBy_27 : decode cX9_losesBy 27 = .ok (.iload 4, 2) := dk_21 ((dQ_X9_losesBy_1 11).trans dk_j11) ((dQ_X9_losesBy_1 12).trans dk_j12) dk_vu1_4
theorem dX9_losesBy_29 : decode cX9_losesBy 29 = .ok (.iconst 1, 1) := dk_4 ((dQ_X9_losesBy_1 13).trans dk_j13)
theorem dX9_losesBy_30 : decode cX9_losesBy 30 = .ok (.if_icmp .ne 11, 3) := dk_160 ((dQ_X9_losesBy_1 14).trans dk_j14) ((dQ_X9_losesBy_1 15).trans dk_j15) ((dQ_X9_losesBy_2 0).trans dk_j0) dk_vs2_0_11
theorem dX9_losesBy_33 : decode cX9_losesBy 33 = .ok (.aload_n 0, 1) := dk_42 ((dQ_X9_losesBy_2 1).trans dk_j1)
theorem dX9_losesBy_34 : decode cX9_losesBy 34 = .ok (.getfield 37, 3) := dk_180 ((dQ_X9_losesBy_2 2).trans dk_j2) ((dQ_X9_losesBy_2 3).trans dk_j3) ((dQ_X9_losesBy_2 4).trans dk_j4) dk_vu2_0_37
theorem dX9_losesBy_37 : decode cX9_losesBy 37 = .ok (.iload_n 2, 1) := dk_28 ((dQ_X9_losesBy_2 5).trans dk_j5)
theorem dX9_losesBy_38 : decode cX9_losesBy 38 = .ok (.iload 6, 2) := dk_21 ((dQ_X9_losesBy_2 6).trans dk_j6) ((dQ_X9_losesBy_2 7).trans dk_j7) dk_vu1_6
theorem dX9_losesBy_40 : decode cX9_losesBy 40 = .ok (.iastore, 1) := dk_79 ((dQ_X9_losesBy_2 8).trans dk_j8)
theorem dX9_losesBy_41 : decode cX9_losesBy 41 = .ok (.aload_n 0, 1) := dk_42 ((dQ_X9_losesBy_2 9).trans dk_j9)
theorem dX9_losesBy_42 : decode cX9_losesBy 42 = .ok (.invokevirtual 266, 3) := dk_182 ((dQ_X9_losesBy_2 10).trans dk_j10) ((dQ_X9_losesBy_2 11).trans dk_j11) ((dQ_X9_losesBy_2 12).trans dk_j12) dk_vu2_1_10
theorem dX9_losesBy_45 : decode cX9_losesBy 45 = .ok (.iload 5, 2) := dk_21 ((dQ_X9_losesBy_2 13).trans dk_j13) ((dQ_X9_losesBy_2 14).trans dk_j14) dk_vu1_5
theorem dX9_losesBy_47 : decode cX9_losesBy 47 = .ok (.ifCond .ne 7, 3) := dk_154 ((dQ_X9_losesBy_2 15).trans dk_j15) ((dQ_X9_losesBy_3 0).trans dk_j0) ((dQ_X9_losesBy_3 1).trans dk_j1) dk_vs2_0_7
theorem dX9_losesBy_50 : decode cX9_losesBy 50 = .ok (.iload_n 1, 1) := dk_27 ((dQ_X9_losesBy_3 2).trans dk_j2)
theorem dX9_losesBy_51 : decode cX9_losesBy 51 = .ok (.goto 4, 3) := dk_167 ((dQ_X9_losesBy_3 3).trans dk_j3) ((dQ_X9_losesBy_3 4).trans dk_j4) ((dQ_X9_losesBy_3 5).trans dk_j5) dk_vs2_0_4
theorem dX9_losesBy_54 : decode cX9_losesBy 54 = .ok (.iload_n 2, 1) := dk_28 ((dQ_X9_losesBy_3 6).trans dk_j6)
theorem dX9_losesBy_55 : decode cX9_losesBy 55 = .ok (.istore 7, 2) := dk_54 ((dQ_X9_losesBy_3 7).trans dk_j7) ((dQ_X9_losesBy_3 8).trans dk_j8) dk_vu1_7
theorem dX9_losesBy_57 : decode cX9_losesBy 57 = .ok (.iconst 3, 1) := dk_6 ((dQ_X9_losesBy_3 9).trans dk_j9)
theorem dX9_losesBy_58 : decode cX9_losesBy 58 = .ok (.aload_n 0, 1) := dk_42 ((dQ_X9_losesBy_3 10).trans dk_j10)
theorem dX9_losesBy_59 : decode cX9_losesBy 59 = .ok (.getfield 43, 3) := dk_180 ((dQ_X9_losesBy_3 11).trans dk_j11) ((dQ_X9_losesBy_3 12).trans dk_j12) ((dQ_X9_losesBy_3 13).trans dk_j13) dk_vu2_0_43
theorem dX9_losesBy_62 : decode cX9_losesBy 62 = .ok (.iload 7, 2) := dk_21 ((dQ_X9_losesBy_3 14).trans dk_j14) ((dQ_X9_losesBy_3 15).trans dk_j15) dk_vu1_7
theorem dX9_losesBy_64 : decode cX9_losesBy 64 = .ok (.iaload, 1) := dk_46 ((dQ_X9_losesBy_4 0).trans dk_j0)
theorem dX9_losesBy_65 : decode cX9_losesBy 65 = .ok (.invokestatic 278, 3) := dk_184 ((dQ_X9_losesBy_4 1).trans dk_j1) ((dQ_X9_losesBy_4 2).trans dk_j2) ((dQ_X9_losesBy_4 3).trans dk_j3) dk_vu2_1_22
theorem dX9_losesBy_68 : decode cX9_losesBy 68 = .ok (.imul, 1) := dk_104 ((dQ_X9_losesBy_4 4).trans dk_j4)
theorem dX9_losesBy_69 : decode cX9_losesBy 69 = .ok (.iload 5, 2) := dk_21 ((dQ_X9_losesBy_4 5).trans dk_j5) ((dQ_X9_losesBy_4 6).trans dk_j6) dk_vu1_5
theorem dX9_losesBy_71 : decode cX9_losesBy 71 = .ok (.ifCond .ne 7, 3) := dk_154 ((dQ_X9_losesBy_4 7).trans dk_j7) ((dQ_X9_losesBy_4 8).trans dk_j8) ((dQ_X9_losesBy_4 9).trans dk_j9) dk_vs2_0_7
theorem dX9_losesBy_74 : decode cX9_losesBy 74 = .ok (.iload_n 3, 1) := dk_29 ((dQ_X9_losesBy_4 10).trans dk_j10)
theorem dX9_losesBy_75 : decode cX9_losesBy 75 = .ok (.goto 5, 3) := dk_167 ((dQ_X9_losesBy_4 11).trans dk_j11) ((dQ_X9_losesBy_4 12).trans dk_j12) ((dQ_X9_losesBy_4 13).trans dk_j13) dk_vs2_0_5
theorem dX9_losesBy_78 : decode cX9_losesBy 78 = .ok (.iload 4, 2) := dk_21 ((dQ_X9_losesBy_4 14).trans dk_j14) ((dQ_X9_losesBy_4 15).trans dk_j15) dk_vu1_4
theorem dX9_losesBy_80 : decode cX9_losesBy 80 = .ok (.iconst 1, 1) := dk_4 ((dQ_X9_losesBy_5 0).trans dk_j0)
theorem dX9_losesBy_81 : decode cX9_losesBy 81 = .ok (.if_icmp .ne 12, 3) := dk_160 ((dQ_X9_losesBy_5 1).trans dk_j1) ((dQ_X9_losesBy_5 2).trans dk_j2) ((dQ_X9_losesBy_5 3).trans dk_j3) dk_vs2_0_12
theorem dX9_losesBy_84 : decode cX9_losesBy 84 = .ok (.aload_n 0, 1) := dk_42 ((dQ_X9_losesBy_5 4).trans dk_j4)
theorem dX9_losesBy_85 : decode cX9_losesBy 85 = .ok (.invokevirtual 249, 3) := dk_182 ((dQ_X9_losesBy_5 5).trans dk_j5) ((dQ_X9_losesBy_5 6).trans dk_j6) ((dQ_X9_losesBy_5 7).trans dk_j7) dk_vu2_0_249
theorem dX9_losesBy_88 : decode cX9_losesBy 88 = .ok (.iconst 4, 1) := dk_7 ((dQ_X9_losesBy_5 8).trans dk_j8)
theorem dX9_losesBy_89 : decode cX9_losesBy 89 = .ok (.idiv, 1) := dk_108 ((dQ_X9_losesBy_5 9).trans dk_j9)
theorem dX9_losesBy_90 : decode cX9_losesBy 90 = .ok (.goto 4, 3) := dk_167 ((dQ_X9_losesBy_5 10).trans dk_j10) ((dQ_X9_losesBy_5 11).trans dk_j11) ((dQ_X9_losesBy_5 12).trans dk_j12) dk_vs2_0_4
theorem dX9_losesBy_93 : decode cX9_losesBy 93 = .ok (.iconst 0, 1) := dk_3 ((dQ_X9_losesBy_5 13).trans dk_j13)
theorem dX9_losesBy_94 : decode cX9_losesBy 94 = .ok (.iadd, 1) := dk_96 ((dQ_X9_losesBy_5 14).trans dk_j14)
theorem dX9_losesBy_95 : decode cX9_losesBy 95 = .ok (.ireturn, 1) := dk_172 ((dQ_X9_losesBy_5 15).trans dk_j15)
def dT_X9_areTwo_1 : List UInt8 := (0x00 : UInt8) :: (0x0c : UInt8) :: (0x1b : UInt8) :: (0x1c : UInt8) :: (0x9f : UInt8) :: (0x00 : UInt8) :: (0x07 : UInt8) :: (0x04 : UInt8) :: (0xa7 : UInt8) :: (0x00 : UInt8) :: (0x04 : UInt8) :: (0x03 : UInt8) :: (0xac : UInt8) :: []
def dT_X9_areTwo_0 : List UInt8 := (0x2a : UInt8) :: (0x1b : UInt8) :: (0x85 : UInt8) :: (0xb6 : UInt8) :: (0x00 : UInt8) :: (0xe0 : UInt8) :: (0x99 : UInt8) :: (0x00 : UInt8) :: (0x15 : UInt8) :: (0x2a : UInt8) :: (0x1c : UInt8) :: (0x85 : UInt8) :: (0xb6 : UInt8) :: (0x00 : UInt8) :: (0xe0 : UInt8) :: (0x99 : UInt8) :: dT_X9_areTwo_1
theorem dT_X9_areTwo : cX9_areTwo.data.toList = dT_X9_areTwo_0 := eq_of_beq (show (cX9_areTwo.data.toList == dT_X9_areTwo_0) = true by decide +kernel)
theorem dQ_X9_areTwo_0 : dQ_P cX9_areTwo 0 dT_X9_areTwo_0 := fun i => by rw [dT_X9_areTwo]; rfl
theorem dQ_X9_areTwo_1 : dQ_P cX9_areTwo 16 dT_X9_areTwo_1 := fun i => (dQ_X9_areTwo_0 (i + 16)).trans dk_t
theorem dX9_areTwo_0 : decode cX9_areTwo 0 = .ok (.aload_n 0, 1) := dk_42 ((dQ_X9_areTwo_0 0).trans dk_j0)
theorem dX9_areTwo_1 : decode cX9_areTwo 1 = .ok (.iload_n 1, 1) := dk_27 ((dQ_X9_areTwo_0 1).trans dk_j1)
theorem dX9_areTwo_2 : decode cX9_areTwo 2 = .ok (.i2l, 1) := dk_133 ((dQ_X9_areTwo_0 2).trans dk_j2)
theorem dX9_areTwo_3 : decode cX9_areTwo 3 = .ok (.invokevirtual 224, 3) := dk_182 ((dQ_X9_areTwo_0 3).trans dk_j3) ((dQ_X9_areTwo_0 4).trans dk_j4) ((dQ_X9_areTwo_0 5).trans dk_j5) dk_vu2_0_224
theorem dX9_areTwo_6 : decode cX9_areTwo 6 = .ok (.ifCond .eq 21, 3) := dk_153 ((dQ_X9_areTwo_0 6).trans dk_j6) ((dQ_X9_areTwo_0 7).trans dk_j7) ((dQ_X9_areTwo_0 8).trans dk_j8) dk_vs2_0_21
theorem dX9_areTwo_9 : decode cX9_areTwo 9 = .ok (.aload_n 0, 1) := dk_42 ((dQ_X9_areTwo_0 9).trans dk_j9)
theorem dX9_areTwo_10 : decode cX9_areTwo 10 = .ok (.iload_n 2, 1) := dk_28 ((dQ_X9_areTwo_0 10).trans dk_j10)
theorem dX9_areTwo_11 : decode cX9_areTwo 11 = .ok (.i2l, 1) := dk_133 ((dQ_X9_areTwo_0 11).trans dk_j11)
theorem dX9_areTwo_12 : decode cX9_areTwo 12 = .ok (.invokevirtual 224, 3) := dk_182 ((dQ_X9_areTwo_0 12).trans dk_j12) ((dQ_X9_areTwo_0 13).trans dk_j13) ((dQ_X9_areTwo_0 14).trans dk_j14) dk_vu2_0_224
theorem dX9_areTwo_15 : decode cX9_areTwo 15 = .ok (.ifCond .eq 12, 3) := dk_153 ((dQ_X9_areTwo_0 15).trans dk_j15) ((dQ_X9_areTwo_1 0).trans dk_j0) ((dQ_X9_areTwo_1 1).trans dk_j1) dk_vs2_0_12
theorem dX9_areTwo_18 : decode cX9_areTwo 18 = .ok (.iload_n 1, 1) := dk_27 ((dQ_X9_areTwo_1 2).trans dk_j2)
theorem dX9_areTwo_19 : decode cX9_areTwo 19 = .ok (.iload_n 2, 1) := dk_28 ((dQ_X9_areTwo_1 3).trans dk_j3)
theorem dX9_areTwo_20 : decode cX9_areTwo 20 = .ok (.if_icmp .eq 7, 3) := dk_159 ((dQ_X9_areTwo_1 4).trans dk_j4) ((dQ_X9_areTwo_1 5).trans dk_j5) ((dQ_X9_areTwo_1 6).trans dk_j6) dk_vs2_0_7
theorem dX9_areTwo_23 : decode cX9_areTwo 23 = .ok (.iconst 1, 1) := dk_4 ((dQ_X9_areTwo_1 7).trans dk_j7)
theorem dX9_areTwo_24 : decode cX9_areTwo 24 = .ok (.goto 4, 3) := dk_167 ((dQ_X9_areTwo_1 8).trans dk_j8) ((dQ_X9_areTwo_1 9).trans dk_j9) ((dQ_X9_areTwo_1 10).trans dk_j10) dk_vs2_0_4
theorem dX9_areTwo_27 : decode cX9_areTwo 27 = .ok (.iconst 0, 1) := dk_3 ((dQ_X9_areTwo_1 11).trans dk_j11)
theorem dX9_areTwo_28 : decode cX9_areTwo 28 = .ok (.ireturn, 1) := dk_172 ((dQ_X9_areTwo_1 12).trans dk_j12)
def dT_X9_rests_7 : List UInt8 := (0x84 : UInt8) :: (0x04 : UInt8) :: (0x01 : UInt8) :: (0xa7 : UInt8) :: (0xff : UInt8) :: (0x9e : UInt8) :: (0x1d : UInt8) :: (0xac : UInt8) :: []
def dT_X9_rests_6 : List UInt8 := (0x1d : UInt8) :: (0x15 : UInt8) :: (0x07 : UInt8) :: (0x99 : UInt8) :: (0x00 : UInt8) :: (0x0a : UInt8) :: (0x04 : UInt8) :: (0x15 : UInt8) :: (0x04 : UInt8) :: (0x78 : UInt8) :: (0xa7 : UInt8) :: (0x00 : UInt8) :: (0x04 : UInt8) :: (0x03 : UInt8) :: (0x80 : UInt8) :: (0x3e : UInt8) :: dT_X9_rests_7
def dT_X9_rests_5 : List UInt8 := (0x06 : UInt8) :: (0x64 : UInt8) :: (0x04 : UInt8) :: (0xb6 : UInt8) :: (0x01 : UInt8) :: (0x83 : UInt8) :: (0xa3 : UInt8) :: (0x00 : UInt8) :: (0x07 : UInt8) :: (0x04 : UInt8) :: (0xa7 : UInt8) :: (0x00 : UInt8) :: (0x04 : UInt8) :: (0x03 : UInt8) :: (0x36 : UInt8) :: (0x07 : UInt8) :: dT_X9_rests_6
def dT_X9_rests_4 : List UInt8 := (0x1c : UInt8) :: (0x15 : UInt8) :: (0x05 : UInt8) :: (0x15 : UInt8) :: (0x06 : UInt8) :: (0x04 : UInt8) :: (0xb6 : UInt8) :: (0x01 : UInt8) :: (0x83 : UInt8) :: (0x2a : UInt8) :: (0x1b : UInt8) :: (0x1c : UInt8) :: (0x15 : UInt8) :: (0x05 : UInt8) :: (0x04 : UInt8) :: (0x15 : UInt8) :: dT_X9_rests_5
def dT_X9_rests_3 : List UInt8 := (0x1c : UInt8) :: (0x04 : UInt8) :: (0x15 : UInt8) :: (0x05 : UInt8) :: (0x64 : UInt8) :: (0x15 : UInt8) :: (0x06 : UInt8) :: (0x03 : UInt8) :: (0xb6 : UInt8) :: (0x01 : UInt8) :: (0x83 : UInt8) :: (0xa3 : UInt8) :: (0x00 : UInt8) :: (0x22 : UInt8) :: (0x2a : UInt8) :: (0x1b : UInt8) :: dT_X9_rests_4
def dT_X9_rests_2 : List UInt8 := (0x7a : UInt8) :: (0x36 : UInt8) :: (0x06 : UInt8) :: (0x2a : UInt8) :: (0x1b : UInt8) :: (0x1c : UInt8) :: (0x15 : UInt8) :: (0x05 : UInt8) :: (0x15 : UInt8) :: (0x06 : UInt8) :: (0x03 : UInt8) :: (0xb6 : UInt8) :: (0x01 : UInt8) :: (0x83 : UInt8) :: (0x2a : UInt8) :: (0x1b : UInt8) :: dT_X9_rests_3
def dT_X9_rests_1 : List UInt8 := (0x04 : UInt8) :: (0x15 : UInt8) :: (0x04 : UInt8) :: (0x07 : UInt8) :: (0xa2 : UInt8) :: (0x00 : UInt8) :: (0x62 : UInt8) :: (0x15 : UInt8) :: (0x04 : UInt8) :: (0x04 : UInt8) :: (0x7e : UInt8) :: (0x36 : UInt8) :: (0x05 : UInt8) :: (0x15 : UInt8) :: (0x04 : UInt8) :: (0x04 : UInt8) :: dT_X9_rests_2
def dT_X9_rests_0 : List UInt8 := (0x2a : UInt8) :: (0x1b : UInt8) :: (0x1c : UInt8) :: (0xb6 : UInt8) :: (0x01 : UInt8) :: (0x80 : UInt8) :: (0x9a : UInt8) :: (0x00 : UInt8) :: (0x06 : UInt8) :: (0x10 : UInt8) :: (0xfe : UInt8) :: (0xac : UInt8) :: (0x03 : UInt8) :: (0x3e : UInt8) :: (0x03 : UInt8) :: (0x36 : UInt8) :: dT_X9_rests_1
theorem dT_X9_rests : cX9_rests.data.toList = dT_X9_rests_0 := eq_of_beq (show (cX9_rests.data.toList == dT_X9_rests_0) = true by decide +kernel)
theorem dQ_X9_rests_0 : dQ_P cX9_rests 0 dT_X9_rests_0 := fun i => by rw [dT_X9_rests]; rfl
theorem dQ_X9_rests_1 : dQ_P cX9_rests 16 dT_X9_rests_1 := fun i => (dQ_X9_rests_0 (i + 16)).trans dk_t
theorem dQ_X9_rests_2 : dQ_P cX9_rests 32 dT_X9_rests_2 := fun i => (dQ_X9_rests_1 (i + 16)).trans dk_t
theorem dQ_X9_rests_3 : dQ_P cX9_rests 48 dT_X9_rests_3 := fun i => (dQ_X9_rests_2 (i + 16)).trans dk_t
theorem dQ_X9_rests_4 : dQ_P cX9_rests 64 dT_X9_rests_4 := fun i => (dQ_X9_rests_3 (i + 16)).trans dk_t
theorem dQ_X9_rests_5 : dQ_P cX9_rests 80 dT_X9_rests_5 := fun i => (dQ_X9_rests_4 (i + 16)).trans dk_t
theorem dQ_X9_rests_6 : dQ_P cX9_rests 96 dT_X9_rests_6 := fun i => (dQ_X9_rests_5 (i + 16)).trans dk_t
theorem dQ_X9_rests_7 : dQ_P cX9_rests 112 dT_X9_rests_7 := fun i => (dQ_X9_rests_6 (i + 16)).trans dk_t
theorem dX9_rests_0 : decode cX9_rests 0 = .ok (.aload_n 0, 1) := dk_42 ((dQ_X9_rests_0 0).trans dk_j0)
theorem dX9_rests_1 : decode cX9_rests 1 = .ok (.iload_n 1, 1) := dk_27 ((dQ_X9_rests_0 1).trans dk_j1)
theorem dX9_rests_2 : decode cX9_rests 2 = .ok (.iload_n 2, 1) := dk_28 ((dQ_X9_rests_0 2).trans dk_j2)
theorem dk_vu2_1_128 : (0x01 : UInt8).toNat * 256 + (0x80 : UInt8).toNat = (384 : Nat) := by decide +kernel
theorem dX9_rests_3 : decode cX9_rests 3 = .ok (.invokevirtual 384, 3) := dk_182 ((dQ_X9_rests_0 3).trans dk_j3) ((dQ_X9_rests_0 4).trans dk_j4) ((dQ_X9_rests_0 5).trans dk_j5) dk_vu2_1_128
theorem dX9_rests_6 : decode cX9_rests 6 = .ok (.ifCond .ne 6, 3) := dk_154 ((dQ_X9_rests_0 6).trans dk_j6) ((dQ_X9_rests_0 7).trans dk_j7) ((dQ_X9_rests_0 8).trans dk_j8) dk_vs2_0_6
theorem dX9_rests_9 : decode cX9_rests 9 = .ok (.bipush (-2), 2) := dk_16 ((dQ_X9_rests_0 9).trans dk_j9) ((dQ_X9_rests_0 10).trans dk_j10) dk_vs1_254
theorem dX9_rests_11 : decode cX9_rests 11 = .ok (.ireturn, 1) := dk_172 ((dQ_X9_rests_0 11).trans dk_j11)
theorem dX9_rests_12 : decode cX9_rests 12 = .ok (.iconst 0, 1) := dk_3 ((dQ_X9_rests_0 12).trans dk_j12)
theorem dX9_rests_13 : decode cX9_rests 13 = .ok (.istore_n 3, 1) := dk_62 ((dQ_X9_rests_0 13).trans dk_j13)
theorem dX9_rests_14 : decode cX9_rests 14 = .ok (.iconst 0, 1) := dk_3 ((dQ_X9_rests_0 14).trans dk_j14)
theorem dX9_rests_15 : decode cX9_rests 15 = .ok (.istore 4, 2) := dk_54 ((dQ_X9_rests_0 15).trans dk_j15) ((dQ_X9_rests_1 0).trans dk_j0) dk_vu1_4
theorem dX9_rests_17 : decode cX9_rests 17 = .ok (.iload 4, 2) := dk_21 ((dQ_X9_rests_1 1).trans dk_j1) ((dQ_X9_rests_1 2).trans dk_j2) dk_vu1_4
theorem dX9_rests_19 : decode cX9_rests 19 = .ok (.iconst 4, 1) := dk_7 ((dQ_X9_rests_1 3).trans dk_j3)
theorem dk_vs2_0_98 : Reader.signed 16 ((0x00 : UInt8).toNat * 256 + (0x62 : UInt8).toNat) = (98 : Int) := by decide +kernel
theorem dX9_rests_20 : decode cX9_rests 20 = .ok (.if_icmp .ge 98, 3) := dk_162 ((dQ_X9_rests_1 4).trans dk_j4) ((dQ_X9_rests_1 5).trans dk_j5) ((dQ_X9_rests_1 6).trans dk_j6) dk_vs2_0_98
theorem dX9_rests_23 : decode cX9_rests 23 = .ok (.iload 4, 2) := dk_21 ((dQ_X9_rests_1 7).trans dk_j7) ((dQ_X9_rests_1 8).trans dk_j8) dk_vu1_4
theorem dX9_rests_25 : decode cX9_rests 25 = .ok (.iconst 1, 1) := dk_4 ((dQ_X9_rests_1 9).trans dk_j9)
theorem dX9_rests_26 : decode cX9_rests 26 = .ok (.iand, 1) := dk_126 ((dQ_X9_rests_1 10).trans dk_j10)
theorem dX9_rests_27 : decode cX9_rests 27 = .ok (.istore 5, 2) := dk_54 ((dQ_X9_rests_1 11).trans dk_j11) ((dQ_X9_rests_1 12).trans dk_j12) dk_vu1_5
theorem dX9_rests_29 : decode cX9_rests 29 = .ok (.iload 4, 2) := dk_21 ((dQ_X9_rests_1 13).trans dk_j13) ((dQ_X9_rests_1 14).trans dk_j14) dk_vu1_4
theorem dX9_rests_31 : decode cX9_rests 31 = .ok (.iconst 1, 1) := dk_4 ((dQ_X9_rests_1 15).trans dk_j15)
theorem dX9_rests_32 : decode cX9_rests 32 = .ok (.ishr, 1) := dk_122 ((dQ_X9_rests_2 0).trans dk_j0)
theorem dX9_rests_33 : decode cX9_rests 33 = .ok (.istore 6, 2) := dk_54 ((dQ_X9_rests_2 1).trans dk_j1) ((dQ_X9_rests_2 2).trans dk_j2) dk_vu1_6
theorem dX9_rests_35 : decode cX9_rests 35 = .ok (.aload_n 0, 1) := dk_42 ((dQ_X9_rests_2 3).trans dk_j3)
theorem dX9_rests_36 : decode cX9_rests 36 = .ok (.iload_n 1, 1) := dk_27 ((dQ_X9_rests_2 4).trans dk_j4)
theorem dX9_rests_37 : decode cX9_rests 37 = .ok (.iload_n 2, 1) := dk_28 ((dQ_X9_rests_2 5).trans dk_j5)
theorem dX9_rests_38 : decode cX9_rests 38 = .ok (.iload 5, 2) := dk_21 ((dQ_X9_rests_2 6).trans dk_j6) ((dQ_X9_rests_2 7).trans dk_j7) dk_vu1_5
theorem dX9_rests_40 : decode cX9_rests 40 = .ok (.iload 6, 2) := dk_21 ((dQ_X9_rests_2 8).trans dk_j8) ((dQ_X9_rests_2 9).trans dk_j9) dk_vu1_6
theorem dX9_rests_42 : decode cX9_rests 42 = .ok (.iconst 0, 1) := dk_3 ((dQ_X9_rests_2 10).trans dk_j10)
theorem dk_vu2_1_131 : (0x01 : UInt8).toNat * 256 + (0x83 : UInt8).toNat = (387 : Nat) := by decide +kernel
theorem dX9_rests_43 : decode cX9_rests 43 = .ok (.invokevirtual 387, 3) := dk_182 ((dQ_X9_rests_2 11).trans dk_j11) ((dQ_X9_rests_2 12).trans dk_j12) ((dQ_X9_rests_2 13).trans dk_j13) dk_vu2_1_131
theorem dX9_rests_46 : decode cX9_rests 46 = .ok (.aload_n 0, 1) := dk_42 ((dQ_X9_rests_2 14).trans dk_j14)
theorem dX9_rests_47 : decode cX9_rests 47 = .ok (.iload_n 1, 1) := dk_27 ((dQ_X9_rests_2 15).trans dk_j15)
theorem dX9_rests_48 : decode cX9_rests 48 = .ok (.iload_n 2, 1) := dk_28 ((dQ_X9_rests_3 0).trans dk_j0)
theorem dX9_rests_49 : decode cX9_rests 49 = .ok (.iconst 1, 1) := dk_4 ((dQ_X9_rests_3 1).trans dk_j1)
theorem dX9_rests_50 : decode cX9_rests 50 = .ok (.iload 5, 2) := dk_21 ((dQ_X9_rests_3 2).trans dk_j2) ((dQ_X9_rests_3 3).trans dk_j3) dk_vu1_5
theorem dX9_rests_52 : decode cX9_rests 52 = .ok (.isub, 1) := dk_100 ((dQ_X9_rests_3 4).trans dk_j4)
theorem dX9_rests_53 : decode cX9_rests 53 = .ok (.iload 6, 2) := dk_21 ((dQ_X9_rests_3 5).trans dk_j5) ((dQ_X9_rests_3 6).trans dk_j6) dk_vu1_6
theorem dX9_rests_55 : decode cX9_rests 55 = .ok (.iconst 0, 1) := dk_3 ((dQ_X9_rests_3 7).trans dk_j7)
theorem dX9_rests_56 : decode cX9_rests 56 = .ok (.invokevirtual 387, 3) := dk_182 ((dQ_X9_rests_3 8).trans dk_j8) ((dQ_X9_rests_3 9).trans dk_j9) ((dQ_X9_rests_3 10).trans dk_j10) dk_vu2_1_131
theorem dX9_rests_59 : decode cX9_rests 59 = .ok (.if_icmp .gt 34, 3) := dk_163 ((dQ_X9_rests_3 11).trans dk_j11) ((dQ_X9_rests_3 12).trans dk_j12) ((dQ_X9_rests_3 13).trans dk_j13) dk_vs2_0_34
theorem dX9_rests_62 : decode cX9_rests 62 = .ok (.aload_n 0, 1) := dk_42 ((dQ_X9_rests_3 14).trans dk_j14)
theorem dX9_rests_63 : decode cX9_rests 63 = .ok (.iload_n 1, 1) := dk_27 ((dQ_X9_rests_3 15).trans dk_j15)
theorem dX9_rests_64 : decode cX9_rests 64 = .ok (.iload_n 2, 1) := dk_28 ((dQ_X9_rests_4 0).trans dk_j0)
theorem dX9_rests_65 : decode cX9_rests 65 = .ok (.iload 5, 2) := dk_21 ((dQ_X9_rests_4 1).trans dk_j1) ((dQ_X9_rests_4 2).trans dk_j2) dk_vu1_5
theorem dX9_rests_67 : decode cX9_rests 67 = .ok (.iload 6, 2) := dk_21 ((dQ_X9_rests_4 3).trans dk_j3) ((dQ_X9_rests_4 4).trans dk_j4) dk_vu1_6
theorem dX9_rests_69 : decode cX9_rests 69 = .ok (.iconst 1, 1) := dk_4 ((dQ_X9_rests_4 5).trans dk_j5)
theorem dX9_rests_70 : decode cX9_rests 70 = .ok (.invokevirtual 387, 3) := dk_182 ((dQ_X9_rests_4 6).trans dk_j6) ((dQ_X9_rests_4 7).trans dk_j7) ((dQ_X9_rests_4 8).trans dk_j8) dk_vu2_1_131
theorem dX9_rests_73 : decode cX9_rests 73 = .ok (.aload_n 0, 1) := dk_42 ((dQ_X9_rests_4 9).trans dk_j9)
theorem dX9_rests_74 : decode cX9_rests 74 = .ok (.iload_n 1, 1) := dk_27 ((dQ_X9_rests_4 10).trans dk_j10)
theorem dX9_rests_75 : decode cX9_rests 75 = .ok (.iload_n 2, 1) := dk_28 ((dQ_X9_rests_4 11).trans dk_j11)
theorem dX9_rests_76 : decode cX9_rests 76 = .ok (.iload 5, 2) := dk_21 ((dQ_X9_rests_4 12).trans dk_j12) ((dQ_X9_rests_4 13).trans dk_j13) dk_vu1_5
theorem dX9_rests_78 : decode cX9_rests 78 = .ok (.iconst 1, 1) := dk_4 ((dQ_X9_rests_4 14).trans dk_j14)
theorem dX9_rests_79 : decode cX9_rests 79 = .ok (.iload 6, 2) := dk_21 ((dQ_X9_rests_4 15).trans dk_j15) ((dQ_X9_rests_5 0).trans dk_j0) dk_vu1_6
theorem dX9_rests_81 : decode cX9_rests 81 = .ok (.isub, 1) := dk_100 ((dQ_X9_rests_5 1).trans dk_j1)
theorem dX9_rests_82 : decode cX9_rests 82 = .ok (.iconst 1, 1) := dk_4 ((dQ_X9_rests_5 2).trans dk_j2)
theorem dX9_rests_83 : decode cX9_rests 83 = .ok (.invokevirtual 387, 3) := dk_182 ((dQ_X9_rests_5 3).trans dk_j3) ((dQ_X9_rests_5 4).trans dk_j4) ((dQ_X9_rests_5 5).trans dk_j5) dk_vu2_1_131
theorem dX9_rests_86 : decode cX9_rests 86 = .ok (.if_icmp .gt 7, 3) := dk_163 ((dQ_X9_rests_5 6).trans dk_j6) ((dQ_X9_rests_5 7).trans dk_j7) ((dQ_X9_rests_5 8).trans dk_j8) dk_vs2_0_7
theorem dX9_rests_89 : decode cX9_rests 89 = .ok (.iconst 1, 1) := dk_4 ((dQ_X9_rests_5 9).trans dk_j9)
theorem dX9_rests_90 : decode cX9_rests 90 = .ok (.goto 4, 3) := dk_167 ((dQ_X9_rests_5 10).trans dk_j10) ((dQ_X9_rests_5 11).trans dk_j11) ((dQ_X9_rests_5 12).trans dk_j12) dk_vs2_0_4
theorem dX9_rests_93 : decode cX9_rests 93 = .ok (.iconst 0, 1) := dk_3 ((dQ_X9_rests_5 13).trans dk_j13)
theorem dX9_rests_94 : decode cX9_rests 94 = .ok (.istore 7, 2) := dk_54 ((dQ_X9_rests_5 14).trans dk_j14) ((dQ_X9_rests_5 15).trans dk_j15) dk_vu1_7
theorem dX9_rests_96 : decode cX9_rests 96 = .ok (.iload_n 3, 1) := dk_29 ((dQ_X9_rests_6 0).trans dk_j0)
theorem dX9_rests_97 : decode cX9_rests 97 = .ok (.iload 7, 2) := dk_21 ((dQ_X9_rests_6 1).trans dk_j1) ((dQ_X9_rests_6 2).trans dk_j2) dk_vu1_7
theorem dX9_rests_99 : decode cX9_rests 99 = .ok (.ifCond .eq 10, 3) := dk_153 ((dQ_X9_rests_6 3).trans dk_j3) ((dQ_X9_rests_6 4).trans dk_j4) ((dQ_X9_rests_6 5).trans dk_j5) dk_vs2_0_10
theorem dX9_rests_102 : decode cX9_rests 102 = .ok (.iconst 1, 1) := dk_4 ((dQ_X9_rests_6 6).trans dk_j6)
theorem dX9_rests_103 : decode cX9_rests 103 = .ok (.iload 4, 2) := dk_21 ((dQ_X9_rests_6 7).trans dk_j7) ((dQ_X9_rests_6 8).trans dk_j8) dk_vu1_4
theorem dX9_rests_105 : decode cX9_rests 105 = .ok (.ishl, 1) := dk_120 ((dQ_X9_rests_6 9).trans dk_j9)
theorem dX9_rests_106 : decode cX9_rests 106 = .ok (.goto 4, 3) := dk_167 ((dQ_X9_rests_6 10).trans dk_j10) ((dQ_X9_rests_6 11).trans dk_j11) ((dQ_X9_rests_6 12).trans dk_j12) dk_vs2_0_4
theorem dX9_rests_109 : decode cX9_rests 109 = .ok (.iconst 0, 1) := dk_3 ((dQ_X9_rests_6 13).trans dk_j13)
theorem dX9_rests_110 : decode cX9_rests 110 = .ok (.ior, 1) := dk_128 ((dQ_X9_rests_6 14).trans dk_j14)
theorem dX9_rests_111 : decode cX9_rests 111 = .ok (.istore_n 3, 1) := dk_62 ((dQ_X9_rests_6 15).trans dk_j15)
theorem dX9_rests_112 : decode cX9_rests 112 = .ok (.iinc 4 1, 3) := dk_132 ((dQ_X9_rests_7 0).trans dk_j0) ((dQ_X9_rests_7 1).trans dk_j1) ((dQ_X9_rests_7 2).trans dk_j2) dk_vu1_4 dk_vs1_1
theorem dk_vs2_255_158 : Reader.signed 16 ((0xff : UInt8).toNat * 256 + (0x9e : UInt8).toNat) = (-98 : Int) := by decide +kernel
theorem dX9_rests_115 : decode cX9_rests 115 = .ok (.goto (-98), 3) := dk_167 ((dQ_X9_rests_7 3).trans dk_j3) ((dQ_X9_rests_7 4).trans dk_j4) ((dQ_X9_rests_7 5).trans dk_j5) dk_vs2_255_158
theorem dX9_rests_118 : decode cX9_rests 118 = .ok (.iload_n 3, 1) := dk_29 ((dQ_X9_rests_7 6).trans dk_j6)
theorem dX9_rests_119 : decode cX9_rests 119 = .ok (.ireturn, 1) := dk_172 ((dQ_X9_rests_7 7).trans dk_j7)
def dT_X9_loses_2 : List UInt8 := (0x1c : UInt8) :: (0x1d : UInt8) :: (0x15 : UInt8) :: (0x04 : UInt8) :: (0x03 : UInt8) :: (0xb6 : UInt8) :: (0x01 : UInt8) :: (0x83 : UInt8) :: (0xa7 : UInt8) :: (0x00 : UInt8) :: (0x05 : UInt8) :: (0x10 : UInt8) :: (0xfe : UInt8) :: (0xac : UInt8) :: []
def dT_X9_loses_1 : List UInt8 := (0x99 : UInt8) :: (0x00 : UInt8) :: (0x1b : UInt8) :: (0x15 : UInt8) :: (0x04 : UInt8) :: (0x85 : UInt8) :: (0x09 : UInt8) :: (0x0a : UInt8) :: (0xb8 : UInt8) :: (0x00 : UInt8) :: (0x5e : UInt8) :: (0x99 : UInt8) :: (0x00 : UInt8) :: (0x10 : UInt8) :: (0x2a : UInt8) :: (0x1b : UInt8) :: dT_X9_loses_2
def dT_X9_loses_0 : List UInt8 := (0x2a : UInt8) :: (0x1b : UInt8) :: (0x1c : UInt8) :: (0xb6 : UInt8) :: (0x01 : UInt8) :: (0x80 : UInt8) :: (0x99 : UInt8) :: (0x00 : UInt8) :: (0x25 : UInt8) :: (0x1d : UInt8) :: (0x85 : UInt8) :: (0x09 : UInt8) :: (0x0a : UInt8) :: (0xb8 : UInt8) :: (0x00 : UInt8) :: (0x5e : UInt8) :: dT_X9_loses_1
theorem dT_X9_loses : cX9_loses.data.toList = dT_X9_loses_0 := eq_of_beq (show (cX9_loses.data.toList == dT_X9_loses_0) = true by decide +kernel)
theorem dQ_X9_loses_0 : dQ_P cX9_loses 0 dT_X9_loses_0 := fun i => by rw [dT_X9_loses]; rfl
theorem dQ_X9_loses_1 : dQ_P cX9_loses 16 dT_X9_loses_1 := fun i => (dQ_X9_loses_0 (i + 16)).trans dk_t
theorem dQ_X9_loses_2 : dQ_P cX9_loses 32 dT_X9_loses_2 := fun i => (dQ_X9_loses_1 (i + 16)).trans dk_t
theorem dX9_loses_0 : decode cX9_loses 0 = .ok (.aload_n 0, 1) := dk_42 ((dQ_X9_loses_0 0).trans dk_j0)
theorem dX9_loses_1 : decode cX9_loses 1 = .ok (.iload_n 1, 1) := dk_27 ((dQ_X9_loses_0 1).trans dk_j1)
theorem dX9_loses_2 : decode cX9_loses 2 = .ok (.iload_n 2, 1) := dk_28 ((dQ_X9_loses_0 2).trans dk_j2)
theorem dX9_loses_3 : decode cX9_loses 3 = .ok (.invokevirtual 384, 3) := dk_182 ((dQ_X9_loses_0 3).trans dk_j3) ((dQ_X9_loses_0 4).trans dk_j4) ((dQ_X9_loses_0 5).trans dk_j5) dk_vu2_1_128
theorem dX9_loses_6 : decode cX9_loses 6 = .ok (.ifCond .eq 37, 3) := dk_153 ((dQ_X9_loses_0 6).trans dk_j6) ((dQ_X9_loses_0 7).trans dk_j7) ((dQ_X9_loses_0 8).trans dk_j8) dk_vs2_0_37
theorem dX9_loses_9 : decode cX9_loses 9 = .ok (.iload_n 3, 1) := dk_29 ((dQ_X9_loses_0 9).trans dk_j9)
theorem dX9_loses_10 : decode cX9_loses 10 = .ok (.i2l, 1) := dk_133 ((dQ_X9_loses_0 10).trans dk_j10)
theorem dX9_loses_11 : decode cX9_loses 11 = .ok (.lconst 0, 1) := dk_9 ((dQ_X9_loses_0 11).trans dk_j11)
theorem dX9_loses_12 : decode cX9_loses 12 = .ok (.lconst 1, 1) := dk_10 ((dQ_X9_loses_0 12).trans dk_j12)
theorem dX9_loses_13 : decode cX9_loses 13 = .ok (.invokestatic 94, 3) := dk_184 ((dQ_X9_loses_0 13).trans dk_j13) ((dQ_X9_loses_0 14).trans dk_j14) ((dQ_X9_loses_0 15).trans dk_j15) dk_vu2_0_94
theorem dX9_loses_16 : decode cX9_loses 16 = .ok (.ifCond .eq 27, 3) := dk_153 ((dQ_X9_loses_1 0).trans dk_j0) ((dQ_X9_loses_1 1).trans dk_j1) ((dQ_X9_loses_1 2).trans dk_j2) dk_vs2_0_27
theorem dX9_loses_19 : decode cX9_loses 19 = .ok (.iload 4, 2) := dk_21 ((dQ_X9_loses_1 3).trans dk_j3) ((dQ_X9_loses_1 4).trans dk_j4) dk_vu1_4
theorem dX9_loses_21 : decode cX9_loses 21 = .ok (.i2l, 1) := dk_133 ((dQ_X9_loses_1 5).trans dk_j5)
theorem dX9_loses_22 : decode cX9_loses 22 = .ok (.lconst 0, 1) := dk_9 ((dQ_X9_loses_1 6).trans dk_j6)
theorem dX9_loses_23 : decode cX9_loses 23 = .ok (.lconst 1, 1) := dk_10 ((dQ_X9_loses_1 7).trans dk_j7)
theorem dX9_loses_24 : decode cX9_loses 24 = .ok (.invokestatic 94, 3) := dk_184 ((dQ_X9_loses_1 8).trans dk_j8) ((dQ_X9_loses_1 9).trans dk_j9) ((dQ_X9_loses_1 10).trans dk_j10) dk_vu2_0_94
theorem dX9_loses_27 : decode cX9_loses 27 = .ok (.ifCond .eq 16, 3) := dk_153 ((dQ_X9_loses_1 11).trans dk_j11) ((dQ_X9_loses_1 12).trans dk_j12) ((dQ_X9_loses_1 13).trans dk_j13) dk_vs2_0_16
theorem dX9_loses_30 : decode cX9_loses 30 = .ok (.aload_n 0, 1) := dk_42 ((dQ_X9_loses_1 14).trans dk_j14)
theorem dX9_loses_31 : decode cX9_loses 31 = .ok (.iload_n 1, 1) := dk_27 ((dQ_X9_loses_1 15).trans dk_j15)
theorem dX9_loses_32 : decode cX9_loses 32 = .ok (.iload_n 2, 1) := dk_28 ((dQ_X9_loses_2 0).trans dk_j0)
theorem dX9_loses_33 : decode cX9_loses 33 = .ok (.iload_n 3, 1) := dk_29 ((dQ_X9_loses_2 1).trans dk_j1)
theorem dX9_loses_34 : decode cX9_loses 34 = .ok (.iload 4, 2) := dk_21 ((dQ_X9_loses_2 2).trans dk_j2) ((dQ_X9_loses_2 3).trans dk_j3) dk_vu1_4
theorem dX9_loses_36 : decode cX9_loses 36 = .ok (.iconst 0, 1) := dk_3 ((dQ_X9_loses_2 4).trans dk_j4)
theorem dX9_loses_37 : decode cX9_loses 37 = .ok (.invokevirtual 387, 3) := dk_182 ((dQ_X9_loses_2 5).trans dk_j5) ((dQ_X9_loses_2 6).trans dk_j6) ((dQ_X9_loses_2 7).trans dk_j7) dk_vu2_1_131
theorem dX9_loses_40 : decode cX9_loses 40 = .ok (.goto 5, 3) := dk_167 ((dQ_X9_loses_2 8).trans dk_j8) ((dQ_X9_loses_2 9).trans dk_j9) ((dQ_X9_loses_2 10).trans dk_j10) dk_vs2_0_5
theorem dX9_loses_43 : decode cX9_loses 43 = .ok (.bipush (-2), 2) := dk_16 ((dQ_X9_loses_2 11).trans dk_j11) ((dQ_X9_loses_2 12).trans dk_j12) dk_vs1_254
theorem dX9_loses_45 : decode cX9_loses 45 = .ok (.ireturn, 1) := dk_172 ((dQ_X9_loses_2 13).trans dk_j13)
def dT_X9_allWithout_0 : List UInt8 := (0x2a : UInt8) :: (0x1b : UInt8) :: (0xb5 : UInt8) :: (0x00 : UInt8) :: (0xf0 : UInt8) :: (0x2a : UInt8) :: (0xb6 : UInt8) :: (0x01 : UInt8) :: (0x0a : UInt8) :: (0x2a : UInt8) :: (0xb6 : UInt8) :: (0x01 : UInt8) :: (0x22 : UInt8) :: (0xac : UInt8) :: []
theorem dT_X9_allWithout : cX9_allWithout.data.toList = dT_X9_allWithout_0 := eq_of_beq (show (cX9_allWithout.data.toList == dT_X9_allWithout_0) = true by decide +kernel)
theorem dQ_X9_allWithout_0 : dQ_P cX9_allWithout 0 dT_X9_allWithout_0 := fun i => by rw [dT_X9_allWithout]; rfl
theorem dX9_allWithout_0 : decode cX9_allWithout 0 = .ok (.aload_n 0, 1) := dk_42 ((dQ_X9_allWithout_0 0).trans dk_j0)
theorem dX9_allWithout_1 : decode cX9_allWithout 1 = .ok (.iload_n 1, 1) := dk_27 ((dQ_X9_allWithout_0 1).trans dk_j1)
theorem dX9_allWithout_2 : decode cX9_allWithout 2 = .ok (.putfield 240, 3) := dk_181 ((dQ_X9_allWithout_0 2).trans dk_j2) ((dQ_X9_allWithout_0 3).trans dk_j3) ((dQ_X9_allWithout_0 4).trans dk_j4) dk_vu2_0_240
theorem dX9_allWithout_5 : decode cX9_allWithout 5 = .ok (.aload_n 0, 1) := dk_42 ((dQ_X9_allWithout_0 5).trans dk_j5)
theorem dX9_allWithout_6 : decode cX9_allWithout 6 = .ok (.invokevirtual 266, 3) := dk_182 ((dQ_X9_allWithout_0 6).trans dk_j6) ((dQ_X9_allWithout_0 7).trans dk_j7) ((dQ_X9_allWithout_0 8).trans dk_j8) dk_vu2_1_10
theorem dX9_allWithout_9 : decode cX9_allWithout 9 = .ok (.aload_n 0, 1) := dk_42 ((dQ_X9_allWithout_0 9).trans dk_j9)
theorem dX9_allWithout_10 : decode cX9_allWithout 10 = .ok (.invokevirtual 290, 3) := dk_182 ((dQ_X9_allWithout_0 10).trans dk_j10) ((dQ_X9_allWithout_0 11).trans dk_j11) ((dQ_X9_allWithout_0 12).trans dk_j12) dk_vu2_1_34
theorem dX9_allWithout_13 : decode cX9_allWithout 13 = .ok (.ireturn, 1) := dk_172 ((dQ_X9_allWithout_0 13).trans dk_j13)
def dT_X9_cut_2 : List UInt8 := (0xfe : UInt8) :: (0xac : UInt8) :: []
def dT_X9_cut_1 : List UInt8 := (0x85 : UInt8) :: (0xb8 : UInt8) :: (0x00 : UInt8) :: (0x5e : UInt8) :: (0x99 : UInt8) :: (0x00 : UInt8) :: (0x0b : UInt8) :: (0x2a : UInt8) :: (0x1b : UInt8) :: (0xb6 : UInt8) :: (0x01 : UInt8) :: (0x87 : UInt8) :: (0xa7 : UInt8) :: (0x00 : UInt8) :: (0x05 : UInt8) :: (0x10 : UInt8) :: dT_X9_cut_2
def dT_X9_cut_0 : List UInt8 := (0x2a : UInt8) :: (0xb6 : UInt8) :: (0x01 : UInt8) :: (0x07 : UInt8) :: (0x1b : UInt8) :: (0x85 : UInt8) :: (0x09 : UInt8) :: (0x2a : UInt8) :: (0xb4 : UInt8) :: (0x00 : UInt8) :: (0x09 : UInt8) :: (0x10 : UInt8) :: (0x07 : UInt8) :: (0x2e : UInt8) :: (0x04 : UInt8) :: (0x64 : UInt8) :: dT_X9_cut_1
theorem dT_X9_cut : cX9_cut.data.toList = dT_X9_cut_0 := eq_of_beq (show (cX9_cut.data.toList == dT_X9_cut_0) = true by decide +kernel)
theorem dQ_X9_cut_0 : dQ_P cX9_cut 0 dT_X9_cut_0 := fun i => by rw [dT_X9_cut]; rfl
theorem dQ_X9_cut_1 : dQ_P cX9_cut 16 dT_X9_cut_1 := fun i => (dQ_X9_cut_0 (i + 16)).trans dk_t
theorem dQ_X9_cut_2 : dQ_P cX9_cut 32 dT_X9_cut_2 := fun i => (dQ_X9_cut_1 (i + 16)).trans dk_t
theorem dX9_cut_0 : decode cX9_cut 0 = .ok (.aload_n 0, 1) := dk_42 ((dQ_X9_cut_0 0).trans dk_j0)
theorem dX9_cut_1 : decode cX9_cut 1 = .ok (.invokevirtual 263, 3) := dk_182 ((dQ_X9_cut_0 1).trans dk_j1) ((dQ_X9_cut_0 2).trans dk_j2) ((dQ_X9_cut_0 3).trans dk_j3) dk_vu2_1_7
theorem dX9_cut_4 : decode cX9_cut 4 = .ok (.iload_n 1, 1) := dk_27 ((dQ_X9_cut_0 4).trans dk_j4)
theorem dX9_cut_5 : decode cX9_cut 5 = .ok (.i2l, 1) := dk_133 ((dQ_X9_cut_0 5).trans dk_j5)
theorem dX9_cut_6 : decode cX9_cut 6 = .ok (.lconst 0, 1) := dk_9 ((dQ_X9_cut_0 6).trans dk_j6)
theorem dX9_cut_7 : decode cX9_cut 7 = .ok (.aload_n 0, 1) := dk_42 ((dQ_X9_cut_0 7).trans dk_j7)
theorem dX9_cut_8 : decode cX9_cut 8 = .ok (.getfield 9, 3) := dk_180 ((dQ_X9_cut_0 8).trans dk_j8) ((dQ_X9_cut_0 9).trans dk_j9) ((dQ_X9_cut_0 10).trans dk_j10) dk_vu2_0_9
theorem dX9_cut_11 : decode cX9_cut 11 = .ok (.bipush 7, 2) := dk_16 ((dQ_X9_cut_0 11).trans dk_j11) ((dQ_X9_cut_0 12).trans dk_j12) dk_vs1_7
theorem dX9_cut_13 : decode cX9_cut 13 = .ok (.iaload, 1) := dk_46 ((dQ_X9_cut_0 13).trans dk_j13)
theorem dX9_cut_14 : decode cX9_cut 14 = .ok (.iconst 1, 1) := dk_4 ((dQ_X9_cut_0 14).trans dk_j14)
theorem dX9_cut_15 : decode cX9_cut 15 = .ok (.isub, 1) := dk_100 ((dQ_X9_cut_0 15).trans dk_j15)
theorem dX9_cut_16 : decode cX9_cut 16 = .ok (.i2l, 1) := dk_133 ((dQ_X9_cut_1 0).trans dk_j0)
theorem dX9_cut_17 : decode cX9_cut 17 = .ok (.invokestatic 94, 3) := dk_184 ((dQ_X9_cut_1 1).trans dk_j1) ((dQ_X9_cut_1 2).trans dk_j2) ((dQ_X9_cut_1 3).trans dk_j3) dk_vu2_0_94
theorem dX9_cut_20 : decode cX9_cut 20 = .ok (.ifCond .eq 11, 3) := dk_153 ((dQ_X9_cut_1 4).trans dk_j4) ((dQ_X9_cut_1 5).trans dk_j5) ((dQ_X9_cut_1 6).trans dk_j6) dk_vs2_0_11
theorem dX9_cut_23 : decode cX9_cut 23 = .ok (.aload_n 0, 1) := dk_42 ((dQ_X9_cut_1 7).trans dk_j7)
theorem dX9_cut_24 : decode cX9_cut 24 = .ok (.iload_n 1, 1) := dk_27 ((dQ_X9_cut_1 8).trans dk_j8)
theorem dk_vu2_1_135 : (0x01 : UInt8).toNat * 256 + (0x87 : UInt8).toNat = (391 : Nat) := by decide +kernel
theorem dX9_cut_25 : decode cX9_cut 25 = .ok (.invokevirtual 391, 3) := dk_182 ((dQ_X9_cut_1 9).trans dk_j9) ((dQ_X9_cut_1 10).trans dk_j10) ((dQ_X9_cut_1 11).trans dk_j11) dk_vu2_1_135
theorem dX9_cut_28 : decode cX9_cut 28 = .ok (.goto 5, 3) := dk_167 ((dQ_X9_cut_1 12).trans dk_j12) ((dQ_X9_cut_1 13).trans dk_j13) ((dQ_X9_cut_1 14).trans dk_j14) dk_vs2_0_5
theorem dX9_cut_31 : decode cX9_cut 31 = .ok (.bipush (-2), 2) := dk_16 ((dQ_X9_cut_1 15).trans dk_j15) ((dQ_X9_cut_2 0).trans dk_j0) dk_vs1_254
theorem dX9_cut_33 : decode cX9_cut 33 = .ok (.ireturn, 1) := dk_172 ((dQ_X9_cut_2 1).trans dk_j1)
def dT_X9_cuts_3 : List UInt8 := (0x3d : UInt8) :: (0x1d : UInt8) :: (0x3c : UInt8) :: (0x84 : UInt8) :: (0x03 : UInt8) :: (0x01 : UInt8) :: (0xa7 : UInt8) :: (0xff : UInt8) :: (0xdd : UInt8) :: (0x1b : UInt8) :: (0xac : UInt8) :: []
def dT_X9_cuts_2 : List UInt8 := (0xb6 : UInt8) :: (0x01 : UInt8) :: (0x87 : UInt8) :: (0x36 : UInt8) :: (0x04 : UInt8) :: (0x15 : UInt8) :: (0x04 : UInt8) :: (0x1c : UInt8) :: (0xa1 : UInt8) :: (0x00 : UInt8) :: (0x06 : UInt8) :: (0xa7 : UInt8) :: (0x00 : UInt8) :: (0x08 : UInt8) :: (0x15 : UInt8) :: (0x04 : UInt8) :: dT_X9_cuts_3
def dT_X9_cuts_1 : List UInt8 := (0x3d : UInt8) :: (0x03 : UInt8) :: (0x3e : UInt8) :: (0x1d : UInt8) :: (0x2a : UInt8) :: (0xb4 : UInt8) :: (0x00 : UInt8) :: (0x09 : UInt8) :: (0x10 : UInt8) :: (0x07 : UInt8) :: (0x2e : UInt8) :: (0xa2 : UInt8) :: (0x00 : UInt8) :: (0x1e : UInt8) :: (0x2a : UInt8) :: (0x1d : UInt8) :: dT_X9_cuts_2
def dT_X9_cuts_0 : List UInt8 := (0x2a : UInt8) :: (0xb6 : UInt8) :: (0x01 : UInt8) :: (0x10 : UInt8) :: (0x9a : UInt8) :: (0x00 : UInt8) :: (0x06 : UInt8) :: (0x10 : UInt8) :: (0xfe : UInt8) :: (0xac : UInt8) :: (0x02 : UInt8) :: (0x3c : UInt8) :: (0x2a : UInt8) :: (0xb6 : UInt8) :: (0x01 : UInt8) :: (0x22 : UInt8) :: dT_X9_cuts_1
theorem dT_X9_cuts : cX9_cuts.data.toList = dT_X9_cuts_0 := eq_of_beq (show (cX9_cuts.data.toList == dT_X9_cuts_0) = true by decide +kernel)
theorem dQ_X9_cuts_0 : dQ_P cX9_cuts 0 dT_X9_cuts_0 := fun i => by rw [dT_X9_cuts]; rfl
theorem dQ_X9_cuts_1 : dQ_P cX9_cuts 16 dT_X9_cuts_1 := fun i => (dQ_X9_cuts_0 (i + 16)).trans dk_t
theorem dQ_X9_cuts_2 : dQ_P cX9_cuts 32 dT_X9_cuts_2 := fun i => (dQ_X9_cuts_1 (i + 16)).trans dk_t
theorem dQ_X9_cuts_3 : dQ_P cX9_cuts 48 dT_X9_cuts_3 := fun i => (dQ_X9_cuts_2 (i + 16)).trans dk_t
theorem dX9_cuts_0 : decode cX9_cuts 0 = .ok (.aload_n 0, 1) := dk_42 ((dQ_X9_cuts_0 0).trans dk_j0)
theorem dX9_cuts_1 : decode cX9_cuts 1 = .ok (.invokevirtual 272, 3) := dk_182 ((dQ_X9_cuts_0 1).trans dk_j1) ((dQ_X9_cuts_0 2).trans dk_j2) ((dQ_X9_cuts_0 3).trans dk_j3) dk_vu2_1_16
theorem dX9_cuts_4 : decode cX9_cuts 4 = .ok (.ifCond .ne 6, 3) := dk_154 ((dQ_X9_cuts_0 4).trans dk_j4) ((dQ_X9_cuts_0 5).trans dk_j5) ((dQ_X9_cuts_0 6).trans dk_j6) dk_vs2_0_6
theorem dX9_cuts_7 : decode cX9_cuts 7 = .ok (.bipush (-2), 2) := dk_16 ((dQ_X9_cuts_0 7).trans dk_j7) ((dQ_X9_cuts_0 8).trans dk_j8) dk_vs1_254
theorem dX9_cuts_9 : decode cX9_cuts 9 = .ok (.ireturn, 1) := dk_172 ((dQ_X9_cuts_0 9).trans dk_j9)
theorem dX9_cuts_10 : decode cX9_cuts 10 = .ok (.iconst (-1), 1) := dk_2 ((dQ_X9_cuts_0 10).trans dk_j10)
theorem dX9_cuts_11 : decode cX9_cuts 11 = .ok (.istore_n 1, 1) := dk_60 ((dQ_X9_cuts_0 11).trans dk_j11)
theorem dX9_cuts_12 : decode cX9_cuts 12 = .ok (.aload_n 0, 1) := dk_42 ((dQ_X9_cuts_0 12).trans dk_j12)
theorem dX9_cuts_13 : decode cX9_cuts 13 = .ok (.invokevirtual 290, 3) := dk_182 ((dQ_X9_cuts_0 13).trans dk_j13) ((dQ_X9_cuts_0 14).trans dk_j14) ((dQ_X9_cuts_0 15).trans dk_j15) dk_vu2_1_34
theorem dX9_cuts_16 : decode cX9_cuts 16 = .ok (.istore_n 2, 1) := dk_61 ((dQ_X9_cuts_1 0).trans dk_j0)
theorem dX9_cuts_17 : decode cX9_cuts 17 = .ok (.iconst 0, 1) := dk_3 ((dQ_X9_cuts_1 1).trans dk_j1)
theorem dX9_cuts_18 : decode cX9_cuts 18 = .ok (.istore_n 3, 1) := dk_62 ((dQ_X9_cuts_1 2).trans dk_j2)
theorem dX9_cuts_19 : decode cX9_cuts 19 = .ok (.iload_n 3, 1) := dk_29 ((dQ_X9_cuts_1 3).trans dk_j3)
theorem dX9_cuts_20 : decode cX9_cuts 20 = .ok (.aload_n 0, 1) := dk_42 ((dQ_X9_cuts_1 4).trans dk_j4)
theorem dX9_cuts_21 : decode cX9_cuts 21 = .ok (.getfield 9, 3) := dk_180 ((dQ_X9_cuts_1 5).trans dk_j5) ((dQ_X9_cuts_1 6).trans dk_j6) ((dQ_X9_cuts_1 7).trans dk_j7) dk_vu2_0_9
theorem dX9_cuts_24 : decode cX9_cuts 24 = .ok (.bipush 7, 2) := dk_16 ((dQ_X9_cuts_1 8).trans dk_j8) ((dQ_X9_cuts_1 9).trans dk_j9) dk_vs1_7
theorem dX9_cuts_26 : decode cX9_cuts 26 = .ok (.iaload, 1) := dk_46 ((dQ_X9_cuts_1 10).trans dk_j10)
theorem dX9_cuts_27 : decode cX9_cuts 27 = .ok (.if_icmp .ge 30, 3) := dk_162 ((dQ_X9_cuts_1 11).trans dk_j11) ((dQ_X9_cuts_1 12).trans dk_j12) ((dQ_X9_cuts_1 13).trans dk_j13) dk_vs2_0_30
theorem dX9_cuts_30 : decode cX9_cuts 30 = .ok (.aload_n 0, 1) := dk_42 ((dQ_X9_cuts_1 14).trans dk_j14)
theorem dX9_cuts_31 : decode cX9_cuts 31 = .ok (.iload_n 3, 1) := dk_29 ((dQ_X9_cuts_1 15).trans dk_j15)
theorem dX9_cuts_32 : decode cX9_cuts 32 = .ok (.invokevirtual 391, 3) := dk_182 ((dQ_X9_cuts_2 0).trans dk_j0) ((dQ_X9_cuts_2 1).trans dk_j1) ((dQ_X9_cuts_2 2).trans dk_j2) dk_vu2_1_135
theorem dX9_cuts_35 : decode cX9_cuts 35 = .ok (.istore 4, 2) := dk_54 ((dQ_X9_cuts_2 3).trans dk_j3) ((dQ_X9_cuts_2 4).trans dk_j4) dk_vu1_4
theorem dX9_cuts_37 : decode cX9_cuts 37 = .ok (.iload 4, 2) := dk_21 ((dQ_X9_cuts_2 5).trans dk_j5) ((dQ_X9_cuts_2 6).trans dk_j6) dk_vu1_4
theorem dX9_cuts_39 : decode cX9_cuts 39 = .ok (.iload_n 2, 1) := dk_28 ((dQ_X9_cuts_2 7).trans dk_j7)
theorem dX9_cuts_40 : decode cX9_cuts 40 = .ok (.if_icmp .lt 6, 3) := dk_161 ((dQ_X9_cuts_2 8).trans dk_j8) ((dQ_X9_cuts_2 9).trans dk_j9) ((dQ_X9_cuts_2 10).trans dk_j10) dk_vs2_0_6
theorem dX9_cuts_43 : decode cX9_cuts 43 = .ok (.goto 8, 3) := dk_167 ((dQ_X9_cuts_2 11).trans dk_j11) ((dQ_X9_cuts_2 12).trans dk_j12) ((dQ_X9_cuts_2 13).trans dk_j13) dk_vs2_0_8
theorem dX9_cuts_46 : decode cX9_cuts 46 = .ok (.iload 4, 2) := dk_21 ((dQ_X9_cuts_2 14).trans dk_j14) ((dQ_X9_cuts_2 15).trans dk_j15) dk_vu1_4
theorem dX9_cuts_48 : decode cX9_cuts 48 = .ok (.istore_n 2, 1) := dk_61 ((dQ_X9_cuts_3 0).trans dk_j0)
theorem dX9_cuts_49 : decode cX9_cuts 49 = .ok (.iload_n 3, 1) := dk_29 ((dQ_X9_cuts_3 1).trans dk_j1)
theorem dX9_cuts_50 : decode cX9_cuts 50 = .ok (.istore_n 1, 1) := dk_60 ((dQ_X9_cuts_3 2).trans dk_j2)
theorem dX9_cuts_51 : decode cX9_cuts 51 = .ok (.iinc 3 1, 3) := dk_132 ((dQ_X9_cuts_3 3).trans dk_j3) ((dQ_X9_cuts_3 4).trans dk_j4) ((dQ_X9_cuts_3 5).trans dk_j5) dk_vu1_3 dk_vs1_1
theorem dX9_cuts_54 : decode cX9_cuts 54 = .ok (.goto (-35), 3) := dk_167 ((dQ_X9_cuts_3 6).trans dk_j6) ((dQ_X9_cuts_3 7).trans dk_j7) ((dQ_X9_cuts_3 8).trans dk_j8) dk_vs2_255_221
theorem dX9_cuts_57 : decode cX9_cuts 57 = .ok (.iload_n 1, 1) := dk_27 ((dQ_X9_cuts_3 9).trans dk_j9)
theorem dX9_cuts_58 : decode cX9_cuts 58 = .ok (.ireturn, 1) := dk_172 ((dQ_X9_cuts_3 10).trans dk_j10)
def dT_X9_divisor_2 : List UInt8 := (0x04 : UInt8) :: (0xad : UInt8) :: []
def dT_X9_divisor_1 : List UInt8 := (0x06 : UInt8) :: (0x71 : UInt8) :: (0x37 : UInt8) :: (0x08 : UInt8) :: (0x16 : UInt8) :: (0x06 : UInt8) :: (0x37 : UInt8) :: (0x04 : UInt8) :: (0x16 : UInt8) :: (0x08 : UInt8) :: (0x37 : UInt8) :: (0x06 : UInt8) :: (0xa7 : UInt8) :: (0xff : UInt8) :: (0xea : UInt8) :: (0x16 : UInt8) :: dT_X9_divisor_2
def dT_X9_divisor_0 : List UInt8 := (0x1e : UInt8) :: (0x37 : UInt8) :: (0x04 : UInt8) :: (0x20 : UInt8) :: (0x37 : UInt8) :: (0x06 : UInt8) :: (0x16 : UInt8) :: (0x06 : UInt8) :: (0x09 : UInt8) :: (0x94 : UInt8) :: (0x99 : UInt8) :: (0x00 : UInt8) :: (0x15 : UInt8) :: (0x16 : UInt8) :: (0x04 : UInt8) :: (0x16 : UInt8) :: dT_X9_divisor_1
theorem dT_X9_divisor : cX9_divisor.data.toList = dT_X9_divisor_0 := eq_of_beq (show (cX9_divisor.data.toList == dT_X9_divisor_0) = true by decide +kernel)
theorem dQ_X9_divisor_0 : dQ_P cX9_divisor 0 dT_X9_divisor_0 := fun i => by rw [dT_X9_divisor]; rfl
theorem dQ_X9_divisor_1 : dQ_P cX9_divisor 16 dT_X9_divisor_1 := fun i => (dQ_X9_divisor_0 (i + 16)).trans dk_t
theorem dQ_X9_divisor_2 : dQ_P cX9_divisor 32 dT_X9_divisor_2 := fun i => (dQ_X9_divisor_1 (i + 16)).trans dk_t
theorem dX9_divisor_0 : decode cX9_divisor 0 = .ok (.lload_n 0, 1) := dk_30 ((dQ_X9_divisor_0 0).trans dk_j0)
theorem dX9_divisor_1 : decode cX9_divisor 1 = .ok (.lstore 4, 2) := dk_55 ((dQ_X9_divisor_0 1).trans dk_j1) ((dQ_X9_divisor_0 2).trans dk_j2) dk_vu1_4
theorem dX9_divisor_3 : decode cX9_divisor 3 = .ok (.lload_n 2, 1) := dk_32 ((dQ_X9_divisor_0 3).trans dk_j3)
theorem dX9_divisor_4 : decode cX9_divisor 4 = .ok (.lstore 6, 2) := dk_55 ((dQ_X9_divisor_0 4).trans dk_j4) ((dQ_X9_divisor_0 5).trans dk_j5) dk_vu1_6
theorem dX9_divisor_6 : decode cX9_divisor 6 = .ok (.lload 6, 2) := dk_22 ((dQ_X9_divisor_0 6).trans dk_j6) ((dQ_X9_divisor_0 7).trans dk_j7) dk_vu1_6
theorem dX9_divisor_8 : decode cX9_divisor 8 = .ok (.lconst 0, 1) := dk_9 ((dQ_X9_divisor_0 8).trans dk_j8)
theorem dX9_divisor_9 : decode cX9_divisor 9 = .ok (.lcmp, 1) := dk_148 ((dQ_X9_divisor_0 9).trans dk_j9)
theorem dX9_divisor_10 : decode cX9_divisor 10 = .ok (.ifCond .eq 21, 3) := dk_153 ((dQ_X9_divisor_0 10).trans dk_j10) ((dQ_X9_divisor_0 11).trans dk_j11) ((dQ_X9_divisor_0 12).trans dk_j12) dk_vs2_0_21
theorem dX9_divisor_13 : decode cX9_divisor 13 = .ok (.lload 4, 2) := dk_22 ((dQ_X9_divisor_0 13).trans dk_j13) ((dQ_X9_divisor_0 14).trans dk_j14) dk_vu1_4
theorem dX9_divisor_15 : decode cX9_divisor 15 = .ok (.lload 6, 2) := dk_22 ((dQ_X9_divisor_0 15).trans dk_j15) ((dQ_X9_divisor_1 0).trans dk_j0) dk_vu1_6
theorem dX9_divisor_17 : decode cX9_divisor 17 = .ok (.lrem, 1) := dk_113 ((dQ_X9_divisor_1 1).trans dk_j1)
theorem dX9_divisor_18 : decode cX9_divisor 18 = .ok (.lstore 8, 2) := dk_55 ((dQ_X9_divisor_1 2).trans dk_j2) ((dQ_X9_divisor_1 3).trans dk_j3) dk_vu1_8
theorem dX9_divisor_20 : decode cX9_divisor 20 = .ok (.lload 6, 2) := dk_22 ((dQ_X9_divisor_1 4).trans dk_j4) ((dQ_X9_divisor_1 5).trans dk_j5) dk_vu1_6
theorem dX9_divisor_22 : decode cX9_divisor 22 = .ok (.lstore 4, 2) := dk_55 ((dQ_X9_divisor_1 6).trans dk_j6) ((dQ_X9_divisor_1 7).trans dk_j7) dk_vu1_4
theorem dX9_divisor_24 : decode cX9_divisor 24 = .ok (.lload 8, 2) := dk_22 ((dQ_X9_divisor_1 8).trans dk_j8) ((dQ_X9_divisor_1 9).trans dk_j9) dk_vu1_8
theorem dX9_divisor_26 : decode cX9_divisor 26 = .ok (.lstore 6, 2) := dk_55 ((dQ_X9_divisor_1 10).trans dk_j10) ((dQ_X9_divisor_1 11).trans dk_j11) dk_vu1_6
theorem dk_vs2_255_234 : Reader.signed 16 ((0xff : UInt8).toNat * 256 + (0xea : UInt8).toNat) = (-22 : Int) := by decide +kernel
theorem dX9_divisor_28 : decode cX9_divisor 28 = .ok (.goto (-22), 3) := dk_167 ((dQ_X9_divisor_1 12).trans dk_j12) ((dQ_X9_divisor_1 13).trans dk_j13) ((dQ_X9_divisor_1 14).trans dk_j14) dk_vs2_255_234
theorem dX9_divisor_31 : decode cX9_divisor 31 = .ok (.lload 4, 2) := dk_22 ((dQ_X9_divisor_1 15).trans dk_j15) ((dQ_X9_divisor_2 0).trans dk_j0) dk_vu1_4
theorem dX9_divisor_33 : decode cX9_divisor 33 = .ok (.lreturn, 1) := dk_173 ((dQ_X9_divisor_2 1).trans dk_j1)
def dT_X9_part_1 : List UInt8 := (0xad : UInt8) :: []
def dT_X9_part_0 : List UInt8 := (0x15 : UInt8) :: (0x04 : UInt8) :: (0x9a : UInt8) :: (0x00 : UInt8) :: (0x07 : UInt8) :: (0x1e : UInt8) :: (0xa7 : UInt8) :: (0x00 : UInt8) :: (0x04 : UInt8) :: (0x20 : UInt8) :: (0x1e : UInt8) :: (0x20 : UInt8) :: (0xb8 : UInt8) :: (0x01 : UInt8) :: (0x8a : UInt8) :: (0x6d : UInt8) :: dT_X9_part_1
theorem dT_X9_part : cX9_part.data.toList = dT_X9_part_0 := eq_of_beq (show (cX9_part.data.toList == dT_X9_part_0) = true by decide +kernel)
theorem dQ_X9_part_0 : dQ_P cX9_part 0 dT_X9_part_0 := fun i => by rw [dT_X9_part]; rfl
theorem dQ_X9_part_1 : dQ_P cX9_part 16 dT_X9_part_1 := fun i => (dQ_X9_part_0 (i + 16)).trans dk_t
theorem dX9_part_0 : decode cX9_part 0 = .ok (.iload 4, 2) := dk_21 ((dQ_X9_part_0 0).trans dk_j0) ((dQ_X9_part_0 1).trans dk_j1) dk_vu1_4
theorem dX9_part_2 : decode cX9_part 2 = .ok (.ifCond .ne 7, 3) := dk_154 ((dQ_X9_part_0 2).trans dk_j2) ((dQ_X9_part_0 3).trans dk_j3) ((dQ_X9_part_0 4).trans dk_j4) dk_vs2_0_7
theorem dX9_part_5 : decode cX9_part 5 = .ok (.lload_n 0, 1) := dk_30 ((dQ_X9_part_0 5).trans dk_j5)
theorem dX9_part_6 : decode cX9_part 6 = .ok (.goto 4, 3) := dk_167 ((dQ_X9_part_0 6).trans dk_j6) ((dQ_X9_part_0 7).trans dk_j7) ((dQ_X9_part_0 8).trans dk_j8) dk_vs2_0_4
theorem dX9_part_9 : decode cX9_part 9 = .ok (.lload_n 2, 1) := dk_32 ((dQ_X9_part_0 9).trans dk_j9)
theorem dX9_part_10 : decode cX9_part 10 = .ok (.lload_n 0, 1) := dk_30 ((dQ_X9_part_0 10).trans dk_j10)
theorem dX9_part_11 : decode cX9_part 11 = .ok (.lload_n 2, 1) := dk_32 ((dQ_X9_part_0 11).trans dk_j11)
theorem dk_vu2_1_138 : (0x01 : UInt8).toNat * 256 + (0x8a : UInt8).toNat = (394 : Nat) := by decide +kernel
theorem dX9_part_12 : decode cX9_part 12 = .ok (.invokestatic 394, 3) := dk_184 ((dQ_X9_part_0 12).trans dk_j12) ((dQ_X9_part_0 13).trans dk_j13) ((dQ_X9_part_0 14).trans dk_j14) dk_vu2_1_138
theorem dX9_part_15 : decode cX9_part 15 = .ok (.ldiv, 1) := dk_109 ((dQ_X9_part_0 15).trans dk_j15)
theorem dX9_part_16 : decode cX9_part 16 = .ok (.lreturn, 1) := dk_173 ((dQ_X9_part_1 0).trans dk_j0)
def dT_X9_layPuffs_13 : List UInt8 := (0x05 : UInt8) :: (0xa7 : UInt8) :: (0x00 : UInt8) :: (0x04 : UInt8) :: (0x09 : UInt8) :: (0x61 : UInt8) :: (0xb5 : UInt8) :: (0x01 : UInt8) :: (0x98 : UInt8) :: (0x84 : UInt8) :: (0x04 : UInt8) :: (0x01 : UInt8) :: (0xa7 : UInt8) :: (0xff : UInt8) :: (0x3b : UInt8) :: (0xb1 : UInt8) :: []
def dT_X9_layPuffs_12 : List UInt8 := (0x01 : UInt8) :: (0x95 : UInt8) :: (0x2a : UInt8) :: (0x59 : UInt8) :: (0xb4 : UInt8) :: (0x01 : UInt8) :: (0x98 : UInt8) :: (0x2a : UInt8) :: (0xb6 : UInt8) :: (0x01 : UInt8) :: (0x49 : UInt8) :: (0x02 : UInt8) :: (0x9f : UInt8) :: (0x00 : UInt8) :: (0x08 : UInt8) :: (0x16 : UInt8) :: dT_X9_layPuffs_13
def dT_X9_layPuffs_11 : List UInt8 := (0x0f : UInt8) :: (0x16 : UInt8) :: (0x05 : UInt8) :: (0x2a : UInt8) :: (0x1d : UInt8) :: (0xb6 : UInt8) :: (0x01 : UInt8) :: (0x46 : UInt8) :: (0x85 : UInt8) :: (0x69 : UInt8) :: (0xa7 : UInt8) :: (0x00 : UInt8) :: (0x04 : UInt8) :: (0x09 : UInt8) :: (0x61 : UInt8) :: (0xb5 : UInt8) :: dT_X9_layPuffs_12
def dT_X9_layPuffs_10 : List UInt8 := (0x01 : UInt8) :: (0x92 : UInt8) :: (0x2a : UInt8) :: (0x59 : UInt8) :: (0xb4 : UInt8) :: (0x01 : UInt8) :: (0x95 : UInt8) :: (0x2a : UInt8) :: (0xb4 : UInt8) :: (0x00 : UInt8) :: (0x09 : UInt8) :: (0x10 : UInt8) :: (0x08 : UInt8) :: (0x2e : UInt8) :: (0x9e : UInt8) :: (0x00 : UInt8) :: dT_X9_layPuffs_11
def dT_X9_layPuffs_9 : List UInt8 := (0xb4 : UInt8) :: (0x00 : UInt8) :: (0x2b : UInt8) :: (0x1c : UInt8) :: (0x2e : UInt8) :: (0x99 : UInt8) :: (0x00 : UInt8) :: (0x08 : UInt8) :: (0x16 : UInt8) :: (0x05 : UInt8) :: (0xa7 : UInt8) :: (0x00 : UInt8) :: (0x04 : UInt8) :: (0x09 : UInt8) :: (0x61 : UInt8) :: (0xb5 : UInt8) :: dT_X9_layPuffs_10
def dT_X9_layPuffs_8 : List UInt8 := (0x59 : UInt8) :: (0xb4 : UInt8) :: (0x01 : UInt8) :: (0x8e : UInt8) :: (0x16 : UInt8) :: (0x05 : UInt8) :: (0x61 : UInt8) :: (0xb5 : UInt8) :: (0x01 : UInt8) :: (0x8e : UInt8) :: (0x2a : UInt8) :: (0x59 : UInt8) :: (0xb4 : UInt8) :: (0x01 : UInt8) :: (0x92 : UInt8) :: (0x2a : UInt8) :: dT_X9_layPuffs_9
def dT_X9_layPuffs_7 : List UInt8 := (0xc0 : UInt8) :: (0x16 : UInt8) :: (0x05 : UInt8) :: (0x09 : UInt8) :: (0x94 : UInt8) :: (0x9a : UInt8) :: (0x00 : UInt8) :: (0x06 : UInt8) :: (0xa7 : UInt8) :: (0x00 : UInt8) :: (0x61 : UInt8) :: (0x2a : UInt8) :: (0xb6 : UInt8) :: (0x01 : UInt8) :: (0x0a : UInt8) :: (0x2a : UInt8) :: dT_X9_layPuffs_8
def dT_X9_layPuffs_6 : List UInt8 := (0x2a : UInt8) :: (0xb4 : UInt8) :: (0x00 : UInt8) :: (0x09 : UInt8) :: (0x07 : UInt8) :: (0x2e : UInt8) :: (0x64 : UInt8) :: (0x85 : UInt8) :: (0x69 : UInt8) :: (0x37 : UInt8) :: (0x05 : UInt8) :: (0x84 : UInt8) :: (0x07 : UInt8) :: (0x01 : UInt8) :: (0xa7 : UInt8) :: (0xff : UInt8) :: dT_X9_layPuffs_7
def dT_X9_layPuffs_5 : List UInt8 := (0x04 : UInt8) :: (0xa0 : UInt8) :: (0x00 : UInt8) :: (0x0d : UInt8) :: (0x2a : UInt8) :: (0xb4 : UInt8) :: (0x00 : UInt8) :: (0x09 : UInt8) :: (0x07 : UInt8) :: (0x2e : UInt8) :: (0x85 : UInt8) :: (0xa7 : UInt8) :: (0x00 : UInt8) :: (0x0d : UInt8) :: (0x10 : UInt8) :: (0x0a : UInt8) :: dT_X9_layPuffs_6
def dT_X9_layPuffs_4 : List UInt8 := (0x07 : UInt8) :: (0xb8 : UInt8) :: (0x00 : UInt8) :: (0xfe : UInt8) :: (0x68 : UInt8) :: (0x60 : UInt8) :: (0x4f : UInt8) :: (0x16 : UInt8) :: (0x05 : UInt8) :: (0x15 : UInt8) :: (0x04 : UInt8) :: (0x15 : UInt8) :: (0x07 : UInt8) :: (0xb8 : UInt8) :: (0x00 : UInt8) :: (0xfe : UInt8) :: dT_X9_layPuffs_5
def dT_X9_layPuffs_3 : List UInt8 := (0x1b : UInt8) :: (0xa3 : UInt8) :: (0x00 : UInt8) :: (0x40 : UInt8) :: (0x2a : UInt8) :: (0xb4 : UInt8) :: (0x00 : UInt8) :: (0x22 : UInt8) :: (0x15 : UInt8) :: (0x07 : UInt8) :: (0x5c : UInt8) :: (0x2e : UInt8) :: (0x06 : UInt8) :: (0x15 : UInt8) :: (0x04 : UInt8) :: (0x15 : UInt8) :: dT_X9_layPuffs_4
def dT_X9_layPuffs_2 : List UInt8 := (0x37 : UInt8) :: (0x05 : UInt8) :: (0x2a : UInt8) :: (0xb6 : UInt8) :: (0x01 : UInt8) :: (0x07 : UInt8) :: (0x2a : UInt8) :: (0x1b : UInt8) :: (0xb5 : UInt8) :: (0x00 : UInt8) :: (0xfb : UInt8) :: (0x03 : UInt8) :: (0x36 : UInt8) :: (0x07 : UInt8) :: (0x15 : UInt8) :: (0x07 : UInt8) :: dT_X9_layPuffs_3
def dT_X9_layPuffs_1 : List UInt8 := (0x09 : UInt8) :: (0xb5 : UInt8) :: (0x01 : UInt8) :: (0x98 : UInt8) :: (0x03 : UInt8) :: (0x36 : UInt8) :: (0x04 : UInt8) :: (0x15 : UInt8) :: (0x04 : UInt8) :: (0x05 : UInt8) :: (0x1b : UInt8) :: (0x78 : UInt8) :: (0xa2 : UInt8) :: (0x00 : UInt8) :: (0xc3 : UInt8) :: (0x0a : UInt8) :: dT_X9_layPuffs_2
def dT_X9_layPuffs_0 : List UInt8 := (0x2a : UInt8) :: (0x09 : UInt8) :: (0xb5 : UInt8) :: (0x01 : UInt8) :: (0x8e : UInt8) :: (0x2a : UInt8) :: (0x09 : UInt8) :: (0xb5 : UInt8) :: (0x01 : UInt8) :: (0x92 : UInt8) :: (0x2a : UInt8) :: (0x09 : UInt8) :: (0xb5 : UInt8) :: (0x01 : UInt8) :: (0x95 : UInt8) :: (0x2a : UInt8) :: dT_X9_layPuffs_1
theorem dT_X9_layPuffs : cX9_layPuffs.data.toList = dT_X9_layPuffs_0 := eq_of_beq (show (cX9_layPuffs.data.toList == dT_X9_layPuffs_0) = true by decide +kernel)
theorem dQ_X9_layPuffs_0 : dQ_P cX9_layPuffs 0 dT_X9_layPuffs_0 := fun i => by rw [dT_X9_layPuffs]; rfl
theorem dQ_X9_layPuffs_1 : dQ_P cX9_layPuffs 16 dT_X9_layPuffs_1 := fun i => (dQ_X9_layPuffs_0 (i + 16)).trans dk_t
theorem dQ_X9_layPuffs_2 : dQ_P cX9_layPuffs 32 dT_X9_layPuffs_2 := fun i => (dQ_X9_layPuffs_1 (i + 16)).trans dk_t
theorem dQ_X9_layPuffs_3 : dQ_P cX9_layPuffs 48 dT_X9_layPuffs_3 := fun i => (dQ_X9_layPuffs_2 (i + 16)).trans dk_t
theorem dQ_X9_layPuffs_4 : dQ_P cX9_layPuffs 64 dT_X9_layPuffs_4 := fun i => (dQ_X9_layPuffs_3 (i + 16)).trans dk_t
theorem dQ_X9_layPuffs_5 : dQ_P cX9_layPuffs 80 dT_X9_layPuffs_5 := fun i => (dQ_X9_layPuffs_4 (i + 16)).trans dk_t
theorem dQ_X9_layPuffs_6 : dQ_P cX9_layPuffs 96 dT_X9_layPuffs_6 := fun i => (dQ_X9_layPuffs_5 (i + 16)).trans dk_t
theorem dQ_X9_layPuffs_7 : dQ_P cX9_layPuffs 112 dT_X9_layPuffs_7 := fun i => (dQ_X9_layPuffs_6 (i + 16)).trans dk_t
theorem dQ_X9_layPuffs_8 : dQ_P cX9_layPuffs 128 dT_X9_layPuffs_8 := fun i => (dQ_X9_layPuffs_7 (i + 16)).trans dk_t
theorem dQ_X9_layPuffs_9 : dQ_P cX9_layPuffs 144 dT_X9_layPuffs_9 := fun i => (dQ_X9_layPuffs_8 (i + 16)).trans dk_t
theorem dQ_X9_layPuffs_10 : dQ_P cX9_layPuffs 160 dT_X9_layPuffs_10 := fun i => (dQ_X9_layPuffs_9 (i + 16)).trans dk_t
theorem dQ_X9_layPuffs_11 : dQ_P cX9_layPuffs 176 dT_X9_layPuffs_11 := fun i => (dQ_X9_layPuffs_10 (i + 16)).trans dk_t
theorem dQ_X9_layPuffs_12 : dQ_P cX9_layPuffs 192 dT_X9_layPuffs_12 := fun i => (dQ_X9_layPuffs_11 (i + 16)).trans dk_t
theorem dQ_X9_layPuffs_13 : dQ_P cX9_layPuffs 208 dT_X9_layPuffs_13 := fun i => (dQ_X9_layPuffs_12 (i + 16)).trans dk_t
theorem dX9_layPuffs_0 : decode cX9_layPuffs 0 = .ok (.aload_n 0, 1) := dk_42 ((dQ_X9_layPuffs_0 0).trans dk_j0)
theorem dX9_layPuffs_1 : decode cX9_layPuffs 1 = .ok (.lconst 0, 1) := dk_9 ((dQ_X9_layPuffs_0 1).trans dk_j1)
theorem dk_vu2_1_142 : (0x01 : UInt8).toNat * 256 + (0x8e : UInt8).toNat = (398 : Nat) := by decide +kernel
theorem dX9_layPuffs_2 : decode cX9_layPuffs 2 = .ok (.putfield 398, 3) := dk_181 ((dQ_X9_layPuffs_0 2).trans dk_j2) ((dQ_X9_layPuffs_0 3).trans dk_j3) ((dQ_X9_layPuffs_0 4).trans dk_j4) dk_vu2_1_142
theorem dX9_layPuffs_5 : decode cX9_layPuffs 5 = .ok (.aload_n 0, 1) := dk_42 ((dQ_X9_layPuffs_0 5).trans dk_j5)
theorem dX9_layPuffs_6 : decode cX9_layPuffs 6 = .ok (.lconst 0, 1) := dk_9 ((dQ_X9_layPuffs_0 6).trans dk_j6)
theorem dk_vu2_1_146 : (0x01 : UInt8).toNat * 256 + (0x92 : UInt8).toNat = (402 : Nat) := by decide +kernel
theorem dX9_layPuffs_7 : decode cX9_layPuffs 7 = .ok (.putfield 402, 3) := dk_181 ((dQ_X9_layPuffs_0 7).trans dk_j7) ((dQ_X9_layPuffs_0 8).trans dk_j8) ((dQ_X9_layPuffs_0 9).trans dk_j9) dk_vu2_1_146
theorem dX9_layPuffs_10 : decode cX9_layPuffs 10 = .ok (.aload_n 0, 1) := dk_42 ((dQ_X9_layPuffs_0 10).trans dk_j10)
theorem dX9_layPuffs_11 : decode cX9_layPuffs 11 = .ok (.lconst 0, 1) := dk_9 ((dQ_X9_layPuffs_0 11).trans dk_j11)
theorem dk_vu2_1_149 : (0x01 : UInt8).toNat * 256 + (0x95 : UInt8).toNat = (405 : Nat) := by decide +kernel
theorem dX9_layPuffs_12 : decode cX9_layPuffs 12 = .ok (.putfield 405, 3) := dk_181 ((dQ_X9_layPuffs_0 12).trans dk_j12) ((dQ_X9_layPuffs_0 13).trans dk_j13) ((dQ_X9_layPuffs_0 14).trans dk_j14) dk_vu2_1_149
theorem dX9_layPuffs_15 : decode cX9_layPuffs 15 = .ok (.aload_n 0, 1) := dk_42 ((dQ_X9_layPuffs_0 15).trans dk_j15)
theorem dX9_layPuffs_16 : decode cX9_layPuffs 16 = .ok (.lconst 0, 1) := dk_9 ((dQ_X9_layPuffs_1 0).trans dk_j0)
theorem dk_vu2_1_152 : (0x01 : UInt8).toNat * 256 + (0x98 : UInt8).toNat = (408 : Nat) := by decide +kernel
theorem dX9_layPuffs_17 : decode cX9_layPuffs 17 = .ok (.putfield 408, 3) := dk_181 ((dQ_X9_layPuffs_1 1).trans dk_j1) ((dQ_X9_layPuffs_1 2).trans dk_j2) ((dQ_X9_layPuffs_1 3).trans dk_j3) dk_vu2_1_152
theorem dX9_layPuffs_20 : decode cX9_layPuffs 20 = .ok (.iconst 0, 1) := dk_3 ((dQ_X9_layPuffs_1 4).trans dk_j4)
theorem dX9_layPuffs_21 : decode cX9_layPuffs 21 = .ok (.istore 4, 2) := dk_54 ((dQ_X9_layPuffs_1 5).trans dk_j5) ((dQ_X9_layPuffs_1 6).trans dk_j6) dk_vu1_4
theorem dX9_layPuffs_23 : decode cX9_layPuffs 23 = .ok (.iload 4, 2) := dk_21 ((dQ_X9_layPuffs_1 7).trans dk_j7) ((dQ_X9_layPuffs_1 8).trans dk_j8) dk_vu1_4
theorem dX9_layPuffs_25 : decode cX9_layPuffs 25 = .ok (.iconst 2, 1) := dk_5 ((dQ_X9_layPuffs_1 9).trans dk_j9)
theorem dX9_layPuffs_26 : decode cX9_layPuffs 26 = .ok (.iload_n 1, 1) := dk_27 ((dQ_X9_layPuffs_1 10).trans dk_j10)
theorem dX9_layPuffs_27 : decode cX9_layPuffs 27 = .ok (.ishl, 1) := dk_120 ((dQ_X9_layPuffs_1 11).trans dk_j11)
theorem dk_vs2_0_195 : Reader.signed 16 ((0x00 : UInt8).toNat * 256 + (0xc3 : UInt8).toNat) = (195 : Int) := by decide +kernel
theorem dX9_layPuffs_28 : decode cX9_layPuffs 28 = .ok (.if_icmp .ge 195, 3) := dk_162 ((dQ_X9_layPuffs_1 12).trans dk_j12) ((dQ_X9_layPuffs_1 13).trans dk_j13) ((dQ_X9_layPuffs_1 14).trans dk_j14) dk_vs2_0_195
theorem dX9_layPuffs_31 : decode cX9_layPuffs 31 = .ok (.lconst 1, 1) := dk_10 ((dQ_X9_layPuffs_1 15).trans dk_j15)
theorem dX9_layPuffs_32 : decode cX9_layPuffs 32 = .ok (.lstore 5, 2) := dk_55 ((dQ_X9_layPuffs_2 0).trans dk_j0) ((dQ_X9_layPuffs_2 1).trans dk_j1) dk_vu1_5
theorem dX9_layPuffs_34 : decode cX9_layPuffs 34 = .ok (.aload_n 0, 1) := dk_42 ((dQ_X9_layPuffs_2 2).trans dk_j2)
theorem dX9_layPuffs_35 : decode cX9_layPuffs 35 = .ok (.invokevirtual 263, 3) := dk_182 ((dQ_X9_layPuffs_2 3).trans dk_j3) ((dQ_X9_layPuffs_2 4).trans dk_j4) ((dQ_X9_layPuffs_2 5).trans dk_j5) dk_vu2_1_7
theorem dX9_layPuffs_38 : decode cX9_layPuffs 38 = .ok (.aload_n 0, 1) := dk_42 ((dQ_X9_layPuffs_2 6).trans dk_j6)
theorem dX9_layPuffs_39 : decode cX9_layPuffs 39 = .ok (.iload_n 1, 1) := dk_27 ((dQ_X9_layPuffs_2 7).trans dk_j7)
theorem dX9_layPuffs_40 : decode cX9_layPuffs 40 = .ok (.putfield 251, 3) := dk_181 ((dQ_X9_layPuffs_2 8).trans dk_j8) ((dQ_X9_layPuffs_2 9).trans dk_j9) ((dQ_X9_layPuffs_2 10).trans dk_j10) dk_vu2_0_251
theorem dX9_layPuffs_43 : decode cX9_layPuffs 43 = .ok (.iconst 0, 1) := dk_3 ((dQ_X9_layPuffs_2 11).trans dk_j11)
theorem dX9_layPuffs_44 : decode cX9_layPuffs 44 = .ok (.istore 7, 2) := dk_54 ((dQ_X9_layPuffs_2 12).trans dk_j12) ((dQ_X9_layPuffs_2 13).trans dk_j13) dk_vu1_7
theorem dX9_layPuffs_46 : decode cX9_layPuffs 46 = .ok (.iload 7, 2) := dk_21 ((dQ_X9_layPuffs_2 14).trans dk_j14) ((dQ_X9_layPuffs_2 15).trans dk_j15) dk_vu1_7
theorem dX9_layPuffs_48 : decode cX9_layPuffs 48 = .ok (.iload_n 1, 1) := dk_27 ((dQ_X9_layPuffs_3 0).trans dk_j0)
theorem dX9_layPuffs_49 : decode cX9_layPuffs 49 = .ok (.if_icmp .gt 64, 3) := dk_163 ((dQ_X9_layPuffs_3 1).trans dk_j1) ((dQ_X9_layPuffs_3 2).trans dk_j2) ((dQ_X9_layPuffs_3 3).trans dk_j3) dk_vs2_0_64
theorem dX9_layPuffs_52 : decode cX9_layPuffs 52 = .ok (.aload_n 0, 1) := dk_42 ((dQ_X9_layPuffs_3 4).trans dk_j4)
theorem dX9_layPuffs_53 : decode cX9_layPuffs 53 = .ok (.getfield 34, 3) := dk_180 ((dQ_X9_layPuffs_3 5).trans dk_j5) ((dQ_X9_layPuffs_3 6).trans dk_j6) ((dQ_X9_layPuffs_3 7).trans dk_j7) dk_vu2_0_34
theorem dX9_layPuffs_56 : decode cX9_layPuffs 56 = .ok (.iload 7, 2) := dk_21 ((dQ_X9_layPuffs_3 8).trans dk_j8) ((dQ_X9_layPuffs_3 9).trans dk_j9) dk_vu1_7
theorem dX9_layPuffs_58 : decode cX9_layPuffs 58 = .ok (.dup2, 1) := dk_92 ((dQ_X9_layPuffs_3 10).trans dk_j10)
theorem dX9_layPuffs_59 : decode cX9_layPuffs 59 = .ok (.iaload, 1) := dk_46 ((dQ_X9_layPuffs_3 11).trans dk_j11)
theorem dX9_layPuffs_60 : decode cX9_layPuffs 60 = .ok (.iconst 3, 1) := dk_6 ((dQ_X9_layPuffs_3 12).trans dk_j12)
theorem dX9_layPuffs_61 : decode cX9_layPuffs 61 = .ok (.iload 4, 2) := dk_21 ((dQ_X9_layPuffs_3 13).trans dk_j13) ((dQ_X9_layPuffs_3 14).trans dk_j14) dk_vu1_4
theorem dX9_layPuffs_63 : decode cX9_layPuffs 63 = .ok (.iload 7, 2) := dk_21 ((dQ_X9_layPuffs_3 15).trans dk_j15) ((dQ_X9_layPuffs_4 0).trans dk_j0) dk_vu1_7
theorem dX9_layPuffs_65 : decode cX9_layPuffs 65 = .ok (.invokestatic 254, 3) := dk_184 ((dQ_X9_layPuffs_4 1).trans dk_j1) ((dQ_X9_layPuffs_4 2).trans dk_j2) ((dQ_X9_layPuffs_4 3).trans dk_j3) dk_vu2_0_254
theorem dX9_layPuffs_68 : decode cX9_layPuffs 68 = .ok (.imul, 1) := dk_104 ((dQ_X9_layPuffs_4 4).trans dk_j4)
theorem dX9_layPuffs_69 : decode cX9_layPuffs 69 = .ok (.iadd, 1) := dk_96 ((dQ_X9_layPuffs_4 5).trans dk_j5)
theorem dX9_layPuffs_70 : decode cX9_layPuffs 70 = .ok (.iastore, 1) := dk_79 ((dQ_X9_layPuffs_4 6).trans dk_j6)
theorem dX9_layPuffs_71 : decode cX9_layPuffs 71 = .ok (.lload 5, 2) := dk_22 ((dQ_X9_layPuffs_4 7).trans dk_j7) ((dQ_X9_layPuffs_4 8).trans dk_j8) dk_vu1_5
theorem dX9_layPuffs_73 : decode cX9_layPuffs 73 = .ok (.iload 4, 2) := dk_21 ((dQ_X9_layPuffs_4 9).trans dk_j9) ((dQ_X9_layPuffs_4 10).trans dk_j10) dk_vu1_4
theorem dX9_layPuffs_75 : decode cX9_layPuffs 75 = .ok (.iload 7, 2) := dk_21 ((dQ_X9_layPuffs_4 11).trans dk_j11) ((dQ_X9_layPuffs_4 12).trans dk_j12) dk_vu1_7
theorem dX9_layPuffs_77 : decode cX9_layPuffs 77 = .ok (.invokestatic 254, 3) := dk_184 ((dQ_X9_layPuffs_4 13).trans dk_j13) ((dQ_X9_layPuffs_4 14).trans dk_j14) ((dQ_X9_layPuffs_4 15).trans dk_j15) dk_vu2_0_254
theorem dX9_layPuffs_80 : decode cX9_layPuffs 80 = .ok (.iconst 1, 1) := dk_4 ((dQ_X9_layPuffs_5 0).trans dk_j0)
theorem dX9_layPuffs_81 : decode cX9_layPuffs 81 = .ok (.if_icmp .ne 13, 3) := dk_160 ((dQ_X9_layPuffs_5 1).trans dk_j1) ((dQ_X9_layPuffs_5 2).trans dk_j2) ((dQ_X9_layPuffs_5 3).trans dk_j3) dk_vs2_0_13
theorem dX9_layPuffs_84 : decode cX9_layPuffs 84 = .ok (.aload_n 0, 1) := dk_42 ((dQ_X9_layPuffs_5 4).trans dk_j4)
theorem dX9_layPuffs_85 : decode cX9_layPuffs 85 = .ok (.getfield 9, 3) := dk_180 ((dQ_X9_layPuffs_5 5).trans dk_j5) ((dQ_X9_layPuffs_5 6).trans dk_j6) ((dQ_X9_layPuffs_5 7).trans dk_j7) dk_vu2_0_9
theorem dX9_layPuffs_88 : decode cX9_layPuffs 88 = .ok (.iconst 4, 1) := dk_7 ((dQ_X9_layPuffs_5 8).trans dk_j8)
theorem dX9_layPuffs_89 : decode cX9_layPuffs 89 = .ok (.iaload, 1) := dk_46 ((dQ_X9_layPuffs_5 9).trans dk_j9)
theorem dX9_layPuffs_90 : decode cX9_layPuffs 90 = .ok (.i2l, 1) := dk_133 ((dQ_X9_layPuffs_5 10).trans dk_j10)
theorem dX9_layPuffs_91 : decode cX9_layPuffs 91 = .ok (.goto 13, 3) := dk_167 ((dQ_X9_layPuffs_5 11).trans dk_j11) ((dQ_X9_layPuffs_5 12).trans dk_j12) ((dQ_X9_layPuffs_5 13).trans dk_j13) dk_vs2_0_13
theorem dX9_layPuffs_94 : decode cX9_layPuffs 94 = .ok (.bipush 10, 2) := dk_16 ((dQ_X9_layPuffs_5 14).trans dk_j14) ((dQ_X9_layPuffs_5 15).trans dk_j15) dk_vs1_10
theorem dX9_layPuffs_96 : decode cX9_layPuffs 96 = .ok (.aload_n 0, 1) := dk_42 ((dQ_X9_layPuffs_6 0).trans dk_j0)
theorem dX9_layPuffs_97 : decode cX9_layPuffs 97 = .ok (.getfield 9, 3) := dk_180 ((dQ_X9_layPuffs_6 1).trans dk_j1) ((dQ_X9_layPuffs_6 2).trans dk_j2) ((dQ_X9_layPuffs_6 3).trans dk_j3) dk_vu2_0_9
theorem dX9_layPuffs_100 : decode cX9_layPuffs 100 = .ok (.iconst 4, 1) := dk_7 ((dQ_X9_layPuffs_6 4).trans dk_j4)
theorem dX9_layPuffs_101 : decode cX9_layPuffs 101 = .ok (.iaload, 1) := dk_46 ((dQ_X9_layPuffs_6 5).trans dk_j5)
theorem dX9_layPuffs_102 : decode cX9_layPuffs 102 = .ok (.isub, 1) := dk_100 ((dQ_X9_layPuffs_6 6).trans dk_j6)
theorem dX9_layPuffs_103 : decode cX9_layPuffs 103 = .ok (.i2l, 1) := dk_133 ((dQ_X9_layPuffs_6 7).trans dk_j7)
theorem dX9_layPuffs_104 : decode cX9_layPuffs 104 = .ok (.lmul, 1) := dk_105 ((dQ_X9_layPuffs_6 8).trans dk_j8)
theorem dX9_layPuffs_105 : decode cX9_layPuffs 105 = .ok (.lstore 5, 2) := dk_55 ((dQ_X9_layPuffs_6 9).trans dk_j9) ((dQ_X9_layPuffs_6 10).trans dk_j10) dk_vu1_5
theorem dX9_layPuffs_107 : decode cX9_layPuffs 107 = .ok (.iinc 7 1, 3) := dk_132 ((dQ_X9_layPuffs_6 11).trans dk_j11) ((dQ_X9_layPuffs_6 12).trans dk_j12) ((dQ_X9_layPuffs_6 13).trans dk_j13) dk_vu1_7 dk_vs1_1
theorem dk_vs2_255_192 : Reader.signed 16 ((0xff : UInt8).toNat * 256 + (0xc0 : UInt8).toNat) = (-64 : Int) := by decide +kernel
theorem dX9_layPuffs_110 : decode cX9_layPuffs 110 = .ok (.goto (-64), 3) := dk_167 ((dQ_X9_layPuffs_6 14).trans dk_j14) ((dQ_X9_layPuffs_6 15).trans dk_j15) ((dQ_X9_layPuffs_7 0).trans dk_j0) dk_vs2_255_192
theorem dX9_layPuffs_113 : decode cX9_layPuffs 113 = .ok (.lload 5, 2) := dk_22 ((dQ_X9_layPuffs_7 1).trans dk_j1) ((dQ_X9_layPuffs_7 2).trans dk_j2) dk_vu1_5
theorem dX9_layPuffs_115 : decode cX9_layPuffs 115 = .ok (.lconst 0, 1) := dk_9 ((dQ_X9_layPuffs_7 3).trans dk_j3)
theorem dX9_layPuffs_116 : decode cX9_layPuffs 116 = .ok (.lcmp, 1) := dk_148 ((dQ_X9_layPuffs_7 4).trans dk_j4)
theorem dX9_layPuffs_117 : decode cX9_layPuffs 117 = .ok (.ifCond .ne 6, 3) := dk_154 ((dQ_X9_layPuffs_7 5).trans dk_j5) ((dQ_X9_layPuffs_7 6).trans dk_j6) ((dQ_X9_layPuffs_7 7).trans dk_j7) dk_vs2_0_6
theorem dk_vs2_0_97 : Reader.signed 16 ((0x00 : UInt8).toNat * 256 + (0x61 : UInt8).toNat) = (97 : Int) := by decide +kernel
theorem dX9_layPuffs_120 : decode cX9_layPuffs 120 = .ok (.goto 97, 3) := dk_167 ((dQ_X9_layPuffs_7 8).trans dk_j8) ((dQ_X9_layPuffs_7 9).trans dk_j9) ((dQ_X9_layPuffs_7 10).trans dk_j10) dk_vs2_0_97
theorem dX9_layPuffs_123 : decode cX9_layPuffs 123 = .ok (.aload_n 0, 1) := dk_42 ((dQ_X9_layPuffs_7 11).trans dk_j11)
theorem dX9_layPuffs_124 : decode cX9_layPuffs 124 = .ok (.invokevirtual 266, 3) := dk_182 ((dQ_X9_layPuffs_7 12).trans dk_j12) ((dQ_X9_layPuffs_7 13).trans dk_j13) ((dQ_X9_layPuffs_7 14).trans dk_j14) dk_vu2_1_10
theorem dX9_layPuffs_127 : decode cX9_layPuffs 127 = .ok (.aload_n 0, 1) := dk_42 ((dQ_X9_layPuffs_7 15).trans dk_j15)
theorem dX9_layPuffs_128 : decode cX9_layPuffs 128 = .ok (.dup, 1) := dk_89 ((dQ_X9_layPuffs_8 0).trans dk_j0)
theorem dX9_layPuffs_129 : decode cX9_layPuffs 129 = .ok (.getfield 398, 3) := dk_180 ((dQ_X9_layPuffs_8 1).trans dk_j1) ((dQ_X9_layPuffs_8 2).trans dk_j2) ((dQ_X9_layPuffs_8 3).trans dk_j3) dk_vu2_1_142
theorem dX9_layPuffs_132 : decode cX9_layPuffs 132 = .ok (.lload 5, 2) := dk_22 ((dQ_X9_layPuffs_8 4).trans dk_j4) ((dQ_X9_layPuffs_8 5).trans dk_j5) dk_vu1_5
theorem dX9_layPuffs_134 : decode cX9_layPuffs 134 = .ok (.ladd, 1) := dk_97 ((dQ_X9_layPuffs_8 6).trans dk_j6)
theorem dX9_layPuffs_135 : decode cX9_layPuffs 135 = .ok (.putfield 398, 3) := dk_181 ((dQ_X9_layPuffs_8 7).trans dk_j7) ((dQ_X9_layPuffs_8 8).trans dk_j8) ((dQ_X9_layPuffs_8 9).trans dk_j9) dk_vu2_1_142
theorem dX9_layPuffs_138 : decode cX9_layPuffs 138 = .ok (.aload_n 0, 1) := dk_42 ((dQ_X9_layPuffs_8 10).trans dk_j10)
theorem dX9_layPuffs_139 : decode cX9_layPuffs 139 = .ok (.dup, 1) := dk_89 ((dQ_X9_layPuffs_8 11).trans dk_j11)
theorem dX9_layPuffs_140 : decode cX9_layPuffs 140 = .ok (.getfield 402, 3) := dk_180 ((dQ_X9_layPuffs_8 12).trans dk_j12) ((dQ_X9_layPuffs_8 13).trans dk_j13) ((dQ_X9_layPuffs_8 14).trans dk_j14) dk_vu2_1_146
theorem dX9_layPuffs_143 : decode cX9_layPuffs 143 = .ok (.aload_n 0, 1) := dk_42 ((dQ_X9_layPuffs_8 15).trans dk_j15)
theorem dX9_layPuffs_144 : decode cX9_layPuffs 144 = .ok (.getfield 43, 3) := dk_180 ((dQ_X9_layPuffs_9 0).trans dk_j0) ((dQ_X9_layPuffs_9 1).trans dk_j1) ((dQ_X9_layPuffs_9 2).trans dk_j2) dk_vu2_0_43
theorem dX9_layPuffs_147 : decode cX9_layPuffs 147 = .ok (.iload_n 2, 1) := dk_28 ((dQ_X9_layPuffs_9 3).trans dk_j3)
theorem dX9_layPuffs_148 : decode cX9_layPuffs 148 = .ok (.iaload, 1) := dk_46 ((dQ_X9_layPuffs_9 4).trans dk_j4)
theorem dX9_layPuffs_149 : decode cX9_layPuffs 149 = .ok (.ifCond .eq 8, 3) := dk_153 ((dQ_X9_layPuffs_9 5).trans dk_j5) ((dQ_X9_layPuffs_9 6).trans dk_j6) ((dQ_X9_layPuffs_9 7).trans dk_j7) dk_vs2_0_8
theorem dX9_layPuffs_152 : decode cX9_layPuffs 152 = .ok (.lload 5, 2) := dk_22 ((dQ_X9_layPuffs_9 8).trans dk_j8) ((dQ_X9_layPuffs_9 9).trans dk_j9) dk_vu1_5
theorem dX9_layPuffs_154 : decode cX9_layPuffs 154 = .ok (.goto 4, 3) := dk_167 ((dQ_X9_layPuffs_9 10).trans dk_j10) ((dQ_X9_layPuffs_9 11).trans dk_j11) ((dQ_X9_layPuffs_9 12).trans dk_j12) dk_vs2_0_4
theorem dX9_layPuffs_157 : decode cX9_layPuffs 157 = .ok (.lconst 0, 1) := dk_9 ((dQ_X9_layPuffs_9 13).trans dk_j13)
theorem dX9_layPuffs_158 : decode cX9_layPuffs 158 = .ok (.ladd, 1) := dk_97 ((dQ_X9_layPuffs_9 14).trans dk_j14)
theorem dX9_layPuffs_159 : decode cX9_layPuffs 159 = .ok (.putfield 402, 3) := dk_181 ((dQ_X9_layPuffs_9 15).trans dk_j15) ((dQ_X9_layPuffs_10 0).trans dk_j0) ((dQ_X9_layPuffs_10 1).trans dk_j1) dk_vu2_1_146
theorem dX9_layPuffs_162 : decode cX9_layPuffs 162 = .ok (.aload_n 0, 1) := dk_42 ((dQ_X9_layPuffs_10 2).trans dk_j2)
theorem dX9_layPuffs_163 : decode cX9_layPuffs 163 = .ok (.dup, 1) := dk_89 ((dQ_X9_layPuffs_10 3).trans dk_j3)
theorem dX9_layPuffs_164 : decode cX9_layPuffs 164 = .ok (.getfield 405, 3) := dk_180 ((dQ_X9_layPuffs_10 4).trans dk_j4) ((dQ_X9_layPuffs_10 5).trans dk_j5) ((dQ_X9_layPuffs_10 6).trans dk_j6) dk_vu2_1_149
theorem dX9_layPuffs_167 : decode cX9_layPuffs 167 = .ok (.aload_n 0, 1) := dk_42 ((dQ_X9_layPuffs_10 7).trans dk_j7)
theorem dX9_layPuffs_168 : decode cX9_layPuffs 168 = .ok (.getfield 9, 3) := dk_180 ((dQ_X9_layPuffs_10 8).trans dk_j8) ((dQ_X9_layPuffs_10 9).trans dk_j9) ((dQ_X9_layPuffs_10 10).trans dk_j10) dk_vu2_0_9
theorem dX9_layPuffs_171 : decode cX9_layPuffs 171 = .ok (.bipush 8, 2) := dk_16 ((dQ_X9_layPuffs_10 11).trans dk_j11) ((dQ_X9_layPuffs_10 12).trans dk_j12) dk_vs1_8
theorem dX9_layPuffs_173 : decode cX9_layPuffs 173 = .ok (.iaload, 1) := dk_46 ((dQ_X9_layPuffs_10 13).trans dk_j13)
theorem dX9_layPuffs_174 : decode cX9_layPuffs 174 = .ok (.ifCond .le 15, 3) := dk_158 ((dQ_X9_layPuffs_10 14).trans dk_j14) ((dQ_X9_layPuffs_10 15).trans dk_j15) ((dQ_X9_layPuffs_11 0).trans dk_j0) dk_vs2_0_15
theorem dX9_layPuffs_177 : decode cX9_layPuffs 177 = .ok (.lload 5, 2) := dk_22 ((dQ_X9_layPuffs_11 1).trans dk_j1) ((dQ_X9_layPuffs_11 2).trans dk_j2) dk_vu1_5
theorem dX9_layPuffs_179 : decode cX9_layPuffs 179 = .ok (.aload_n 0, 1) := dk_42 ((dQ_X9_layPuffs_11 3).trans dk_j3)
theorem dX9_layPuffs_180 : decode cX9_layPuffs 180 = .ok (.iload_n 3, 1) := dk_29 ((dQ_X9_layPuffs_11 4).trans dk_j4)
theorem dX9_layPuffs_181 : decode cX9_layPuffs 181 = .ok (.invokevirtual 326, 3) := dk_182 ((dQ_X9_layPuffs_11 5).trans dk_j5) ((dQ_X9_layPuffs_11 6).trans dk_j6) ((dQ_X9_layPuffs_11 7).trans dk_j7) dk_vu2_1_70
theorem dX9_layPuffs_184 : decode cX9_layPuffs 184 = .ok (.i2l, 1) := dk_133 ((dQ_X9_layPuffs_11 8).trans dk_j8)
theorem dX9_layPuffs_185 : decode cX9_layPuffs 185 = .ok (.lmul, 1) := dk_105 ((dQ_X9_layPuffs_11 9).trans dk_j9)
theorem dX9_layPuffs_186 : decode cX9_layPuffs 186 = .ok (.goto 4, 3) := dk_167 ((dQ_X9_layPuffs_11 10).trans dk_j10) ((dQ_X9_layPuffs_11 11).trans dk_j11) ((dQ_X9_layPuffs_11 12).trans dk_j12) dk_vs2_0_4
theorem dX9_layPuffs_189 : decode cX9_layPuffs 189 = .ok (.lconst 0, 1) := dk_9 ((dQ_X9_layPuffs_11 13).trans dk_j13)
theorem dX9_layPuffs_190 : decode cX9_layPuffs 190 = .ok (.ladd, 1) := dk_97 ((dQ_X9_layPuffs_11 14).trans dk_j14)
theorem dX9_layPuffs_191 : decode cX9_layPuffs 191 = .ok (.putfield 405, 3) := dk_181 ((dQ_X9_layPuffs_11 15).trans dk_j15) ((dQ_X9_layPuffs_12 0).trans dk_j0) ((dQ_X9_layPuffs_12 1).trans dk_j1) dk_vu2_1_149
theorem dX9_layPuffs_194 : decode cX9_layPuffs 194 = .ok (.aload_n 0, 1) := dk_42 ((dQ_X9_layPuffs_12 2).trans dk_j2)
theorem dX9_layPuffs_195 : decode cX9_layPuffs 195 = .ok (.dup, 1) := dk_89 ((dQ_X9_layPuffs_12 3).trans dk_j3)
theorem dX9_layPuffs_196 : decode cX9_layPuffs 196 = .ok (.getfield 408, 3) := dk_180 ((dQ_X9_layPuffs_12 4).trans dk_j4) ((dQ_X9_layPuffs_12 5).trans dk_j5) ((dQ_X9_layPuffs_12 6).trans dk_j6) dk_vu2_1_152
theorem dX9_layPuffs_199 : decode cX9_layPuffs 199 = .ok (.aload_n 0, 1) := dk_42 ((dQ_X9_layPuffs_12 7).trans dk_j7)
theorem dX9_layPuffs_200 : decode cX9_layPuffs 200 = .ok (.invokevirtual 329, 3) := dk_182 ((dQ_X9_layPuffs_12 8).trans dk_j8) ((dQ_X9_layPuffs_12 9).trans dk_j9) ((dQ_X9_layPuffs_12 10).trans dk_j10) dk_vu2_1_73
theorem dX9_layPuffs_203 : decode cX9_layPuffs 203 = .ok (.iconst (-1), 1) := dk_2 ((dQ_X9_layPuffs_12 11).trans dk_j11)
theorem dX9_layPuffs_204 : decode cX9_layPuffs 204 = .ok (.if_icmp .eq 8, 3) := dk_159 ((dQ_X9_layPuffs_12 12).trans dk_j12) ((dQ_X9_layPuffs_12 13).trans dk_j13) ((dQ_X9_layPuffs_12 14).trans dk_j14) dk_vs2_0_8
theorem dX9_layPuffs_207 : decode cX9_layPuffs 207 = .ok (.lload 5, 2) := dk_22 ((dQ_X9_layPuffs_12 15).trans dk_j15) ((dQ_X9_layPuffs_13 0).trans dk_j0) dk_vu1_5
theorem dX9_layPuffs_209 : decode cX9_layPuffs 209 = .ok (.goto 4, 3) := dk_167 ((dQ_X9_layPuffs_13 1).trans dk_j1) ((dQ_X9_layPuffs_13 2).trans dk_j2) ((dQ_X9_layPuffs_13 3).trans dk_j3) dk_vs2_0_4
theorem dX9_layPuffs_212 : decode cX9_layPuffs 212 = .ok (.lconst 0, 1) := dk_9 ((dQ_X9_layPuffs_13 4).trans dk_j4)
theorem dX9_layPuffs_213 : decode cX9_layPuffs 213 = .ok (.ladd, 1) := dk_97 ((dQ_X9_layPuffs_13 5).trans dk_j5)
theorem dX9_layPuffs_214 : decode cX9_layPuffs 214 = .ok (.putfield 408, 3) := dk_181 ((dQ_X9_layPuffs_13 6).trans dk_j6) ((dQ_X9_layPuffs_13 7).trans dk_j7) ((dQ_X9_layPuffs_13 8).trans dk_j8) dk_vu2_1_152
theorem dX9_layPuffs_217 : decode cX9_layPuffs 217 = .ok (.iinc 4 1, 3) := dk_132 ((dQ_X9_layPuffs_13 9).trans dk_j9) ((dQ_X9_layPuffs_13 10).trans dk_j10) ((dQ_X9_layPuffs_13 11).trans dk_j11) dk_vu1_4 dk_vs1_1
theorem dk_vs2_255_59 : Reader.signed 16 ((0xff : UInt8).toNat * 256 + (0x3b : UInt8).toNat) = (-197 : Int) := by decide +kernel
theorem dX9_layPuffs_220 : decode cX9_layPuffs 220 = .ok (.goto (-197), 3) := dk_167 ((dQ_X9_layPuffs_13 12).trans dk_j12) ((dQ_X9_layPuffs_13 13).trans dk_j13) ((dQ_X9_layPuffs_13 14).trans dk_j14) dk_vs2_255_59
theorem dX9_layPuffs_223 : decode cX9_layPuffs 223 = .ok (.return_, 1) := dk_177 ((dQ_X9_layPuffs_13 15).trans dk_j15)
def dT_X9_isPuffs_2 : List UInt8 := (0xa7 : UInt8) :: (0x00 : UInt8) :: (0x04 : UInt8) :: (0x03 : UInt8) :: (0xac : UInt8) :: []
def dT_X9_isPuffs_1 : List UInt8 := (0x00 : UInt8) :: (0x5e : UInt8) :: (0x99 : UInt8) :: (0x00 : UInt8) :: (0x11 : UInt8) :: (0x1c : UInt8) :: (0x85 : UInt8) :: (0x09 : UInt8) :: (0x0a : UInt8) :: (0xb8 : UInt8) :: (0x00 : UInt8) :: (0x5e : UInt8) :: (0x99 : UInt8) :: (0x00 : UInt8) :: (0x07 : UInt8) :: (0x04 : UInt8) :: dT_X9_isPuffs_2
def dT_X9_isPuffs_0 : List UInt8 := (0x2a : UInt8) :: (0x1b : UInt8) :: (0x85 : UInt8) :: (0xb6 : UInt8) :: (0x01 : UInt8) :: (0x13 : UInt8) :: (0x99 : UInt8) :: (0x00 : UInt8) :: (0x1d : UInt8) :: (0x1b : UInt8) :: (0x85 : UInt8) :: (0x09 : UInt8) :: (0x14 : UInt8) :: (0x01 : UInt8) :: (0x9b : UInt8) :: (0xb8 : UInt8) :: dT_X9_isPuffs_1
theorem dT_X9_isPuffs : cX9_isPuffs.data.toList = dT_X9_isPuffs_0 := eq_of_beq (show (cX9_isPuffs.data.toList == dT_X9_isPuffs_0) = true by decide +kernel)
theorem dQ_X9_isPuffs_0 : dQ_P cX9_isPuffs 0 dT_X9_isPuffs_0 := fun i => by rw [dT_X9_isPuffs]; rfl
theorem dQ_X9_isPuffs_1 : dQ_P cX9_isPuffs 16 dT_X9_isPuffs_1 := fun i => (dQ_X9_isPuffs_0 (i + 16)).trans dk_t
theorem dQ_X9_isPuffs_2 : dQ_P cX9_isPuffs 32 dT_X9_isPuffs_2 := fun i => (dQ_X9_isPuffs_1 (i + 16)).trans dk_t
theorem dX9_isPuffs_0 : decode cX9_isPuffs 0 = .ok (.aload_n 0, 1) := dk_42 ((dQ_X9_isPuffs_0 0).trans dk_j0)
theorem dX9_isPuffs_1 : decode cX9_isPuffs 1 = .ok (.iload_n 1, 1) := dk_27 ((dQ_X9_isPuffs_0 1).trans dk_j1)
theorem dX9_isPuffs_2 : decode cX9_isPuffs 2 = .ok (.i2l, 1) := dk_133 ((dQ_X9_isPuffs_0 2).trans dk_j2)
theorem dX9_isPuffs_3 : decode cX9_isPuffs 3 = .ok (.invokevirtual 275, 3) := dk_182 ((dQ_X9_isPuffs_0 3).trans dk_j3) ((dQ_X9_isPuffs_0 4).trans dk_j4) ((dQ_X9_isPuffs_0 5).trans dk_j5) dk_vu2_1_19
theorem dX9_isPuffs_6 : decode cX9_isPuffs 6 = .ok (.ifCond .eq 29, 3) := dk_153 ((dQ_X9_isPuffs_0 6).trans dk_j6) ((dQ_X9_isPuffs_0 7).trans dk_j7) ((dQ_X9_isPuffs_0 8).trans dk_j8) dk_vs2_0_29
theorem dX9_isPuffs_9 : decode cX9_isPuffs 9 = .ok (.iload_n 1, 1) := dk_27 ((dQ_X9_isPuffs_0 9).trans dk_j9)
theorem dX9_isPuffs_10 : decode cX9_isPuffs 10 = .ok (.i2l, 1) := dk_133 ((dQ_X9_isPuffs_0 10).trans dk_j10)
theorem dX9_isPuffs_11 : decode cX9_isPuffs 11 = .ok (.lconst 0, 1) := dk_9 ((dQ_X9_isPuffs_0 11).trans dk_j11)
theorem dk_vu2_1_155 : (0x01 : UInt8).toNat * 256 + (0x9b : UInt8).toNat = (411 : Nat) := by decide +kernel
theorem dX9_isPuffs_12 : decode cX9_isPuffs 12 = .ok (.ldc2_w 411, 3) := dk_20 ((dQ_X9_isPuffs_0 12).trans dk_j12) ((dQ_X9_isPuffs_0 13).trans dk_j13) ((dQ_X9_isPuffs_0 14).trans dk_j14) dk_vu2_1_155
theorem dX9_isPuffs_15 : decode cX9_isPuffs 15 = .ok (.invokestatic 94, 3) := dk_184 ((dQ_X9_isPuffs_0 15).trans dk_j15) ((dQ_X9_isPuffs_1 0).trans dk_j0) ((dQ_X9_isPuffs_1 1).trans dk_j1) dk_vu2_0_94
theorem dX9_isPuffs_18 : decode cX9_isPuffs 18 = .ok (.ifCond .eq 17, 3) := dk_153 ((dQ_X9_isPuffs_1 2).trans dk_j2) ((dQ_X9_isPuffs_1 3).trans dk_j3) ((dQ_X9_isPuffs_1 4).trans dk_j4) dk_vs2_0_17
theorem dX9_isPuffs_21 : decode cX9_isPuffs 21 = .ok (.iload_n 2, 1) := dk_28 ((dQ_X9_isPuffs_1 5).trans dk_j5)
theorem dX9_isPuffs_22 : decode cX9_isPuffs 22 = .ok (.i2l, 1) := dk_133 ((dQ_X9_isPuffs_1 6).trans dk_j6)
theorem dX9_isPuffs_23 : decode cX9_isPuffs 23 = .ok (.lconst 0, 1) := dk_9 ((dQ_X9_isPuffs_1 7).trans dk_j7)
theorem dX9_isPuffs_24 : decode cX9_isPuffs 24 = .ok (.lconst 1, 1) := dk_10 ((dQ_X9_isPuffs_1 8).trans dk_j8)
theorem dX9_isPuffs_25 : decode cX9_isPuffs 25 = .ok (.invokestatic 94, 3) := dk_184 ((dQ_X9_isPuffs_1 9).trans dk_j9) ((dQ_X9_isPuffs_1 10).trans dk_j10) ((dQ_X9_isPuffs_1 11).trans dk_j11) dk_vu2_0_94
theorem dX9_isPuffs_28 : decode cX9_isPuffs 28 = .ok (.ifCond .eq 7, 3) := dk_153 ((dQ_X9_isPuffs_1 12).trans dk_j12) ((dQ_X9_isPuffs_1 13).trans dk_j13) ((dQ_X9_isPuffs_1 14).trans dk_j14) dk_vs2_0_7
theorem dX9_isPuffs_31 : decode cX9_isPuffs 31 = .ok (.iconst 1, 1) := dk_4 ((dQ_X9_isPuffs_1 15).trans dk_j15)
theorem dX9_isPuffs_32 : decode cX9_isPuffs 32 = .ok (.goto 4, 3) := dk_167 ((dQ_X9_isPuffs_2 0).trans dk_j0) ((dQ_X9_isPuffs_2 1).trans dk_j1) ((dQ_X9_isPuffs_2 2).trans dk_j2) dk_vs2_0_4
theorem dX9_isPuffs_35 : decode cX9_isPuffs 35 = .ok (.iconst 0, 1) := dk_3 ((dQ_X9_isPuffs_2 3).trans dk_j3)
theorem dX9_isPuffs_36 : decode cX9_isPuffs 36 = .ok (.ireturn, 1) := dk_172 ((dQ_X9_isPuffs_2 4).trans dk_j4)
def dT_X9_chance_2 : List UInt8 := (0x92 : UInt8) :: (0x2a : UInt8) :: (0xb4 : UInt8) :: (0x01 : UInt8) :: (0x8e : UInt8) :: (0x1d : UInt8) :: (0xb8 : UInt8) :: (0x01 : UInt8) :: (0xa6 : UInt8) :: (0xad : UInt8) :: []
def dT_X9_chance_1 : List UInt8 := (0x00 : UInt8) :: (0x07 : UInt8) :: (0x14 : UInt8) :: (0x01 : UInt8) :: (0xa0 : UInt8) :: (0xad : UInt8) :: (0x2a : UInt8) :: (0x1c : UInt8) :: (0x1b : UInt8) :: (0x03 : UInt8) :: (0xb6 : UInt8) :: (0x01 : UInt8) :: (0xa2 : UInt8) :: (0x2a : UInt8) :: (0xb4 : UInt8) :: (0x01 : UInt8) :: dT_X9_chance_2
def dT_X9_chance_0 : List UInt8 := (0x2a : UInt8) :: (0x1b : UInt8) :: (0x85 : UInt8) :: (0xb6 : UInt8) :: (0x00 : UInt8) :: (0xe0 : UInt8) :: (0x99 : UInt8) :: (0x00 : UInt8) :: (0x0c : UInt8) :: (0x2a : UInt8) :: (0x1c : UInt8) :: (0x1d : UInt8) :: (0xb6 : UInt8) :: (0x01 : UInt8) :: (0x9d : UInt8) :: (0x9a : UInt8) :: dT_X9_chance_1
theorem dT_X9_chance : cX9_chance.data.toList = dT_X9_chance_0 := eq_of_beq (show (cX9_chance.data.toList == dT_X9_chance_0) = true by decide +kernel)
theorem dQ_X9_chance_0 : dQ_P cX9_chance 0 dT_X9_chance_0 := fun i => by rw [dT_X9_chance]; rfl
theorem dQ_X9_chance_1 : dQ_P cX9_chance 16 dT_X9_chance_1 := fun i => (dQ_X9_chance_0 (i + 16)).trans dk_t
theorem dQ_X9_chance_2 : dQ_P cX9_chance 32 dT_X9_chance_2 := fun i => (dQ_X9_chance_1 (i + 16)).trans dk_t
theorem dX9_chance_0 : decode cX9_chance 0 = .ok (.aload_n 0, 1) := dk_42 ((dQ_X9_chance_0 0).trans dk_j0)
theorem dX9_chance_1 : decode cX9_chance 1 = .ok (.iload_n 1, 1) := dk_27 ((dQ_X9_chance_0 1).trans dk_j1)
theorem dX9_chance_2 : decode cX9_chance 2 = .ok (.i2l, 1) := dk_133 ((dQ_X9_chance_0 2).trans dk_j2)
theorem dX9_chance_3 : decode cX9_chance 3 = .ok (.invokevirtual 224, 3) := dk_182 ((dQ_X9_chance_0 3).trans dk_j3) ((dQ_X9_chance_0 4).trans dk_j4) ((dQ_X9_chance_0 5).trans dk_j5) dk_vu2_0_224
theorem dX9_chance_6 : decode cX9_chance 6 = .ok (.ifCond .eq 12, 3) := dk_153 ((dQ_X9_chance_0 6).trans dk_j6) ((dQ_X9_chance_0 7).trans dk_j7) ((dQ_X9_chance_0 8).trans dk_j8) dk_vs2_0_12
theorem dX9_chance_9 : decode cX9_chance 9 = .ok (.aload_n 0, 1) := dk_42 ((dQ_X9_chance_0 9).trans dk_j9)
theorem dX9_chance_10 : decode cX9_chance 10 = .ok (.iload_n 2, 1) := dk_28 ((dQ_X9_chance_0 10).trans dk_j10)
theorem dX9_chance_11 : decode cX9_chance 11 = .ok (.iload_n 3, 1) := dk_29 ((dQ_X9_chance_0 11).trans dk_j11)
theorem dk_vu2_1_157 : (0x01 : UInt8).toNat * 256 + (0x9d : UInt8).toNat = (413 : Nat) := by decide +kernel
theorem dX9_chance_12 : decode cX9_chance 12 = .ok (.invokevirtual 413, 3) := dk_182 ((dQ_X9_chance_0 12).trans dk_j12) ((dQ_X9_chance_0 13).trans dk_j13) ((dQ_X9_chance_0 14).trans dk_j14) dk_vu2_1_157
theorem dX9_chance_15 : decode cX9_chance 15 = .ok (.ifCond .ne 7, 3) := dk_154 ((dQ_X9_chance_0 15).trans dk_j15) ((dQ_X9_chance_1 0).trans dk_j0) ((dQ_X9_chance_1 1).trans dk_j1) dk_vs2_0_7
theorem dk_vu2_1_160 : (0x01 : UInt8).toNat * 256 + (0xa0 : UInt8).toNat = (416 : Nat) := by decide +kernel
theorem dX9_chance_18 : decode cX9_chance 18 = .ok (.ldc2_w 416, 3) := dk_20 ((dQ_X9_chance_1 2).trans dk_j2) ((dQ_X9_chance_1 3).trans dk_j3) ((dQ_X9_chance_1 4).trans dk_j4) dk_vu2_1_160
theorem dX9_chance_21 : decode cX9_chance 21 = .ok (.lreturn, 1) := dk_173 ((dQ_X9_chance_1 5).trans dk_j5)
theorem dX9_chance_22 : decode cX9_chance 22 = .ok (.aload_n 0, 1) := dk_42 ((dQ_X9_chance_1 6).trans dk_j6)
theorem dX9_chance_23 : decode cX9_chance 23 = .ok (.iload_n 2, 1) := dk_28 ((dQ_X9_chance_1 7).trans dk_j7)
theorem dX9_chance_24 : decode cX9_chance 24 = .ok (.iload_n 1, 1) := dk_27 ((dQ_X9_chance_1 8).trans dk_j8)
theorem dX9_chance_25 : decode cX9_chance 25 = .ok (.iconst 0, 1) := dk_3 ((dQ_X9_chance_1 9).trans dk_j9)
theorem dk_vu2_1_162 : (0x01 : UInt8).toNat * 256 + (0xa2 : UInt8).toNat = (418 : Nat) := by decide +kernel
theorem dX9_chance_26 : decode cX9_chance 26 = .ok (.invokevirtual 418, 3) := dk_182 ((dQ_X9_chance_1 10).trans dk_j10) ((dQ_X9_chance_1 11).trans dk_j11) ((dQ_X9_chance_1 12).trans dk_j12) dk_vu2_1_162
theorem dX9_chance_29 : decode cX9_chance 29 = .ok (.aload_n 0, 1) := dk_42 ((dQ_X9_chance_1 13).trans dk_j13)
theorem dX9_chance_30 : decode cX9_chance 30 = .ok (.getfield 402, 3) := dk_180 ((dQ_X9_chance_1 14).trans dk_j14) ((dQ_X9_chance_1 15).trans dk_j15) ((dQ_X9_chance_2 0).trans dk_j0) dk_vu2_1_146
theorem dX9_chance_33 : decode cX9_chance 33 = .ok (.aload_n 0, 1) := dk_42 ((dQ_X9_chance_2 1).trans dk_j1)
theorem dX9_chance_34 : decode cX9_chance 34 = .ok (.getfield 398, 3) := dk_180 ((dQ_X9_chance_2 2).trans dk_j2) ((dQ_X9_chance_2 3).trans dk_j3) ((dQ_X9_chance_2 4).trans dk_j4) dk_vu2_1_142
theorem dX9_chance_37 : decode cX9_chance 37 = .ok (.iload_n 3, 1) := dk_29 ((dQ_X9_chance_2 5).trans dk_j5)
theorem dk_vu2_1_166 : (0x01 : UInt8).toNat * 256 + (0xa6 : UInt8).toNat = (422 : Nat) := by decide +kernel
theorem dX9_chance_38 : decode cX9_chance 38 = .ok (.invokestatic 422, 3) := dk_184 ((dQ_X9_chance_2 6).trans dk_j6) ((dQ_X9_chance_2 7).trans dk_j7) ((dQ_X9_chance_2 8).trans dk_j8) dk_vu2_1_166
theorem dX9_chance_41 : decode cX9_chance 41 = .ok (.lreturn, 1) := dk_173 ((dQ_X9_chance_2 9).trans dk_j9)
def dT_X9_fair_2 : List UInt8 := (0x2a : UInt8) :: (0xb4 : UInt8) :: (0x01 : UInt8) :: (0x8e : UInt8) :: (0x1d : UInt8) :: (0xb8 : UInt8) :: (0x01 : UInt8) :: (0xa6 : UInt8) :: (0xad : UInt8) :: []
def dT_X9_fair_1 : List UInt8 := (0x07 : UInt8) :: (0x14 : UInt8) :: (0x01 : UInt8) :: (0xa0 : UInt8) :: (0xad : UInt8) :: (0x2a : UInt8) :: (0x1c : UInt8) :: (0x03 : UInt8) :: (0x1b : UInt8) :: (0xb6 : UInt8) :: (0x01 : UInt8) :: (0xa2 : UInt8) :: (0x2a : UInt8) :: (0xb4 : UInt8) :: (0x01 : UInt8) :: (0x95 : UInt8) :: dT_X9_fair_2
def dT_X9_fair_0 : List UInt8 := (0x2a : UInt8) :: (0x1b : UInt8) :: (0xb6 : UInt8) :: (0x00 : UInt8) :: (0xe4 : UInt8) :: (0x99 : UInt8) :: (0x00 : UInt8) :: (0x0c : UInt8) :: (0x2a : UInt8) :: (0x1c : UInt8) :: (0x1d : UInt8) :: (0xb6 : UInt8) :: (0x01 : UInt8) :: (0x9d : UInt8) :: (0x9a : UInt8) :: (0x00 : UInt8) :: dT_X9_fair_1
theorem dT_X9_fair : cX9_fair.data.toList = dT_X9_fair_0 := eq_of_beq (show (cX9_fair.data.toList == dT_X9_fair_0) = true by decide +kernel)
theorem dQ_X9_fair_0 : dQ_P cX9_fair 0 dT_X9_fair_0 := fun i => by rw [dT_X9_fair]; rfl
theorem dQ_X9_fair_1 : dQ_P cX9_fair 16 dT_X9_fair_1 := fun i => (dQ_X9_fair_0 (i + 16)).trans dk_t
theorem dQ_X9_fair_2 : dQ_P cX9_fair 32 dT_X9_fair_2 := fun i => (dQ_X9_fair_1 (i + 16)).trans dk_t
theorem dX9_fair_0 : decode cX9_fair 0 = .ok (.aload_n 0, 1) := dk_42 ((dQ_X9_fair_0 0).trans dk_j0)
theorem dX9_fair_1 : decode cX9_fair 1 = .ok (.iload_n 1, 1) := dk_27 ((dQ_X9_fair_0 1).trans dk_j1)
theorem dX9_fair_2 : decode cX9_fair 2 = .ok (.invokevirtual 228, 3) := dk_182 ((dQ_X9_fair_0 2).trans dk_j2) ((dQ_X9_fair_0 3).trans dk_j3) ((dQ_X9_fair_0 4).trans dk_j4) dk_vu2_0_228
theorem dX9_fair_5 : decode cX9_fair 5 = .ok (.ifCond .eq 12, 3) := dk_153 ((dQ_X9_fair_0 5).trans dk_j5) ((dQ_X9_fair_0 6).trans dk_j6) ((dQ_X9_fair_0 7).trans dk_j7) dk_vs2_0_12
theorem dX9_fair_8 : decode cX9_fair 8 = .ok (.aload_n 0, 1) := dk_42 ((dQ_X9_fair_0 8).trans dk_j8)
theorem dX9_fair_9 : decode cX9_fair 9 = .ok (.iload_n 2, 1) := dk_28 ((dQ_X9_fair_0 9).trans dk_j9)
theorem dX9_fair_10 : decode cX9_fair 10 = .ok (.iload_n 3, 1) := dk_29 ((dQ_X9_fair_0 10).trans dk_j10)
theorem dX9_fair_11 : decode cX9_fair 11 = .ok (.invokevirtual 413, 3) := dk_182 ((dQ_X9_fair_0 11).trans dk_j11) ((dQ_X9_fair_0 12).trans dk_j12) ((dQ_X9_fair_0 13).trans dk_j13) dk_vu2_1_157
theorem dX9_fair_14 : decode cX9_fair 14 = .ok (.ifCond .ne 7, 3) := dk_154 ((dQ_X9_fair_0 14).trans dk_j14) ((dQ_X9_fair_0 15).trans dk_j15) ((dQ_X9_fair_1 0).trans dk_j0) dk_vs2_0_7
theorem dX9_fair_17 : decode cX9_fair 17 = .ok (.ldc2_w 416, 3) := dk_20 ((dQ_X9_fair_1 1).trans dk_j1) ((dQ_X9_fair_1 2).trans dk_j2) ((dQ_X9_fair_1 3).trans dk_j3) dk_vu2_1_160
theorem dX9_fair_20 : decode cX9_fair 20 = .ok (.lreturn, 1) := dk_173 ((dQ_X9_fair_1 4).trans dk_j4)
theorem dX9_fair_21 : decode cX9_fair 21 = .ok (.aload_n 0, 1) := dk_42 ((dQ_X9_fair_1 5).trans dk_j5)
theorem dX9_fair_22 : decode cX9_fair 22 = .ok (.iload_n 2, 1) := dk_28 ((dQ_X9_fair_1 6).trans dk_j6)
theorem dX9_fair_23 : decode cX9_fair 23 = .ok (.iconst 0, 1) := dk_3 ((dQ_X9_fair_1 7).trans dk_j7)
theorem dX9_fair_24 : decode cX9_fair 24 = .ok (.iload_n 1, 1) := dk_27 ((dQ_X9_fair_1 8).trans dk_j8)
theorem dX9_fair_25 : decode cX9_fair 25 = .ok (.invokevirtual 418, 3) := dk_182 ((dQ_X9_fair_1 9).trans dk_j9) ((dQ_X9_fair_1 10).trans dk_j10) ((dQ_X9_fair_1 11).trans dk_j11) dk_vu2_1_162
theorem dX9_fair_28 : decode cX9_fair 28 = .ok (.aload_n 0, 1) := dk_42 ((dQ_X9_fair_1 12).trans dk_j12)
theorem dX9_fair_29 : decode cX9_fair 29 = .ok (.getfield 405, 3) := dk_180 ((dQ_X9_fair_1 13).trans dk_j13) ((dQ_X9_fair_1 14).trans dk_j14) ((dQ_X9_fair_1 15).trans dk_j15) dk_vu2_1_149
theorem dX9_fair_32 : decode cX9_fair 32 = .ok (.aload_n 0, 1) := dk_42 ((dQ_X9_fair_2 0).trans dk_j0)
theorem dX9_fair_33 : decode cX9_fair 33 = .ok (.getfield 398, 3) := dk_180 ((dQ_X9_fair_2 1).trans dk_j1) ((dQ_X9_fair_2 2).trans dk_j2) ((dQ_X9_fair_2 3).trans dk_j3) dk_vu2_1_142
theorem dX9_fair_36 : decode cX9_fair 36 = .ok (.iload_n 3, 1) := dk_29 ((dQ_X9_fair_2 4).trans dk_j4)
theorem dX9_fair_37 : decode cX9_fair 37 = .ok (.invokestatic 422, 3) := dk_184 ((dQ_X9_fair_2 5).trans dk_j5) ((dQ_X9_fair_2 6).trans dk_j6) ((dQ_X9_fair_2 7).trans dk_j7) dk_vu2_1_166
theorem dX9_fair_40 : decode cX9_fair 40 = .ok (.lreturn, 1) := dk_173 ((dQ_X9_fair_2 8).trans dk_j8)
def dT_X9_risk_2 : List UInt8 := (0xad : UInt8) :: []
def dT_X9_risk_1 : List UInt8 := (0x03 : UInt8) :: (0xb6 : UInt8) :: (0x01 : UInt8) :: (0xa2 : UInt8) :: (0x2a : UInt8) :: (0xb4 : UInt8) :: (0x01 : UInt8) :: (0x98 : UInt8) :: (0x2a : UInt8) :: (0xb4 : UInt8) :: (0x01 : UInt8) :: (0x8e : UInt8) :: (0x1c : UInt8) :: (0xb8 : UInt8) :: (0x01 : UInt8) :: (0xa6 : UInt8) :: dT_X9_risk_2
def dT_X9_risk_0 : List UInt8 := (0x2a : UInt8) :: (0x1b : UInt8) :: (0x1c : UInt8) :: (0xb6 : UInt8) :: (0x01 : UInt8) :: (0x9d : UInt8) :: (0x9a : UInt8) :: (0x00 : UInt8) :: (0x07 : UInt8) :: (0x14 : UInt8) :: (0x01 : UInt8) :: (0xa0 : UInt8) :: (0xad : UInt8) :: (0x2a : UInt8) :: (0x1b : UInt8) :: (0x03 : UInt8) :: dT_X9_risk_1
theorem dT_X9_risk : cX9_risk.data.toList = dT_X9_risk_0 := eq_of_beq (show (cX9_risk.data.toList == dT_X9_risk_0) = true by decide +kernel)
theorem dQ_X9_risk_0 : dQ_P cX9_risk 0 dT_X9_risk_0 := fun i => by rw [dT_X9_risk]; rfl
theorem dQ_X9_risk_1 : dQ_P cX9_risk 16 dT_X9_risk_1 := fun i => (dQ_X9_risk_0 (i + 16)).trans dk_t
theorem dQ_X9_risk_2 : dQ_P cX9_risk 32 dT_X9_risk_2 := fun i => (dQ_X9_risk_1 (i + 16)).trans dk_t
theorem dX9_risk_0 : decode cX9_risk 0 = .ok (.aload_n 0, 1) := dk_42 ((dQ_X9_risk_0 0).trans dk_j0)
theorem dX9_risk_1 : decode cX9_risk 1 = .ok (.iload_n 1, 1) := dk_27 ((dQ_X9_risk_0 1).trans dk_j1)
theorem dX9_risk_2 : decode cX9_risk 2 = .ok (.iload_n 2, 1) := dk_28 ((dQ_X9_risk_0 2).trans dk_j2)
theorem dX9_risk_3 : decode cX9_risk 3 = .ok (.invokevirtual 413, 3) := dk_182 ((dQ_X9_risk_0 3).trans dk_j3) ((dQ_X9_risk_0 4).trans dk_j4) ((dQ_X9_risk_0 5).trans dk_j5) dk_vu2_1_157
theorem dX9_risk_6 : decode cX9_risk 6 = .ok (.ifCond .ne 7, 3) := dk_154 ((dQ_X9_risk_0 6).trans dk_j6) ((dQ_X9_risk_0 7).trans dk_j7) ((dQ_X9_risk_0 8).trans dk_j8) dk_vs2_0_7
theorem dX9_risk_9 : decode cX9_risk 9 = .ok (.ldc2_w 416, 3) := dk_20 ((dQ_X9_risk_0 9).trans dk_j9) ((dQ_X9_risk_0 10).trans dk_j10) ((dQ_X9_risk_0 11).trans dk_j11) dk_vu2_1_160
theorem dX9_risk_12 : decode cX9_risk 12 = .ok (.lreturn, 1) := dk_173 ((dQ_X9_risk_0 12).trans dk_j12)
theorem dX9_risk_13 : decode cX9_risk 13 = .ok (.aload_n 0, 1) := dk_42 ((dQ_X9_risk_0 13).trans dk_j13)
theorem dX9_risk_14 : decode cX9_risk 14 = .ok (.iload_n 1, 1) := dk_27 ((dQ_X9_risk_0 14).trans dk_j14)
theorem dX9_risk_15 : decode cX9_risk 15 = .ok (.iconst 0, 1) := dk_3 ((dQ_X9_risk_0 15).trans dk_j15)
theorem dX9_risk_16 : decode cX9_risk 16 = .ok (.iconst 0, 1) := dk_3 ((dQ_X9_risk_1 0).trans dk_j0)
theorem dX9_risk_17 : decode cX9_risk 17 = .ok (.invokevirtual 418, 3) := dk_182 ((dQ_X9_risk_1 1).trans dk_j1) ((dQ_X9_risk_1 2).trans dk_j2) ((dQ_X9_risk_1 3).trans dk_j3) dk_vu2_1_162
theorem dX9_risk_20 : decode cX9_risk 20 = .ok (.aload_n 0, 1) := dk_42 ((dQ_X9_risk_1 4).trans dk_j4)
theorem dX9_risk_21 : decode cX9_risk 21 = .ok (.getfield 408, 3) := dk_180 ((dQ_X9_risk_1 5).trans dk_j5) ((dQ_X9_risk_1 6).trans dk_j6) ((dQ_X9_risk_1 7).trans dk_j7) dk_vu2_1_152
theorem dX9_risk_24 : decode cX9_risk 24 = .ok (.aload_n 0, 1) := dk_42 ((dQ_X9_risk_1 8).trans dk_j8)
theorem dX9_risk_25 : decode cX9_risk 25 = .ok (.getfield 398, 3) := dk_180 ((dQ_X9_risk_1 9).trans dk_j9) ((dQ_X9_risk_1 10).trans dk_j10) ((dQ_X9_risk_1 11).trans dk_j11) dk_vu2_1_142
theorem dX9_risk_28 : decode cX9_risk 28 = .ok (.iload_n 2, 1) := dk_28 ((dQ_X9_risk_1 12).trans dk_j12)
theorem dX9_risk_29 : decode cX9_risk 29 = .ok (.invokestatic 422, 3) := dk_184 ((dQ_X9_risk_1 13).trans dk_j13) ((dQ_X9_risk_1 14).trans dk_j14) ((dQ_X9_risk_1 15).trans dk_j15) dk_vu2_1_166
theorem dX9_risk_32 : decode cX9_risk 32 = .ok (.lreturn, 1) := dk_173 ((dQ_X9_risk_2 0).trans dk_j0)
def dT_X9_keepAct_3 : List UInt8 := (0xac : UInt8) :: []
def dT_X9_keepAct_2 : List UInt8 := (0xb4 : UInt8) :: (0x00 : UInt8) :: (0x09 : UInt8) :: (0x10 : UInt8) :: (0x09 : UInt8) :: (0x5c : UInt8) :: (0x2e : UInt8) :: (0x04 : UInt8) :: (0x60 : UInt8) :: (0x4f : UInt8) :: (0x2a : UInt8) :: (0xb6 : UInt8) :: (0x01 : UInt8) :: (0x10 : UInt8) :: (0x57 : UInt8) :: (0x03 : UInt8) :: dT_X9_keepAct_3
def dT_X9_keepAct_1 : List UInt8 := (0xb4 : UInt8) :: (0x00 : UInt8) :: (0x09 : UInt8) :: (0x10 : UInt8) :: (0x4f : UInt8) :: (0x2a : UInt8) :: (0xb4 : UInt8) :: (0x00 : UInt8) :: (0x09 : UInt8) :: (0x10 : UInt8) :: (0x09 : UInt8) :: (0x2e : UInt8) :: (0x60 : UInt8) :: (0x1b : UInt8) :: (0x4f : UInt8) :: (0x2a : UInt8) :: dT_X9_keepAct_2
def dT_X9_keepAct_0 : List UInt8 := (0x2a : UInt8) :: (0xb4 : UInt8) :: (0x00 : UInt8) :: (0x09 : UInt8) :: (0x10 : UInt8) :: (0x09 : UInt8) :: (0x2e : UInt8) :: (0x10 : UInt8) :: (0x28 : UInt8) :: (0xa0 : UInt8) :: (0x00 : UInt8) :: (0x06 : UInt8) :: (0x10 : UInt8) :: (0xfb : UInt8) :: (0xac : UInt8) :: (0x2a : UInt8) :: dT_X9_keepAct_1
theorem dT_X9_keepAct : cX9_keepAct.data.toList = dT_X9_keepAct_0 := eq_of_beq (show (cX9_keepAct.data.toList == dT_X9_keepAct_0) = true by decide +kernel)
theorem dQ_X9_keepAct_0 : dQ_P cX9_keepAct 0 dT_X9_keepAct_0 := fun i => by rw [dT_X9_keepAct]; rfl
theorem dQ_X9_keepAct_1 : dQ_P cX9_keepAct 16 dT_X9_keepAct_1 := fun i => (dQ_X9_keepAct_0 (i + 16)).trans dk_t
theorem dQ_X9_keepAct_2 : dQ_P cX9_keepAct 32 dT_X9_keepAct_2 := fun i => (dQ_X9_keepAct_1 (i + 16)).trans dk_t
theorem dQ_X9_keepAct_3 : dQ_P cX9_keepAct 48 dT_X9_keepAct_3 := fun i => (dQ_X9_keepAct_2 (i + 16)).trans dk_t
theorem dX9_keepAct_0 : decode cX9_keepAct 0 = .ok (.aload_n 0, 1) := dk_42 ((dQ_X9_keepAct_0 0).trans dk_j0)
theorem dX9_keepAct_1 : decode cX9_keepAct 1 = .ok (.getfield 9, 3) := dk_180 ((dQ_X9_keepAct_0 1).trans dk_j1) ((dQ_X9_keepAct_0 2).trans dk_j2) ((dQ_X9_keepAct_0 3).trans dk_j3) dk_vu2_0_9
theorem dX9_keepAct_4 : decode cX9_keepAct 4 = .ok (.bipush 9, 2) := dk_16 ((dQ_X9_keepAct_0 4).trans dk_j4) ((dQ_X9_keepAct_0 5).trans dk_j5) dk_vs1_9
theorem dX9_keepAct_6 : decode cX9_keepAct 6 = .ok (.iaload, 1) := dk_46 ((dQ_X9_keepAct_0 6).trans dk_j6)
theorem dX9_keepAct_7 : decode cX9_keepAct 7 = .ok (.bipush 40, 2) := dk_16 ((dQ_X9_keepAct_0 7).trans dk_j7) ((dQ_X9_keepAct_0 8).trans dk_j8) dk_vs1_40
theorem dX9_keepAct_9 : decode cX9_keepAct 9 = .ok (.if_icmp .ne 6, 3) := dk_160 ((dQ_X9_keepAct_0 9).trans dk_j9) ((dQ_X9_keepAct_0 10).trans dk_j10) ((dQ_X9_keepAct_0 11).trans dk_j11) dk_vs2_0_6
theorem dk_vs1_251 : Reader.signed 8 (0xfb : UInt8).toNat = (-5 : Int) := by decide +kernel
theorem dX9_keepAct_12 : decode cX9_keepAct 12 = .ok (.bipush (-5), 2) := dk_16 ((dQ_X9_keepAct_0 12).trans dk_j12) ((dQ_X9_keepAct_0 13).trans dk_j13) dk_vs1_251
theorem dX9_keepAct_14 : decode cX9_keepAct 14 = .ok (.ireturn, 1) := dk_172 ((dQ_X9_keepAct_0 14).trans dk_j14)
theorem dX9_keepAct_15 : decode cX9_keepAct 15 = .ok (.aload_n 0, 1) := dk_42 ((dQ_X9_keepAct_0 15).trans dk_j15)
theorem dX9_keepAct_16 : decode cX9_keepAct 16 = .ok (.getfield 9, 3) := dk_180 ((dQ_X9_keepAct_1 0).trans dk_j0) ((dQ_X9_keepAct_1 1).trans dk_j1) ((dQ_X9_keepAct_1 2).trans dk_j2) dk_vu2_0_9
theorem dX9_keepAct_19 : decode cX9_keepAct 19 = .ok (.bipush 79, 2) := dk_16 ((dQ_X9_keepAct_1 3).trans dk_j3) ((dQ_X9_keepAct_1 4).trans dk_j4) dk_vs1_79
theorem dX9_keepAct_21 : decode cX9_keepAct 21 = .ok (.aload_n 0, 1) := dk_42 ((dQ_X9_keepAct_1 5).trans dk_j5)
theorem dX9_keepAct_22 : decode cX9_keepAct 22 = .ok (.getfield 9, 3) := dk_180 ((dQ_X9_keepAct_1 6).trans dk_j6) ((dQ_X9_keepAct_1 7).trans dk_j7) ((dQ_X9_keepAct_1 8).trans dk_j8) dk_vu2_0_9
theorem dX9_keepAct_25 : decode cX9_keepAct 25 = .ok (.bipush 9, 2) := dk_16 ((dQ_X9_keepAct_1 9).trans dk_j9) ((dQ_X9_keepAct_1 10).trans dk_j10) dk_vs1_9
theorem dX9_keepAct_27 : decode cX9_keepAct 27 = .ok (.iaload, 1) := dk_46 ((dQ_X9_keepAct_1 11).trans dk_j11)
theorem dX9_keepAct_28 : decode cX9_keepAct 28 = .ok (.iadd, 1) := dk_96 ((dQ_X9_keepAct_1 12).trans dk_j12)
theorem dX9_keepAct_29 : decode cX9_keepAct 29 = .ok (.iload_n 1, 1) := dk_27 ((dQ_X9_keepAct_1 13).trans dk_j13)
theorem dX9_keepAct_30 : decode cX9_keepAct 30 = .ok (.iastore, 1) := dk_79 ((dQ_X9_keepAct_1 14).trans dk_j14)
theorem dX9_keepAct_31 : decode cX9_keepAct 31 = .ok (.aload_n 0, 1) := dk_42 ((dQ_X9_keepAct_1 15).trans dk_j15)
theorem dX9_keepAct_32 : decode cX9_keepAct 32 = .ok (.getfield 9, 3) := dk_180 ((dQ_X9_keepAct_2 0).trans dk_j0) ((dQ_X9_keepAct_2 1).trans dk_j1) ((dQ_X9_keepAct_2 2).trans dk_j2) dk_vu2_0_9
theorem dX9_keepAct_35 : decode cX9_keepAct 35 = .ok (.bipush 9, 2) := dk_16 ((dQ_X9_keepAct_2 3).trans dk_j3) ((dQ_X9_keepAct_2 4).trans dk_j4) dk_vs1_9
theorem dX9_keepAct_37 : decode cX9_keepAct 37 = .ok (.dup2, 1) := dk_92 ((dQ_X9_keepAct_2 5).trans dk_j5)
theorem dX9_keepAct_38 : decode cX9_keepAct 38 = .ok (.iaload, 1) := dk_46 ((dQ_X9_keepAct_2 6).trans dk_j6)
theorem dX9_keepAct_39 : decode cX9_keepAct 39 = .ok (.iconst 1, 1) := dk_4 ((dQ_X9_keepAct_2 7).trans dk_j7)
theorem dX9_keepAct_40 : decode cX9_keepAct 40 = .ok (.iadd, 1) := dk_96 ((dQ_X9_keepAct_2 8).trans dk_j8)
theorem dX9_keepAct_41 : decode cX9_keepAct 41 = .ok (.iastore, 1) := dk_79 ((dQ_X9_keepAct_2 9).trans dk_j9)
theorem dX9_keepAct_42 : decode cX9_keepAct 42 = .ok (.aload_n 0, 1) := dk_42 ((dQ_X9_keepAct_2 10).trans dk_j10)
theorem dX9_keepAct_43 : decode cX9_keepAct 43 = .ok (.invokevirtual 272, 3) := dk_182 ((dQ_X9_keepAct_2 11).trans dk_j11) ((dQ_X9_keepAct_2 12).trans dk_j12) ((dQ_X9_keepAct_2 13).trans dk_j13) dk_vu2_1_16
theorem dX9_keepAct_46 : decode cX9_keepAct 46 = .ok (.pop, 1) := dk_87 ((dQ_X9_keepAct_2 14).trans dk_j14)
theorem dX9_keepAct_47 : decode cX9_keepAct 47 = .ok (.iconst 0, 1) := dk_3 ((dQ_X9_keepAct_2 15).trans dk_j15)
theorem dX9_keepAct_48 : decode cX9_keepAct 48 = .ok (.ireturn, 1) := dk_172 ((dQ_X9_keepAct_3 0).trans dk_j0)
def dT_X9_stifle_3 : List UInt8 := (0x1c : UInt8) :: (0x68 : UInt8) :: (0x1b : UInt8) :: (0x60 : UInt8) :: (0x2e : UInt8) :: (0xac : UInt8) :: []
def dT_X9_stifle_2 : List UInt8 := (0x01 : UInt8) :: (0xaa : UInt8) :: (0x9c : UInt8) :: (0x00 : UInt8) :: (0x08 : UInt8) :: (0x10 : UInt8) :: (0xfb : UInt8) :: (0xa7 : UInt8) :: (0x00 : UInt8) :: (0x0e : UInt8) :: (0x2a : UInt8) :: (0xb4 : UInt8) :: (0x00 : UInt8) :: (0x31 : UInt8) :: (0x10 : UInt8) :: (0x06 : UInt8) :: dT_X9_stifle_3
def dT_X9_stifle_1 : List UInt8 := (0x00 : UInt8) :: (0x06 : UInt8) :: (0x10 : UInt8) :: (0xfe : UInt8) :: (0xac : UInt8) :: (0x2a : UInt8) :: (0x11 : UInt8) :: (0x00 : UInt8) :: (0xc8 : UInt8) :: (0x1b : UInt8) :: (0x68 : UInt8) :: (0x05 : UInt8) :: (0x1c : UInt8) :: (0x68 : UInt8) :: (0x60 : UInt8) :: (0xb6 : UInt8) :: dT_X9_stifle_2
def dT_X9_stifle_0 : List UInt8 := (0x2a : UInt8) :: (0x1b : UInt8) :: (0x85 : UInt8) :: (0xb6 : UInt8) :: (0x00 : UInt8) :: (0xe0 : UInt8) :: (0x99 : UInt8) :: (0x00 : UInt8) :: (0x0c : UInt8) :: (0x2a : UInt8) :: (0x1c : UInt8) :: (0x85 : UInt8) :: (0xb6 : UInt8) :: (0x01 : UInt8) :: (0x13 : UInt8) :: (0x9a : UInt8) :: dT_X9_stifle_1
theorem dT_X9_stifle : cX9_stifle.data.toList = dT_X9_stifle_0 := eq_of_beq (show (cX9_stifle.data.toList == dT_X9_stifle_0) = true by decide +kernel)
theorem dQ_X9_stifle_0 : dQ_P cX9_stifle 0 dT_X9_stifle_0 := fun i => by rw [dT_X9_stifle]; rfl
theorem dQ_X9_stifle_1 : dQ_P cX9_stifle 16 dT_X9_stifle_1 := fun i => (dQ_X9_stifle_0 (i + 16)).trans dk_t
theorem dQ_X9_stifle_2 : dQ_P cX9_stifle 32 dT_X9_stifle_2 := fun i => (dQ_X9_stifle_1 (i + 16)).trans dk_t
theorem dQ_X9_stifle_3 : dQ_P cX9_stifle 48 dT_X9_stifle_3 := fun i => (dQ_X9_stifle_2 (i + 16)).trans dk_t
theorem dX9_stifle_0 : decode cX9_stifle 0 = .ok (.aload_n 0, 1) := dk_42 ((dQ_X9_stifle_0 0).trans dk_j0)
theorem dX9_stifle_1 : decode cX9_stifle 1 = .ok (.iload_n 1, 1) := dk_27 ((dQ_X9_stifle_0 1).trans dk_j1)
theorem dX9_stifle_2 : decode cX9_stifle 2 = .ok (.i2l, 1) := dk_133 ((dQ_X9_stifle_0 2).trans dk_j2)
theorem dX9_stifle_3 : decode cX9_stifle 3 = .ok (.invokevirtual 224, 3) := dk_182 ((dQ_X9_stifle_0 3).trans dk_j3) ((dQ_X9_stifle_0 4).trans dk_j4) ((dQ_X9_stifle_0 5).trans dk_j5) dk_vu2_0_224
theorem dX9_stifle_6 : decode cX9_stifle 6 = .ok (.ifCond .eq 12, 3) := dk_153 ((dQ_X9_stifle_0 6).trans dk_j6) ((dQ_X9_stifle_0 7).trans dk_j7) ((dQ_X9_stifle_0 8).trans dk_j8) dk_vs2_0_12
theorem dX9_stifle_9 : decode cX9_stifle 9 = .ok (.aload_n 0, 1) := dk_42 ((dQ_X9_stifle_0 9).trans dk_j9)
theorem dX9_stifle_10 : decode cX9_stifle 10 = .ok (.iload_n 2, 1) := dk_28 ((dQ_X9_stifle_0 10).trans dk_j10)
theorem dX9_stifle_11 : decode cX9_stifle 11 = .ok (.i2l, 1) := dk_133 ((dQ_X9_stifle_0 11).trans dk_j11)
theorem dX9_stifle_12 : decode cX9_stifle 12 = .ok (.invokevirtual 275, 3) := dk_182 ((dQ_X9_stifle_0 12).trans dk_j12) ((dQ_X9_stifle_0 13).trans dk_j13) ((dQ_X9_stifle_0 14).trans dk_j14) dk_vu2_1_19
theorem dX9_stifle_15 : decode cX9_stifle 15 = .ok (.ifCond .ne 6, 3) := dk_154 ((dQ_X9_stifle_0 15).trans dk_j15) ((dQ_X9_stifle_1 0).trans dk_j0) ((dQ_X9_stifle_1 1).trans dk_j1) dk_vs2_0_6
theorem dX9_stifle_18 : decode cX9_stifle 18 = .ok (.bipush (-2), 2) := dk_16 ((dQ_X9_stifle_1 2).trans dk_j2) ((dQ_X9_stifle_1 3).trans dk_j3) dk_vs1_254
theorem dX9_stifle_20 : decode cX9_stifle 20 = .ok (.ireturn, 1) := dk_172 ((dQ_X9_stifle_1 4).trans dk_j4)
theorem dX9_stifle_21 : decode cX9_stifle 21 = .ok (.aload_n 0, 1) := dk_42 ((dQ_X9_stifle_1 5).trans dk_j5)
theorem dX9_stifle_22 : decode cX9_stifle 22 = .ok (.sipush 200, 3) := dk_17 ((dQ_X9_stifle_1 6).trans dk_j6) ((dQ_X9_stifle_1 7).trans dk_j7) ((dQ_X9_stifle_1 8).trans dk_j8) dk_vs2_0_200
theorem dX9_stifle_25 : decode cX9_stifle 25 = .ok (.iload_n 1, 1) := dk_27 ((dQ_X9_stifle_1 9).trans dk_j9)
theorem dX9_stifle_26 : decode cX9_stifle 26 = .ok (.imul, 1) := dk_104 ((dQ_X9_stifle_1 10).trans dk_j10)
theorem dX9_stifle_27 : decode cX9_stifle 27 = .ok (.iconst 2, 1) := dk_5 ((dQ_X9_stifle_1 11).trans dk_j11)
theorem dX9_stifle_28 : decode cX9_stifle 28 = .ok (.iload_n 2, 1) := dk_28 ((dQ_X9_stifle_1 12).trans dk_j12)
theorem dX9_stifle_29 : decode cX9_stifle 29 = .ok (.imul, 1) := dk_104 ((dQ_X9_stifle_1 13).trans dk_j13)
theorem dX9_stifle_30 : decode cX9_stifle 30 = .ok (.iadd, 1) := dk_96 ((dQ_X9_stifle_1 14).trans dk_j14)
theorem dk_vu2_1_170 : (0x01 : UInt8).toNat * 256 + (0xaa : UInt8).toNat = (426 : Nat) := by decide +kernel
theorem dX9_stifle_31 : decode cX9_stifle 31 = .ok (.invokevirtual 426, 3) := dk_182 ((dQ_X9_stifle_1 15).trans dk_j15) ((dQ_X9_stifle_2 0).trans dk_j0) ((dQ_X9_stifle_2 1).trans dk_j1) dk_vu2_1_170
theorem dX9_stifle_34 : decode cX9_stifle 34 = .ok (.ifCond .ge 8, 3) := dk_156 ((dQ_X9_stifle_2 2).trans dk_j2) ((dQ_X9_stifle_2 3).trans dk_j3) ((dQ_X9_stifle_2 4).trans dk_j4) dk_vs2_0_8
theorem dX9_stifle_37 : decode cX9_stifle 37 = .ok (.bipush (-5), 2) := dk_16 ((dQ_X9_stifle_2 5).trans dk_j5) ((dQ_X9_stifle_2 6).trans dk_j6) dk_vs1_251
theorem dX9_stifle_39 : decode cX9_stifle 39 = .ok (.goto 14, 3) := dk_167 ((dQ_X9_stifle_2 7).trans dk_j7) ((dQ_X9_stifle_2 8).trans dk_j8) ((dQ_X9_stifle_2 9).trans dk_j9) dk_vs2_0_14
theorem dX9_stifle_42 : decode cX9_stifle 42 = .ok (.aload_n 0, 1) := dk_42 ((dQ_X9_stifle_2 10).trans dk_j10)
theorem dX9_stifle_43 : decode cX9_stifle 43 = .ok (.getfield 49, 3) := dk_180 ((dQ_X9_stifle_2 11).trans dk_j11) ((dQ_X9_stifle_2 12).trans dk_j12) ((dQ_X9_stifle_2 13).trans dk_j13) dk_vu2_0_49
theorem dX9_stifle_46 : decode cX9_stifle 46 = .ok (.bipush 6, 2) := dk_16 ((dQ_X9_stifle_2 14).trans dk_j14) ((dQ_X9_stifle_2 15).trans dk_j15) dk_vs1_6
theorem dX9_stifle_48 : decode cX9_stifle 48 = .ok (.iload_n 2, 1) := dk_28 ((dQ_X9_stifle_3 0).trans dk_j0)
theorem dX9_stifle_49 : decode cX9_stifle 49 = .ok (.imul, 1) := dk_104 ((dQ_X9_stifle_3 1).trans dk_j1)
theorem dX9_stifle_50 : decode cX9_stifle 50 = .ok (.iload_n 1, 1) := dk_27 ((dQ_X9_stifle_3 2).trans dk_j2)
theorem dX9_stifle_51 : decode cX9_stifle 51 = .ok (.iadd, 1) := dk_96 ((dQ_X9_stifle_3 3).trans dk_j3)
theorem dX9_stifle_52 : decode cX9_stifle 52 = .ok (.iaload, 1) := dk_46 ((dQ_X9_stifle_3 4).trans dk_j4)
theorem dX9_stifle_53 : decode cX9_stifle 53 = .ok (.ireturn, 1) := dk_172 ((dQ_X9_stifle_3 5).trans dk_j5)
def dT_X9_sniff_3 : List UInt8 := (0x1b : UInt8) :: (0x2e : UInt8) :: (0x1c : UInt8) :: (0xb8 : UInt8) :: (0x00 : UInt8) :: (0xfe : UInt8) :: (0xac : UInt8) :: []
def dT_X9_sniff_2 : List UInt8 := (0x60 : UInt8) :: (0xb6 : UInt8) :: (0x01 : UInt8) :: (0xaa : UInt8) :: (0x9c : UInt8) :: (0x00 : UInt8) :: (0x08 : UInt8) :: (0x10 : UInt8) :: (0xfb : UInt8) :: (0xa7 : UInt8) :: (0x00 : UInt8) :: (0x0d : UInt8) :: (0x2a : UInt8) :: (0xb4 : UInt8) :: (0x00 : UInt8) :: (0x2b : UInt8) :: dT_X9_sniff_3
def dT_X9_sniff_1 : List UInt8 := (0x00 : UInt8) :: (0x06 : UInt8) :: (0x10 : UInt8) :: (0xfe : UInt8) :: (0xac : UInt8) :: (0x2a : UInt8) :: (0x11 : UInt8) :: (0x00 : UInt8) :: (0xc8 : UInt8) :: (0x1b : UInt8) :: (0x68 : UInt8) :: (0x05 : UInt8) :: (0x1c : UInt8) :: (0x68 : UInt8) :: (0x60 : UInt8) :: (0x04 : UInt8) :: dT_X9_sniff_2
def dT_X9_sniff_0 : List UInt8 := (0x2a : UInt8) :: (0x1b : UInt8) :: (0x85 : UInt8) :: (0xb6 : UInt8) :: (0x00 : UInt8) :: (0xe0 : UInt8) :: (0x99 : UInt8) :: (0x00 : UInt8) :: (0x0c : UInt8) :: (0x2a : UInt8) :: (0x1c : UInt8) :: (0x85 : UInt8) :: (0xb6 : UInt8) :: (0x01 : UInt8) :: (0x13 : UInt8) :: (0x9a : UInt8) :: dT_X9_sniff_1
theorem dT_X9_sniff : cX9_sniff.data.toList = dT_X9_sniff_0 := eq_of_beq (show (cX9_sniff.data.toList == dT_X9_sniff_0) = true by decide +kernel)
theorem dQ_X9_sniff_0 : dQ_P cX9_sniff 0 dT_X9_sniff_0 := fun i => by rw [dT_X9_sniff]; rfl
theorem dQ_X9_sniff_1 : dQ_P cX9_sniff 16 dT_X9_sniff_1 := fun i => (dQ_X9_sniff_0 (i + 16)).trans dk_t
theorem dQ_X9_sniff_2 : dQ_P cX9_sniff 32 dT_X9_sniff_2 := fun i => (dQ_X9_sniff_1 (i + 16)).trans dk_t
theorem dQ_X9_sniff_3 : dQ_P cX9_sniff 48 dT_X9_sniff_3 := fun i => (dQ_X9_sniff_2 (i + 16)).trans dk_t
theorem dX9_sniff_0 : decode cX9_sniff 0 = .ok (.aload_n 0, 1) := dk_42 ((dQ_X9_sniff_0 0).trans dk_j0)
theorem dX9_sniff_1 : decode cX9_sniff 1 = .ok (.iload_n 1, 1) := dk_27 ((dQ_X9_sniff_0 1).trans dk_j1)
theorem dX9_sniff_2 : decode cX9_sniff 2 = .ok (.i2l, 1) := dk_133 ((dQ_X9_sniff_0 2).trans dk_j2)
theorem dX9_sniff_3 : decode cX9_sniff 3 = .ok (.invokevirtual 224, 3) := dk_182 ((dQ_X9_sniff_0 3).trans dk_j3) ((dQ_X9_sniff_0 4).trans dk_j4) ((dQ_X9_sniff_0 5).trans dk_j5) dk_vu2_0_224
theorem dX9_sniff_6 : decode cX9_sniff 6 = .ok (.ifCond .eq 12, 3) := dk_153 ((dQ_X9_sniff_0 6).trans dk_j6) ((dQ_X9_sniff_0 7).trans dk_j7) ((dQ_X9_sniff_0 8).trans dk_j8) dk_vs2_0_12
theorem dX9_sniff_9 : decode cX9_sniff 9 = .ok (.aload_n 0, 1) := dk_42 ((dQ_X9_sniff_0 9).trans dk_j9)
theorem dX9_sniff_10 : decode cX9_sniff 10 = .ok (.iload_n 2, 1) := dk_28 ((dQ_X9_sniff_0 10).trans dk_j10)
theorem dX9_sniff_11 : decode cX9_sniff 11 = .ok (.i2l, 1) := dk_133 ((dQ_X9_sniff_0 11).trans dk_j11)
theorem dX9_sniff_12 : decode cX9_sniff 12 = .ok (.invokevirtual 275, 3) := dk_182 ((dQ_X9_sniff_0 12).trans dk_j12) ((dQ_X9_sniff_0 13).trans dk_j13) ((dQ_X9_sniff_0 14).trans dk_j14) dk_vu2_1_19
theorem dX9_sniff_15 : decode cX9_sniff 15 = .ok (.ifCond .ne 6, 3) := dk_154 ((dQ_X9_sniff_0 15).trans dk_j15) ((dQ_X9_sniff_1 0).trans dk_j0) ((dQ_X9_sniff_1 1).trans dk_j1) dk_vs2_0_6
theorem dX9_sniff_18 : decode cX9_sniff 18 = .ok (.bipush (-2), 2) := dk_16 ((dQ_X9_sniff_1 2).trans dk_j2) ((dQ_X9_sniff_1 3).trans dk_j3) dk_vs1_254
theorem dX9_sniff_20 : decode cX9_sniff 20 = .ok (.ireturn, 1) := dk_172 ((dQ_X9_sniff_1 4).trans dk_j4)
theorem dX9_sniff_21 : decode cX9_sniff 21 = .ok (.aload_n 0, 1) := dk_42 ((dQ_X9_sniff_1 5).trans dk_j5)
theorem dX9_sniff_22 : decode cX9_sniff 22 = .ok (.sipush 200, 3) := dk_17 ((dQ_X9_sniff_1 6).trans dk_j6) ((dQ_X9_sniff_1 7).trans dk_j7) ((dQ_X9_sniff_1 8).trans dk_j8) dk_vs2_0_200
theorem dX9_sniff_25 : decode cX9_sniff 25 = .ok (.iload_n 1, 1) := dk_27 ((dQ_X9_sniff_1 9).trans dk_j9)
theorem dX9_sniff_26 : decode cX9_sniff 26 = .ok (.imul, 1) := dk_104 ((dQ_X9_sniff_1 10).trans dk_j10)
theorem dX9_sniff_27 : decode cX9_sniff 27 = .ok (.iconst 2, 1) := dk_5 ((dQ_X9_sniff_1 11).trans dk_j11)
theorem dX9_sniff_28 : decode cX9_sniff 28 = .ok (.iload_n 2, 1) := dk_28 ((dQ_X9_sniff_1 12).trans dk_j12)
theorem dX9_sniff_29 : decode cX9_sniff 29 = .ok (.imul, 1) := dk_104 ((dQ_X9_sniff_1 13).trans dk_j13)
theorem dX9_sniff_30 : decode cX9_sniff 30 = .ok (.iadd, 1) := dk_96 ((dQ_X9_sniff_1 14).trans dk_j14)
theorem dX9_sniff_31 : decode cX9_sniff 31 = .ok (.iconst 1, 1) := dk_4 ((dQ_X9_sniff_1 15).trans dk_j15)
theorem dX9_sniff_32 : decode cX9_sniff 32 = .ok (.iadd, 1) := dk_96 ((dQ_X9_sniff_2 0).trans dk_j0)
theorem dX9_sniff_33 : decode cX9_sniff 33 = .ok (.invokevirtual 426, 3) := dk_182 ((dQ_X9_sniff_2 1).trans dk_j1) ((dQ_X9_sniff_2 2).trans dk_j2) ((dQ_X9_sniff_2 3).trans dk_j3) dk_vu2_1_170
theorem dX9_sniff_36 : decode cX9_sniff 36 = .ok (.ifCond .ge 8, 3) := dk_156 ((dQ_X9_sniff_2 4).trans dk_j4) ((dQ_X9_sniff_2 5).trans dk_j5) ((dQ_X9_sniff_2 6).trans dk_j6) dk_vs2_0_8
theorem dX9_sniff_39 : decode cX9_sniff 39 = .ok (.bipush (-5), 2) := dk_16 ((dQ_X9_sniff_2 7).trans dk_j7) ((dQ_X9_sniff_2 8).trans dk_j8) dk_vs1_251
theorem dX9_sniff_41 : decode cX9_sniff 41 = .ok (.goto 13, 3) := dk_167 ((dQ_X9_sniff_2 9).trans dk_j9) ((dQ_X9_sniff_2 10).trans dk_j10) ((dQ_X9_sniff_2 11).trans dk_j11) dk_vs2_0_13
theorem dX9_sniff_44 : decode cX9_sniff 44 = .ok (.aload_n 0, 1) := dk_42 ((dQ_X9_sniff_2 12).trans dk_j12)
theorem dX9_sniff_45 : decode cX9_sniff 45 = .ok (.getfield 43, 3) := dk_180 ((dQ_X9_sniff_2 13).trans dk_j13) ((dQ_X9_sniff_2 14).trans dk_j14) ((dQ_X9_sniff_2 15).trans dk_j15) dk_vu2_0_43
theorem dX9_sniff_48 : decode cX9_sniff 48 = .ok (.iload_n 1, 1) := dk_27 ((dQ_X9_sniff_3 0).trans dk_j0)
theorem dX9_sniff_49 : decode cX9_sniff 49 = .ok (.iaload, 1) := dk_46 ((dQ_X9_sniff_3 1).trans dk_j1)
theorem dX9_sniff_50 : decode cX9_sniff 50 = .ok (.iload_n 2, 1) := dk_28 ((dQ_X9_sniff_3 2).trans dk_j2)
theorem dX9_sniff_51 : decode cX9_sniff 51 = .ok (.invokestatic 254, 3) := dk_184 ((dQ_X9_sniff_3 3).trans dk_j3) ((dQ_X9_sniff_3 4).trans dk_j4) ((dQ_X9_sniff_3 5).trans dk_j5) dk_vu2_0_254
theorem dX9_sniff_54 : decode cX9_sniff 54 = .ok (.ireturn, 1) := dk_172 ((dQ_X9_sniff_3 6).trans dk_j6)
def dT_X9_undo_2 : List UInt8 := (0x64 : UInt8) :: (0x4f : UInt8) :: (0x2a : UInt8) :: (0xb4 : UInt8) :: (0x00 : UInt8) :: (0x09 : UInt8) :: (0x10 : UInt8) :: (0x09 : UInt8) :: (0x2e : UInt8) :: (0xac : UInt8) :: []
def dT_X9_undo_1 : List UInt8 := (0x2e : UInt8) :: (0x9a : UInt8) :: (0x00 : UInt8) :: (0x06 : UInt8) :: (0x10 : UInt8) :: (0xfb : UInt8) :: (0xac : UInt8) :: (0x2a : UInt8) :: (0xb4 : UInt8) :: (0x00 : UInt8) :: (0x09 : UInt8) :: (0x10 : UInt8) :: (0x09 : UInt8) :: (0x5c : UInt8) :: (0x2e : UInt8) :: (0x04 : UInt8) :: dT_X9_undo_2
def dT_X9_undo_0 : List UInt8 := (0x2a : UInt8) :: (0xb6 : UInt8) :: (0x01 : UInt8) :: (0x0d : UInt8) :: (0x9a : UInt8) :: (0x00 : UInt8) :: (0x06 : UInt8) :: (0x10 : UInt8) :: (0xfe : UInt8) :: (0xac : UInt8) :: (0x2a : UInt8) :: (0xb4 : UInt8) :: (0x00 : UInt8) :: (0x09 : UInt8) :: (0x10 : UInt8) :: (0x09 : UInt8) :: dT_X9_undo_1
theorem dT_X9_undo : cX9_undo.data.toList = dT_X9_undo_0 := eq_of_beq (show (cX9_undo.data.toList == dT_X9_undo_0) = true by decide +kernel)
theorem dQ_X9_undo_0 : dQ_P cX9_undo 0 dT_X9_undo_0 := fun i => by rw [dT_X9_undo]; rfl
theorem dQ_X9_undo_1 : dQ_P cX9_undo 16 dT_X9_undo_1 := fun i => (dQ_X9_undo_0 (i + 16)).trans dk_t
theorem dQ_X9_undo_2 : dQ_P cX9_undo 32 dT_X9_undo_2 := fun i => (dQ_X9_undo_1 (i + 16)).trans dk_t
theorem dX9_undo_0 : decode cX9_undo 0 = .ok (.aload_n 0, 1) := dk_42 ((dQ_X9_undo_0 0).trans dk_j0)
theorem dX9_undo_1 : decode cX9_undo 1 = .ok (.invokevirtual 269, 3) := dk_182 ((dQ_X9_undo_0 1).trans dk_j1) ((dQ_X9_undo_0 2).trans dk_j2) ((dQ_X9_undo_0 3).trans dk_j3) dk_vu2_1_13
theorem dX9_undo_4 : decode cX9_undo 4 = .ok (.ifCond .ne 6, 3) := dk_154 ((dQ_X9_undo_0 4).trans dk_j4) ((dQ_X9_undo_0 5).trans dk_j5) ((dQ_X9_undo_0 6).trans dk_j6) dk_vs2_0_6
theorem dX9_undo_7 : decode cX9_undo 7 = .ok (.bipush (-2), 2) := dk_16 ((dQ_X9_undo_0 7).trans dk_j7) ((dQ_X9_undo_0 8).trans dk_j8) dk_vs1_254
theorem dX9_undo_9 : decode cX9_undo 9 = .ok (.ireturn, 1) := dk_172 ((dQ_X9_undo_0 9).trans dk_j9)
theorem dX9_undo_10 : decode cX9_undo 10 = .ok (.aload_n 0, 1) := dk_42 ((dQ_X9_undo_0 10).trans dk_j10)
theorem dX9_undo_11 : decode cX9_undo 11 = .ok (.getfield 9, 3) := dk_180 ((dQ_X9_undo_0 11).trans dk_j11) ((dQ_X9_undo_0 12).trans dk_j12) ((dQ_X9_undo_0 13).trans dk_j13) dk_vu2_0_9
theorem dX9_undo_14 : decode cX9_undo 14 = .ok (.bipush 9, 2) := dk_16 ((dQ_X9_undo_0 14).trans dk_j14) ((dQ_X9_undo_0 15).trans dk_j15) dk_vs1_9
theorem dX9_undo_16 : decode cX9_undo 16 = .ok (.iaload, 1) := dk_46 ((dQ_X9_undo_1 0).trans dk_j0)
theorem dX9_undo_17 : decode cX9_undo 17 = .ok (.ifCond .ne 6, 3) := dk_154 ((dQ_X9_undo_1 1).trans dk_j1) ((dQ_X9_undo_1 2).trans dk_j2) ((dQ_X9_undo_1 3).trans dk_j3) dk_vs2_0_6
theorem dX9_undo_20 : decode cX9_undo 20 = .ok (.bipush (-5), 2) := dk_16 ((dQ_X9_undo_1 4).trans dk_j4) ((dQ_X9_undo_1 5).trans dk_j5) dk_vs1_251
theorem dX9_undo_22 : decode cX9_undo 22 = .ok (.ireturn, 1) := dk_172 ((dQ_X9_undo_1 6).trans dk_j6)
theorem dX9_undo_23 : decode cX9_undo 23 = .ok (.aload_n 0, 1) := dk_42 ((dQ_X9_undo_1 7).trans dk_j7)
theorem dX9_undo_24 : decode cX9_undo 24 = .ok (.getfield 9, 3) := dk_180 ((dQ_X9_undo_1 8).trans dk_j8) ((dQ_X9_undo_1 9).trans dk_j9) ((dQ_X9_undo_1 10).trans dk_j10) dk_vu2_0_9
theorem dX9_undo_27 : decode cX9_undo 27 = .ok (.bipush 9, 2) := dk_16 ((dQ_X9_undo_1 11).trans dk_j11) ((dQ_X9_undo_1 12).trans dk_j12) dk_vs1_9
theorem dX9_undo_29 : decode cX9_undo 29 = .ok (.dup2, 1) := dk_92 ((dQ_X9_undo_1 13).trans dk_j13)
theorem dX9_undo_30 : decode cX9_undo 30 = .ok (.iaload, 1) := dk_46 ((dQ_X9_undo_1 14).trans dk_j14)
theorem dX9_undo_31 : decode cX9_undo 31 = .ok (.iconst 1, 1) := dk_4 ((dQ_X9_undo_1 15).trans dk_j15)
theorem dX9_undo_32 : decode cX9_undo 32 = .ok (.isub, 1) := dk_100 ((dQ_X9_undo_2 0).trans dk_j0)
theorem dX9_undo_33 : decode cX9_undo 33 = .ok (.iastore, 1) := dk_79 ((dQ_X9_undo_2 1).trans dk_j1)
theorem dX9_undo_34 : decode cX9_undo 34 = .ok (.aload_n 0, 1) := dk_42 ((dQ_X9_undo_2 2).trans dk_j2)
theorem dX9_undo_35 : decode cX9_undo 35 = .ok (.getfield 9, 3) := dk_180 ((dQ_X9_undo_2 3).trans dk_j3) ((dQ_X9_undo_2 4).trans dk_j4) ((dQ_X9_undo_2 5).trans dk_j5) dk_vu2_0_9
theorem dX9_undo_38 : decode cX9_undo 38 = .ok (.bipush 9, 2) := dk_16 ((dQ_X9_undo_2 6).trans dk_j6) ((dQ_X9_undo_2 7).trans dk_j7) dk_vs1_9
theorem dX9_undo_40 : decode cX9_undo 40 = .ok (.iaload, 1) := dk_46 ((dQ_X9_undo_2 8).trans dk_j8)
theorem dX9_undo_41 : decode cX9_undo 41 = .ok (.ireturn, 1) := dk_172 ((dQ_X9_undo_2 9).trans dk_j9)
def dT_X9_anew_1 : List UInt8 := (0x2e : UInt8) :: (0x3c : UInt8) :: (0x2a : UInt8) :: (0xb4 : UInt8) :: (0x00 : UInt8) :: (0x09 : UInt8) :: (0x10 : UInt8) :: (0x09 : UInt8) :: (0x03 : UInt8) :: (0x4f : UInt8) :: (0x1b : UInt8) :: (0xac : UInt8) :: []
def dT_X9_anew_0 : List UInt8 := (0x2a : UInt8) :: (0xb6 : UInt8) :: (0x01 : UInt8) :: (0x0d : UInt8) :: (0x9a : UInt8) :: (0x00 : UInt8) :: (0x06 : UInt8) :: (0x10 : UInt8) :: (0xfe : UInt8) :: (0xac : UInt8) :: (0x2a : UInt8) :: (0xb4 : UInt8) :: (0x00 : UInt8) :: (0x09 : UInt8) :: (0x10 : UInt8) :: (0x09 : UInt8) :: dT_X9_anew_1
theorem dT_X9_anew : cX9_anew.data.toList = dT_X9_anew_0 := eq_of_beq (show (cX9_anew.data.toList == dT_X9_anew_0) = true by decide +kernel)
theorem dQ_X9_anew_0 : dQ_P cX9_anew 0 dT_X9_anew_0 := fun i => by rw [dT_X9_anew]; rfl
theorem dQ_X9_anew_1 : dQ_P cX9_anew 16 dT_X9_anew_1 := fun i => (dQ_X9_anew_0 (i + 16)).trans dk_t
theorem dX9_anew_0 : decode cX9_anew 0 = .ok (.aload_n 0, 1) := dk_42 ((dQ_X9_anew_0 0).trans dk_j0)
theorem dX9_anew_1 : decode cX9_anew 1 = .ok (.invokevirtual 269, 3) := dk_182 ((dQ_X9_anew_0 1).trans dk_j1) ((dQ_X9_anew_0 2).trans dk_j2) ((dQ_X9_anew_0 3).trans dk_j3) dk_vu2_1_13
theorem dX9_anew_4 : decode cX9_anew 4 = .ok (.ifCond .ne 6, 3) := dk_154 ((dQ_X9_anew_0 4).trans dk_j4) ((dQ_X9_anew_0 5).trans dk_j5) ((dQ_X9_anew_0 6).trans dk_j6) dk_vs2_0_6
theorem dX9_anew_7 : decode cX9_anew 7 = .ok (.bipush (-2), 2) := dk_16 ((dQ_X9_anew_0 7).trans dk_j7) ((dQ_X9_anew_0 8).trans dk_j8) dk_vs1_254
theorem dX9_anew_9 : decode cX9_anew 9 = .ok (.ireturn, 1) := dk_172 ((dQ_X9_anew_0 9).trans dk_j9)
theorem dX9_anew_10 : decode cX9_anew 10 = .ok (.aload_n 0, 1) := dk_42 ((dQ_X9_anew_0 10).trans dk_j10)
theorem dX9_anew_11 : decode cX9_anew 11 = .ok (.getfield 9, 3) := dk_180 ((dQ_X9_anew_0 11).trans dk_j11) ((dQ_X9_anew_0 12).trans dk_j12) ((dQ_X9_anew_0 13).trans dk_j13) dk_vu2_0_9
theorem dX9_anew_14 : decode cX9_anew 14 = .ok (.bipush 9, 2) := dk_16 ((dQ_X9_anew_0 14).trans dk_j14) ((dQ_X9_anew_0 15).trans dk_j15) dk_vs1_9
theorem dX9_anew_16 : decode cX9_anew 16 = .ok (.iaload, 1) := dk_46 ((dQ_X9_anew_1 0).trans dk_j0)
theorem dX9_anew_17 : decode cX9_anew 17 = .ok (.istore_n 1, 1) := dk_60 ((dQ_X9_anew_1 1).trans dk_j1)
theorem dX9_anew_18 : decode cX9_anew 18 = .ok (.aload_n 0, 1) := dk_42 ((dQ_X9_anew_1 2).trans dk_j2)
theorem dX9_anew_19 : decode cX9_anew 19 = .ok (.getfield 9, 3) := dk_180 ((dQ_X9_anew_1 3).trans dk_j3) ((dQ_X9_anew_1 4).trans dk_j4) ((dQ_X9_anew_1 5).trans dk_j5) dk_vu2_0_9
theorem dX9_anew_22 : decode cX9_anew 22 = .ok (.bipush 9, 2) := dk_16 ((dQ_X9_anew_1 6).trans dk_j6) ((dQ_X9_anew_1 7).trans dk_j7) dk_vs1_9
theorem dX9_anew_24 : decode cX9_anew 24 = .ok (.iconst 0, 1) := dk_3 ((dQ_X9_anew_1 8).trans dk_j8)
theorem dX9_anew_25 : decode cX9_anew 25 = .ok (.iastore, 1) := dk_79 ((dQ_X9_anew_1 9).trans dk_j9)
theorem dX9_anew_26 : decode cX9_anew 26 = .ok (.iload_n 1, 1) := dk_27 ((dQ_X9_anew_1 10).trans dk_j10)
theorem dX9_anew_27 : decode cX9_anew 27 = .ok (.ireturn, 1) := dk_172 ((dQ_X9_anew_1 11).trans dk_j11)
def dT_X9_goDrawn_5 : List UInt8 := (0x01 : UInt8) :: (0xa7 : UInt8) :: (0xff : UInt8) :: (0xbb : UInt8) :: (0x2a : UInt8) :: (0xb6 : UInt8) :: (0x01 : UInt8) :: (0x0a : UInt8) :: (0x15 : UInt8) :: (0x05 : UInt8) :: (0xac : UInt8) :: []
def dT_X9_goDrawn_4 : List UInt8 := (0x5c : UInt8) :: (0x2e : UInt8) :: (0x06 : UInt8) :: (0x60 : UInt8) :: (0x4f : UInt8) :: (0x15 : UInt8) :: (0x05 : UInt8) :: (0x04 : UInt8) :: (0x15 : UInt8) :: (0x06 : UInt8) :: (0x78 : UInt8) :: (0x80 : UInt8) :: (0x36 : UInt8) :: (0x05 : UInt8) :: (0x84 : UInt8) :: (0x06 : UInt8) :: dT_X9_goDrawn_5
def dT_X9_goDrawn_3 : List UInt8 := (0x07 : UInt8) :: (0x2e : UInt8) :: (0x85 : UInt8) :: (0x94 : UInt8) :: (0x9b : UInt8) :: (0x00 : UInt8) :: (0x06 : UInt8) :: (0xa7 : UInt8) :: (0x00 : UInt8) :: (0x17 : UInt8) :: (0x2a : UInt8) :: (0xb4 : UInt8) :: (0x00 : UInt8) :: (0x22 : UInt8) :: (0x15 : UInt8) :: (0x06 : UInt8) :: dT_X9_goDrawn_4
def dT_X9_goDrawn_2 : List UInt8 := (0xb1 : UInt8) :: (0x71 : UInt8) :: (0x42 : UInt8) :: (0x21 : UInt8) :: (0x14 : UInt8) :: (0x01 : UInt8) :: (0xb3 : UInt8) :: (0x6d : UInt8) :: (0x14 : UInt8) :: (0x01 : UInt8) :: (0xb5 : UInt8) :: (0x71 : UInt8) :: (0x2a : UInt8) :: (0xb4 : UInt8) :: (0x00 : UInt8) :: (0x09 : UInt8) :: dT_X9_goDrawn_3
def dT_X9_goDrawn_1 : List UInt8 := (0x00 : UInt8) :: (0xf9 : UInt8) :: (0xa2 : UInt8) :: (0x00 : UInt8) :: (0x42 : UInt8) :: (0x14 : UInt8) :: (0x01 : UInt8) :: (0xad : UInt8) :: (0x21 : UInt8) :: (0x69 : UInt8) :: (0x14 : UInt8) :: (0x01 : UInt8) :: (0xaf : UInt8) :: (0x61 : UInt8) :: (0x14 : UInt8) :: (0x01 : UInt8) :: dT_X9_goDrawn_2
def dT_X9_goDrawn_0 : List UInt8 := (0x2a : UInt8) :: (0xb6 : UInt8) :: (0x01 : UInt8) :: (0x07 : UInt8) :: (0x1f : UInt8) :: (0x42 : UInt8) :: (0x03 : UInt8) :: (0x36 : UInt8) :: (0x05 : UInt8) :: (0x03 : UInt8) :: (0x36 : UInt8) :: (0x06 : UInt8) :: (0x15 : UInt8) :: (0x06 : UInt8) :: (0x2a : UInt8) :: (0xb6 : UInt8) :: dT_X9_goDrawn_1
theorem dT_X9_goDrawn : cX9_goDrawn.data.toList = dT_X9_goDrawn_0 := eq_of_beq (show (cX9_goDrawn.data.toList == dT_X9_goDrawn_0) = true by decide +kernel)
theorem dQ_X9_goDrawn_0 : dQ_P cX9_goDrawn 0 dT_X9_goDrawn_0 := fun i => by rw [dT_X9_goDrawn]; rfl
theorem dQ_X9_goDrawn_1 : dQ_P cX9_goDrawn 16 dT_X9_goDrawn_1 := fun i => (dQ_X9_goDrawn_0 (i + 16)).trans dk_t
theorem dQ_X9_goDrawn_2 : dQ_P cX9_goDrawn 32 dT_X9_goDrawn_2 := fun i => (dQ_X9_goDrawn_1 (i + 16)).trans dk_t
theorem dQ_X9_goDrawn_3 : dQ_P cX9_goDrawn 48 dT_X9_goDrawn_3 := fun i => (dQ_X9_goDrawn_2 (i + 16)).trans dk_t
theorem dQ_X9_goDrawn_4 : dQ_P cX9_goDrawn 64 dT_X9_goDrawn_4 := fun i => (dQ_X9_goDrawn_3 (i + 16)).trans dk_t
theorem dQ_X9_goDrawn_5 : dQ_P cX9_goDrawn 80 dT_X9_goDrawn_5 := fun i => (dQ_X9_goDrawn_4 (i + 16)).trans dk_t
theorem dX9_goDrawn_0 : decode cX9_goDrawn 0 = .ok (.aload_n 0, 1) := dk_42 ((dQ_X9_goDrawn_0 0).trans dk_j0)
theorem dX9_goDrawn_1 : decode cX9_goDrawn 1 = .ok (.invokevirtual 263, 3) := dk_182 ((dQ_X9_goDrawn_0 1).trans dk_j1) ((dQ_X9_goDrawn_0 2).trans dk_j2) ((dQ_X9_goDrawn_0 3).trans dk_j3) dk_vu2_1_7
theorem dX9_goDrawn_4 : decode cX9_goDrawn 4 = .ok (.lload_n 1, 1) := dk_31 ((dQ_X9_goDrawn_0 4).trans dk_j4)
theorem dX9_goDrawn_5 : decode cX9_goDrawn 5 = .ok (.lstore_n 3, 1) := dk_66 ((dQ_X9_goDrawn_0 5).trans dk_j5)
theorem dX9_goDrawn_6 : decode cX9_goDrawn 6 = .ok (.iconst 0, 1) := dk_3 ((dQ_X9_goDrawn_0 6).trans dk_j6)
theorem dX9_goDrawn_7 : decode cX9_goDrawn 7 = .ok (.istore 5, 2) := dk_54 ((dQ_X9_goDrawn_0 7).trans dk_j7) ((dQ_X9_goDrawn_0 8).trans dk_j8) dk_vu1_5
theorem dX9_goDrawn_9 : decode cX9_goDrawn 9 = .ok (.iconst 0, 1) := dk_3 ((dQ_X9_goDrawn_0 9).trans dk_j9)
theorem dX9_goDrawn_10 : decode cX9_goDrawn 10 = .ok (.istore 6, 2) := dk_54 ((dQ_X9_goDrawn_0 10).trans dk_j10) ((dQ_X9_goDrawn_0 11).trans dk_j11) dk_vu1_6
theorem dX9_goDrawn_12 : decode cX9_goDrawn 12 = .ok (.iload 6, 2) := dk_21 ((dQ_X9_goDrawn_0 12).trans dk_j12) ((dQ_X9_goDrawn_0 13).trans dk_j13) dk_vu1_6
theorem dX9_goDrawn_14 : decode cX9_goDrawn 14 = .ok (.aload_n 0, 1) := dk_42 ((dQ_X9_goDrawn_0 14).trans dk_j14)
theorem dX9_goDrawn_15 : decode cX9_goDrawn 15 = .ok (.invokevirtual 249, 3) := dk_182 ((dQ_X9_goDrawn_0 15).trans dk_j15) ((dQ_X9_goDrawn_1 0).trans dk_j0) ((dQ_X9_goDrawn_1 1).trans dk_j1) dk_vu2_0_249
theorem dk_vs2_0_66 : Reader.signed 16 ((0x00 : UInt8).toNat * 256 + (0x42 : UInt8).toNat) = (66 : Int) := by decide +kernel
theorem dX9_goDrawn_18 : decode cX9_goDrawn 18 = .ok (.if_icmp .ge 66, 3) := dk_162 ((dQ_X9_goDrawn_1 2).trans dk_j2) ((dQ_X9_goDrawn_1 3).trans dk_j3) ((dQ_X9_goDrawn_1 4).trans dk_j4) dk_vs2_0_66
theorem dk_vu2_1_173 : (0x01 : UInt8).toNat * 256 + (0xad : UInt8).toNat = (429 : Nat) := by decide +kernel
theorem dX9_goDrawn_21 : decode cX9_goDrawn 21 = .ok (.ldc2_w 429, 3) := dk_20 ((dQ_X9_goDrawn_1 5).trans dk_j5) ((dQ_X9_goDrawn_1 6).trans dk_j6) ((dQ_X9_goDrawn_1 7).trans dk_j7) dk_vu2_1_173
theorem dX9_goDrawn_24 : decode cX9_goDrawn 24 = .ok (.lload_n 3, 1) := dk_33 ((dQ_X9_goDrawn_1 8).trans dk_j8)
theorem dX9_goDrawn_25 : decode cX9_goDrawn 25 = .ok (.lmul, 1) := dk_105 ((dQ_X9_goDrawn_1 9).trans dk_j9)
theorem dk_vu2_1_175 : (0x01 : UInt8).toNat * 256 + (0xaf : UInt8).toNat = (431 : Nat) := by decide +kernel
theorem dX9_goDrawn_26 : decode cX9_goDrawn 26 = .ok (.ldc2_w 431, 3) := dk_20 ((dQ_X9_goDrawn_1 10).trans dk_j10) ((dQ_X9_goDrawn_1 11).trans dk_j11) ((dQ_X9_goDrawn_1 12).trans dk_j12) dk_vu2_1_175
theorem dX9_goDrawn_29 : decode cX9_goDrawn 29 = .ok (.ladd, 1) := dk_97 ((dQ_X9_goDrawn_1 13).trans dk_j13)
theorem dk_vu2_1_177 : (0x01 : UInt8).toNat * 256 + (0xb1 : UInt8).toNat = (433 : Nat) := by decide +kernel
theorem dX9_goDrawn_30 : decode cX9_goDrawn 30 = .ok (.ldc2_w 433, 3) := dk_20 ((dQ_X9_goDrawn_1 14).trans dk_j14) ((dQ_X9_goDrawn_1 15).trans dk_j15) ((dQ_X9_goDrawn_2 0).trans dk_j0) dk_vu2_1_177
theorem dX9_goDrawn_33 : decode cX9_goDrawn 33 = .ok (.lrem, 1) := dk_113 ((dQ_X9_goDrawn_2 1).trans dk_j1)
theorem dX9_goDrawn_34 : decode cX9_goDrawn 34 = .ok (.lstore_n 3, 1) := dk_66 ((dQ_X9_goDrawn_2 2).trans dk_j2)
theorem dX9_goDrawn_35 : decode cX9_goDrawn 35 = .ok (.lload_n 3, 1) := dk_33 ((dQ_X9_goDrawn_2 3).trans dk_j3)
theorem dk_vu2_1_179 : (0x01 : UInt8).toNat * 256 + (0xb3 : UInt8).toNat = (435 : Nat) := by decide +kernel
theorem dX9_goDrawn_36 : decode cX9_goDrawn 36 = .ok (.ldc2_w 435, 3) := dk_20 ((dQ_X9_goDrawn_2 4).trans dk_j4) ((dQ_X9_goDrawn_2 5).trans dk_j5) ((dQ_X9_goDrawn_2 6).trans dk_j6) dk_vu2_1_179
theorem dX9_goDrawn_39 : decode cX9_goDrawn 39 = .ok (.ldiv, 1) := dk_109 ((dQ_X9_goDrawn_2 7).trans dk_j7)
theorem dk_vu2_1_181 : (0x01 : UInt8).toNat * 256 + (0xb5 : UInt8).toNat = (437 : Nat) := by decide +kernel
theorem dX9_goDrawn_40 : decode cX9_goDrawn 40 = .ok (.ldc2_w 437, 3) := dk_20 ((dQ_X9_goDrawn_2 8).trans dk_j8) ((dQ_X9_goDrawn_2 9).trans dk_j9) ((dQ_X9_goDrawn_2 10).trans dk_j10) dk_vu2_1_181
theorem dX9_goDrawn_43 : decode cX9_goDrawn 43 = .ok (.lrem, 1) := dk_113 ((dQ_X9_goDrawn_2 11).trans dk_j11)
theorem dX9_goDrawn_44 : decode cX9_goDrawn 44 = .ok (.aload_n 0, 1) := dk_42 ((dQ_X9_goDrawn_2 12).trans dk_j12)
theorem dX9_goDrawn_45 : decode cX9_goDrawn 45 = .ok (.getfield 9, 3) := dk_180 ((dQ_X9_goDrawn_2 13).trans dk_j13) ((dQ_X9_goDrawn_2 14).trans dk_j14) ((dQ_X9_goDrawn_2 15).trans dk_j15) dk_vu2_0_9
theorem dX9_goDrawn_48 : decode cX9_goDrawn 48 = .ok (.iconst 4, 1) := dk_7 ((dQ_X9_goDrawn_3 0).trans dk_j0)
theorem dX9_goDrawn_49 : decode cX9_goDrawn 49 = .ok (.iaload, 1) := dk_46 ((dQ_X9_goDrawn_3 1).trans dk_j1)
theorem dX9_goDrawn_50 : decode cX9_goDrawn 50 = .ok (.i2l, 1) := dk_133 ((dQ_X9_goDrawn_3 2).trans dk_j2)
theorem dX9_goDrawn_51 : decode cX9_goDrawn 51 = .ok (.lcmp, 1) := dk_148 ((dQ_X9_goDrawn_3 3).trans dk_j3)
theorem dX9_goDrawn_52 : decode cX9_goDrawn 52 = .ok (.ifCond .lt 6, 3) := dk_155 ((dQ_X9_goDrawn_3 4).trans dk_j4) ((dQ_X9_goDrawn_3 5).trans dk_j5) ((dQ_X9_goDrawn_3 6).trans dk_j6) dk_vs2_0_6
theorem dX9_goDrawn_55 : decode cX9_goDrawn 55 = .ok (.goto 23, 3) := dk_167 ((dQ_X9_goDrawn_3 7).trans dk_j7) ((dQ_X9_goDrawn_3 8).trans dk_j8) ((dQ_X9_goDrawn_3 9).trans dk_j9) dk_vs2_0_23
theorem dX9_goDrawn_58 : decode cX9_goDrawn 58 = .ok (.aload_n 0, 1) := dk_42 ((dQ_X9_goDrawn_3 10).trans dk_j10)
theorem dX9_goDrawn_59 : decode cX9_goDrawn 59 = .ok (.getfield 34, 3) := dk_180 ((dQ_X9_goDrawn_3 11).trans dk_j11) ((dQ_X9_goDrawn_3 12).trans dk_j12) ((dQ_X9_goDrawn_3 13).trans dk_j13) dk_vu2_0_34
theorem dX9_goDrawn_62 : decode cX9_goDrawn 62 = .ok (.iload 6, 2) := dk_21 ((dQ_X9_goDrawn_3 14).trans dk_j14) ((dQ_X9_goDrawn_3 15).trans dk_j15) dk_vu1_6
theorem dX9_goDrawn_64 : decode cX9_goDrawn 64 = .ok (.dup2, 1) := dk_92 ((dQ_X9_goDrawn_4 0).trans dk_j0)
theorem dX9_goDrawn_65 : decode cX9_goDrawn 65 = .ok (.iaload, 1) := dk_46 ((dQ_X9_goDrawn_4 1).trans dk_j1)
theorem dX9_goDrawn_66 : decode cX9_goDrawn 66 = .ok (.iconst 3, 1) := dk_6 ((dQ_X9_goDrawn_4 2).trans dk_j2)
theorem dX9_goDrawn_67 : decode cX9_goDrawn 67 = .ok (.iadd, 1) := dk_96 ((dQ_X9_goDrawn_4 3).trans dk_j3)
theorem dX9_goDrawn_68 : decode cX9_goDrawn 68 = .ok (.iastore, 1) := dk_79 ((dQ_X9_goDrawn_4 4).trans dk_j4)
theorem dX9_goDrawn_69 : decode cX9_goDrawn 69 = .ok (.iload 5, 2) := dk_21 ((dQ_X9_goDrawn_4 5).trans dk_j5) ((dQ_X9_goDrawn_4 6).trans dk_j6) dk_vu1_5
theorem dX9_goDrawn_71 : decode cX9_goDrawn 71 = .ok (.iconst 1, 1) := dk_4 ((dQ_X9_goDrawn_4 7).trans dk_j7)
theorem dX9_goDrawn_72 : decode cX9_goDrawn 72 = .ok (.iload 6, 2) := dk_21 ((dQ_X9_goDrawn_4 8).trans dk_j8) ((dQ_X9_goDrawn_4 9).trans dk_j9) dk_vu1_6
theorem dX9_goDrawn_74 : decode cX9_goDrawn 74 = .ok (.ishl, 1) := dk_120 ((dQ_X9_goDrawn_4 10).trans dk_j10)
theorem dX9_goDrawn_75 : decode cX9_goDrawn 75 = .ok (.ior, 1) := dk_128 ((dQ_X9_goDrawn_4 11).trans dk_j11)
theorem dX9_goDrawn_76 : decode cX9_goDrawn 76 = .ok (.istore 5, 2) := dk_54 ((dQ_X9_goDrawn_4 12).trans dk_j12) ((dQ_X9_goDrawn_4 13).trans dk_j13) dk_vu1_5
theorem dX9_goDrawn_78 : decode cX9_goDrawn 78 = .ok (.iinc 6 1, 3) := dk_132 ((dQ_X9_goDrawn_4 14).trans dk_j14) ((dQ_X9_goDrawn_4 15).trans dk_j15) ((dQ_X9_goDrawn_5 0).trans dk_j0) dk_vu1_6 dk_vs1_1
theorem dk_vs2_255_187 : Reader.signed 16 ((0xff : UInt8).toNat * 256 + (0xbb : UInt8).toNat) = (-69 : Int) := by decide +kernel
theorem dX9_goDrawn_81 : decode cX9_goDrawn 81 = .ok (.goto (-69), 3) := dk_167 ((dQ_X9_goDrawn_5 1).trans dk_j1) ((dQ_X9_goDrawn_5 2).trans dk_j2) ((dQ_X9_goDrawn_5 3).trans dk_j3) dk_vs2_255_187
theorem dX9_goDrawn_84 : decode cX9_goDrawn 84 = .ok (.aload_n 0, 1) := dk_42 ((dQ_X9_goDrawn_5 4).trans dk_j4)
theorem dX9_goDrawn_85 : decode cX9_goDrawn 85 = .ok (.invokevirtual 266, 3) := dk_182 ((dQ_X9_goDrawn_5 5).trans dk_j5) ((dQ_X9_goDrawn_5 6).trans dk_j6) ((dQ_X9_goDrawn_5 7).trans dk_j7) dk_vu2_1_10
theorem dX9_goDrawn_88 : decode cX9_goDrawn 88 = .ok (.iload 5, 2) := dk_21 ((dQ_X9_goDrawn_5 8).trans dk_j8) ((dQ_X9_goDrawn_5 9).trans dk_j9) dk_vu1_5
theorem dX9_goDrawn_90 : decode cX9_goDrawn 90 = .ok (.ireturn, 1) := dk_172 ((dQ_X9_goDrawn_5 10).trans dk_j10)
def dT_X9_isSeed_0 : List UInt8 := (0x1a : UInt8) :: (0x85 : UInt8) :: (0x09 : UInt8) :: (0x14 : UInt8) :: (0x01 : UInt8) :: (0xb7 : UInt8) :: (0xb8 : UInt8) :: (0x00 : UInt8) :: (0x5e : UInt8) :: (0xac : UInt8) :: []
theorem dT_X9_isSeed : cX9_isSeed.data.toList = dT_X9_isSeed_0 := eq_of_beq (show (cX9_isSeed.data.toList == dT_X9_isSeed_0) = true by decide +kernel)
theorem dQ_X9_isSeed_0 : dQ_P cX9_isSeed 0 dT_X9_isSeed_0 := fun i => by rw [dT_X9_isSeed]; rfl
theorem dX9_isSeed_0 : decode cX9_isSeed 0 = .ok (.iload_n 0, 1) := dk_26 ((dQ_X9_isSeed_0 0).trans dk_j0)
theorem dX9_isSeed_1 : decode cX9_isSeed 1 = .ok (.i2l, 1) := dk_133 ((dQ_X9_isSeed_0 1).trans dk_j1)
theorem dX9_isSeed_2 : decode cX9_isSeed 2 = .ok (.lconst 0, 1) := dk_9 ((dQ_X9_isSeed_0 2).trans dk_j2)
theorem dk_vu2_1_183 : (0x01 : UInt8).toNat * 256 + (0xb7 : UInt8).toNat = (439 : Nat) := by decide +kernel
theorem dX9_isSeed_3 : decode cX9_isSeed 3 = .ok (.ldc2_w 439, 3) := dk_20 ((dQ_X9_isSeed_0 3).trans dk_j3) ((dQ_X9_isSeed_0 4).trans dk_j4) ((dQ_X9_isSeed_0 5).trans dk_j5) dk_vu2_1_183
theorem dX9_isSeed_6 : decode cX9_isSeed 6 = .ok (.invokestatic 94, 3) := dk_184 ((dQ_X9_isSeed_0 6).trans dk_j6) ((dQ_X9_isSeed_0 7).trans dk_j7) ((dQ_X9_isSeed_0 8).trans dk_j8) dk_vu2_0_94
theorem dX9_isSeed_9 : decode cX9_isSeed 9 = .ok (.ireturn, 1) := dk_172 ((dQ_X9_isSeed_0 9).trans dk_j9)
def dT_X9_drawn_3 : List UInt8 := (0x0a : UInt8) :: (0x2a : UInt8) :: (0xb6 : UInt8) :: (0x01 : UInt8) :: (0x22 : UInt8) :: (0xa7 : UInt8) :: (0x00 : UInt8) :: (0x07 : UInt8) :: (0x2a : UInt8) :: (0xb6 : UInt8) :: (0x01 : UInt8) :: (0x49 : UInt8) :: (0xac : UInt8) :: []
def dT_X9_drawn_2 : List UInt8 := (0xb6 : UInt8) :: (0x01 : UInt8) :: (0xbc : UInt8) :: (0x3e : UInt8) :: (0x1c : UInt8) :: (0x9a : UInt8) :: (0x00 : UInt8) :: (0x07 : UInt8) :: (0x1d : UInt8) :: (0xa7 : UInt8) :: (0x00 : UInt8) :: (0x13 : UInt8) :: (0x1c : UInt8) :: (0x04 : UInt8) :: (0xa0 : UInt8) :: (0x00 : UInt8) :: dT_X9_drawn_3
def dT_X9_drawn_1 : List UInt8 := (0x09 : UInt8) :: (0x14 : UInt8) :: (0x00 : UInt8) :: (0x5c : UInt8) :: (0xb8 : UInt8) :: (0x00 : UInt8) :: (0x5e : UInt8) :: (0x9a : UInt8) :: (0x00 : UInt8) :: (0x06 : UInt8) :: (0x10 : UInt8) :: (0xfe : UInt8) :: (0xac : UInt8) :: (0x2a : UInt8) :: (0x1b : UInt8) :: (0x85 : UInt8) :: dT_X9_drawn_2
def dT_X9_drawn_0 : List UInt8 := (0x2a : UInt8) :: (0xb6 : UInt8) :: (0x01 : UInt8) :: (0x0d : UInt8) :: (0x99 : UInt8) :: (0x00 : UInt8) :: (0x16 : UInt8) :: (0x1b : UInt8) :: (0xb8 : UInt8) :: (0x01 : UInt8) :: (0xb9 : UInt8) :: (0x99 : UInt8) :: (0x00 : UInt8) :: (0x0f : UInt8) :: (0x1c : UInt8) :: (0x85 : UInt8) :: dT_X9_drawn_1
theorem dT_X9_drawn : cX9_drawn.data.toList = dT_X9_drawn_0 := eq_of_beq (show (cX9_drawn.data.toList == dT_X9_drawn_0) = true by decide +kernel)
theorem dQ_X9_drawn_0 : dQ_P cX9_drawn 0 dT_X9_drawn_0 := fun i => by rw [dT_X9_drawn]; rfl
theorem dQ_X9_drawn_1 : dQ_P cX9_drawn 16 dT_X9_drawn_1 := fun i => (dQ_X9_drawn_0 (i + 16)).trans dk_t
theorem dQ_X9_drawn_2 : dQ_P cX9_drawn 32 dT_X9_drawn_2 := fun i => (dQ_X9_drawn_1 (i + 16)).trans dk_t
theorem dQ_X9_drawn_3 : dQ_P cX9_drawn 48 dT_X9_drawn_3 := fun i => (dQ_X9_drawn_2 (i + 16)).trans dk_t
theorem dX9_drawn_0 : decode cX9_drawn 0 = .ok (.aload_n 0, 1) := dk_42 ((dQ_X9_drawn_0 0).trans dk_j0)
theorem dX9_drawn_1 : decode cX9_drawn 1 = .ok (.invokevirtual 269, 3) := dk_182 ((dQ_X9_drawn_0 1).trans dk_j1) ((dQ_X9_drawn_0 2).trans dk_j2) ((dQ_X9_drawn_0 3).trans dk_j3) dk_vu2_1_13
theorem dX9_drawn_4 : decode cX9_drawn 4 = .ok (.ifCond .eq 22, 3) := dk_153 ((dQ_X9_drawn_0 4).trans dk_j4) ((dQ_X9_drawn_0 5).trans dk_j5) ((dQ_X9_drawn_0 6).trans dk_j6) dk_vs2_0_22
theorem dX9_drawn_7 : decode cX9_drawn 7 = .ok (.iload_n 1, 1) := dk_27 ((dQ_X9_drawn_0 7).trans dk_j7)
theorem dk_vu2_1_185 : (0x01 : UInt8).toNat * 256 + (0xb9 : UInt8).toNat = (441 : Nat) := by decide +kernel
theorem dX9_drawn_8 : decode cX9_drawn 8 = .ok (.invokestatic 441, 3) := dk_184 ((dQ_X9_drawn_0 8).trans dk_j8) ((dQ_X9_drawn_0 9).trans dk_j9) ((dQ_X9_drawn_0 10).trans dk_j10) dk_vu2_1_185
theorem dX9_drawn_11 : decode cX9_drawn 11 = .ok (.ifCond .eq 15, 3) := dk_153 ((dQ_X9_drawn_0 11).trans dk_j11) ((dQ_X9_drawn_0 12).trans dk_j12) ((dQ_X9_drawn_0 13).trans dk_j13) dk_vs2_0_15
theorem dX9_drawn_14 : decode cX9_drawn 14 = .ok (.iload_n 2, 1) := dk_28 ((dQ_X9_drawn_0 14).trans dk_j14)
theorem dX9_drawn_15 : decode cX9_drawn 15 = .ok (.i2l, 1) := dk_133 ((dQ_X9_drawn_0 15).trans dk_j15)
theorem dX9_drawn_16 : decode cX9_drawn 16 = .ok (.lconst 0, 1) := dk_9 ((dQ_X9_drawn_1 0).trans dk_j0)
theorem dX9_drawn_17 : decode cX9_drawn 17 = .ok (.ldc2_w 92, 3) := dk_20 ((dQ_X9_drawn_1 1).trans dk_j1) ((dQ_X9_drawn_1 2).trans dk_j2) ((dQ_X9_drawn_1 3).trans dk_j3) dk_vu2_0_92
theorem dX9_drawn_20 : decode cX9_drawn 20 = .ok (.invokestatic 94, 3) := dk_184 ((dQ_X9_drawn_1 4).trans dk_j4) ((dQ_X9_drawn_1 5).trans dk_j5) ((dQ_X9_drawn_1 6).trans dk_j6) dk_vu2_0_94
theorem dX9_drawn_23 : decode cX9_drawn 23 = .ok (.ifCond .ne 6, 3) := dk_154 ((dQ_X9_drawn_1 7).trans dk_j7) ((dQ_X9_drawn_1 8).trans dk_j8) ((dQ_X9_drawn_1 9).trans dk_j9) dk_vs2_0_6
theorem dX9_drawn_26 : decode cX9_drawn 26 = .ok (.bipush (-2), 2) := dk_16 ((dQ_X9_drawn_1 10).trans dk_j10) ((dQ_X9_drawn_1 11).trans dk_j11) dk_vs1_254
theorem dX9_drawn_28 : decode cX9_drawn 28 = .ok (.ireturn, 1) := dk_172 ((dQ_X9_drawn_1 12).trans dk_j12)
theorem dX9_drawn_29 : decode cX9_drawn 29 = .ok (.aload_n 0, 1) := dk_42 ((dQ_X9_drawn_1 13).trans dk_j13)
theorem dX9_drawn_30 : decode cX9_drawn 30 = .ok (.iload_n 1, 1) := dk_27 ((dQ_X9_drawn_1 14).trans dk_j14)
theorem dX9_drawn_31 : decode cX9_drawn 31 = .ok (.i2l, 1) := dk_133 ((dQ_X9_drawn_1 15).trans dk_j15)
theorem dk_vu2_1_188 : (0x01 : UInt8).toNat * 256 + (0xbc : UInt8).toNat = (444 : Nat) := by decide +kernel
theorem dX9_drawn_32 : decode cX9_drawn 32 = .ok (.invokevirtual 444, 3) := dk_182 ((dQ_X9_drawn_2 0).trans dk_j0) ((dQ_X9_drawn_2 1).trans dk_j1) ((dQ_X9_drawn_2 2).trans dk_j2) dk_vu2_1_188
theorem dX9_drawn_35 : decode cX9_drawn 35 = .ok (.istore_n 3, 1) := dk_62 ((dQ_X9_drawn_2 3).trans dk_j3)
theorem dX9_drawn_36 : decode cX9_drawn 36 = .ok (.iload_n 2, 1) := dk_28 ((dQ_X9_drawn_2 4).trans dk_j4)
theorem dX9_drawn_37 : decode cX9_drawn 37 = .ok (.ifCond .ne 7, 3) := dk_154 ((dQ_X9_drawn_2 5).trans dk_j5) ((dQ_X9_drawn_2 6).trans dk_j6) ((dQ_X9_drawn_2 7).trans dk_j7) dk_vs2_0_7
theorem dX9_drawn_40 : decode cX9_drawn 40 = .ok (.iload_n 3, 1) := dk_29 ((dQ_X9_drawn_2 8).trans dk_j8)
theorem dX9_drawn_41 : decode cX9_drawn 41 = .ok (.goto 19, 3) := dk_167 ((dQ_X9_drawn_2 9).trans dk_j9) ((dQ_X9_drawn_2 10).trans dk_j10) ((dQ_X9_drawn_2 11).trans dk_j11) dk_vs2_0_19
theorem dX9_drawn_44 : decode cX9_drawn 44 = .ok (.iload_n 2, 1) := dk_28 ((dQ_X9_drawn_2 12).trans dk_j12)
theorem dX9_drawn_45 : decode cX9_drawn 45 = .ok (.iconst 1, 1) := dk_4 ((dQ_X9_drawn_2 13).trans dk_j13)
theorem dX9_drawn_46 : decode cX9_drawn 46 = .ok (.if_icmp .ne 10, 3) := dk_160 ((dQ_X9_drawn_2 14).trans dk_j14) ((dQ_X9_drawn_2 15).trans dk_j15) ((dQ_X9_drawn_3 0).trans dk_j0) dk_vs2_0_10
theorem dX9_drawn_49 : decode cX9_drawn 49 = .ok (.aload_n 0, 1) := dk_42 ((dQ_X9_drawn_3 1).trans dk_j1)
theorem dX9_drawn_50 : decode cX9_drawn 50 = .ok (.invokevirtual 290, 3) := dk_182 ((dQ_X9_drawn_3 2).trans dk_j2) ((dQ_X9_drawn_3 3).trans dk_j3) ((dQ_X9_drawn_3 4).trans dk_j4) dk_vu2_1_34
theorem dX9_drawn_53 : decode cX9_drawn 53 = .ok (.goto 7, 3) := dk_167 ((dQ_X9_drawn_3 5).trans dk_j5) ((dQ_X9_drawn_3 6).trans dk_j6) ((dQ_X9_drawn_3 7).trans dk_j7) dk_vs2_0_7
theorem dX9_drawn_56 : decode cX9_drawn 56 = .ok (.aload_n 0, 1) := dk_42 ((dQ_X9_drawn_3 8).trans dk_j8)
theorem dX9_drawn_57 : decode cX9_drawn 57 = .ok (.invokevirtual 329, 3) := dk_182 ((dQ_X9_drawn_3 9).trans dk_j9) ((dQ_X9_drawn_3 10).trans dk_j10) ((dQ_X9_drawn_3 11).trans dk_j11) dk_vu2_1_73
theorem dX9_drawn_60 : decode cX9_drawn 60 = .ok (.ireturn, 1) := dk_172 ((dQ_X9_drawn_3 12).trans dk_j12)
def dT_X9_luck_4 : List UInt8 := (0xa7 : UInt8) :: (0x00 : UInt8) :: (0x04 : UInt8) :: (0x03 : UInt8) :: (0x60 : UInt8) :: (0x36 : UInt8) :: (0x04 : UInt8) :: (0x84 : UInt8) :: (0x05 : UInt8) :: (0x01 : UInt8) :: (0xa7 : UInt8) :: (0xff : UInt8) :: (0xda : UInt8) :: (0x15 : UInt8) :: (0x04 : UInt8) :: (0xac : UInt8) :: []
def dT_X9_luck_3 : List UInt8 := (0x61 : UInt8) :: (0xb6 : UInt8) :: (0x01 : UInt8) :: (0xbc : UInt8) :: (0x57 : UInt8) :: (0x15 : UInt8) :: (0x04 : UInt8) :: (0x2a : UInt8) :: (0x1d : UInt8) :: (0xb6 : UInt8) :: (0x01 : UInt8) :: (0x46 : UInt8) :: (0x9e : UInt8) :: (0x00 : UInt8) :: (0x07 : UInt8) :: (0x04 : UInt8) :: dT_X9_luck_4
def dT_X9_luck_2 : List UInt8 := (0x04 : UInt8) :: (0x03 : UInt8) :: (0x36 : UInt8) :: (0x05 : UInt8) :: (0x15 : UInt8) :: (0x05 : UInt8) :: (0x1c : UInt8) :: (0xa2 : UInt8) :: (0x00 : UInt8) :: (0x26 : UInt8) :: (0x2a : UInt8) :: (0x1b : UInt8) :: (0x85 : UInt8) :: (0x15 : UInt8) :: (0x05 : UInt8) :: (0x85 : UInt8) :: dT_X9_luck_3
def dT_X9_luck_1 : List UInt8 := (0x99 : UInt8) :: (0x00 : UInt8) :: (0x0b : UInt8) :: (0x2a : UInt8) :: (0x1d : UInt8) :: (0xb6 : UInt8) :: (0x00 : UInt8) :: (0xe4 : UInt8) :: (0x9a : UInt8) :: (0x00 : UInt8) :: (0x06 : UInt8) :: (0x10 : UInt8) :: (0xfe : UInt8) :: (0xac : UInt8) :: (0x03 : UInt8) :: (0x36 : UInt8) :: dT_X9_luck_2
def dT_X9_luck_0 : List UInt8 := (0x1b : UInt8) :: (0xb8 : UInt8) :: (0x01 : UInt8) :: (0xb9 : UInt8) :: (0x99 : UInt8) :: (0x00 : UInt8) :: (0x17 : UInt8) :: (0x1c : UInt8) :: (0x85 : UInt8) :: (0x0a : UInt8) :: (0x14 : UInt8) :: (0x01 : UInt8) :: (0xc0 : UInt8) :: (0xb8 : UInt8) :: (0x00 : UInt8) :: (0x5e : UInt8) :: dT_X9_luck_1
theorem dT_X9_luck : cX9_luck.data.toList = dT_X9_luck_0 := eq_of_beq (show (cX9_luck.data.toList == dT_X9_luck_0) = true by decide +kernel)
theorem dQ_X9_luck_0 : dQ_P cX9_luck 0 dT_X9_luck_0 := fun i => by rw [dT_X9_luck]; rfl
theorem dQ_X9_luck_1 : dQ_P cX9_luck 16 dT_X9_luck_1 := fun i => (dQ_X9_luck_0 (i + 16)).trans dk_t
theorem dQ_X9_luck_2 : dQ_P cX9_luck 32 dT_X9_luck_2 := fun i => (dQ_X9_luck_1 (i + 16)).trans dk_t
theorem dQ_X9_luck_3 : dQ_P cX9_luck 48 dT_X9_luck_3 := fun i => (dQ_X9_luck_2 (i + 16)).trans dk_t
theorem dQ_X9_luck_4 : dQ_P cX9_luck 64 dT_X9_luck_4 := fun i => (dQ_X9_luck_3 (i + 16)).trans dk_t
theorem dX9_luck_0 : decode cX9_luck 0 = .ok (.iload_n 1, 1) := dk_27 ((dQ_X9_luck_0 0).trans dk_j0)
theorem dX9_luck_1 : decode cX9_luck 1 = .ok (.invokestatic 441, 3) := dk_184 ((dQ_X9_luck_0 1).trans dk_j1) ((dQ_X9_luck_0 2).trans dk_j2) ((dQ_X9_luck_0 3).trans dk_j3) dk_vu2_1_185
theorem dX9_luck_4 : decode cX9_luck 4 = .ok (.ifCond .eq 23, 3) := dk_153 ((dQ_X9_luck_0 4).trans dk_j4) ((dQ_X9_luck_0 5).trans dk_j5) ((dQ_X9_luck_0 6).trans dk_j6) dk_vs2_0_23
theorem dX9_luck_7 : decode cX9_luck 7 = .ok (.iload_n 2, 1) := dk_28 ((dQ_X9_luck_0 7).trans dk_j7)
theorem dX9_luck_8 : decode cX9_luck 8 = .ok (.i2l, 1) := dk_133 ((dQ_X9_luck_0 8).trans dk_j8)
theorem dX9_luck_9 : decode cX9_luck 9 = .ok (.lconst 1, 1) := dk_10 ((dQ_X9_luck_0 9).trans dk_j9)
theorem dk_vu2_1_192 : (0x01 : UInt8).toNat * 256 + (0xc0 : UInt8).toNat = (448 : Nat) := by decide +kernel
theorem dX9_luck_10 : decode cX9_luck 10 = .ok (.ldc2_w 448, 3) := dk_20 ((dQ_X9_luck_0 10).trans dk_j10) ((dQ_X9_luck_0 11).trans dk_j11) ((dQ_X9_luck_0 12).trans dk_j12) dk_vu2_1_192
theorem dX9_luck_13 : decode cX9_luck 13 = .ok (.invokestatic 94, 3) := dk_184 ((dQ_X9_luck_0 13).trans dk_j13) ((dQ_X9_luck_0 14).trans dk_j14) ((dQ_X9_luck_0 15).trans dk_j15) dk_vu2_0_94
theorem dX9_luck_16 : decode cX9_luck 16 = .ok (.ifCond .eq 11, 3) := dk_153 ((dQ_X9_luck_1 0).trans dk_j0) ((dQ_X9_luck_1 1).trans dk_j1) ((dQ_X9_luck_1 2).trans dk_j2) dk_vs2_0_11
theorem dX9_luck_19 : decode cX9_luck 19 = .ok (.aload_n 0, 1) := dk_42 ((dQ_X9_luck_1 3).trans dk_j3)
theorem dX9_luck_20 : decode cX9_luck 20 = .ok (.iload_n 3, 1) := dk_29 ((dQ_X9_luck_1 4).trans dk_j4)
theorem dX9_luck_21 : decode cX9_luck 21 = .ok (.invokevirtual 228, 3) := dk_182 ((dQ_X9_luck_1 5).trans dk_j5) ((dQ_X9_luck_1 6).trans dk_j6) ((dQ_X9_luck_1 7).trans dk_j7) dk_vu2_0_228
theorem dX9_luck_24 : decode cX9_luck 24 = .ok (.ifCond .ne 6, 3) := dk_154 ((dQ_X9_luck_1 8).trans dk_j8) ((dQ_X9_luck_1 9).trans dk_j9) ((dQ_X9_luck_1 10).trans dk_j10) dk_vs2_0_6
theorem dX9_luck_27 : decode cX9_luck 27 = .ok (.bipush (-2), 2) := dk_16 ((dQ_X9_luck_1 11).trans dk_j11) ((dQ_X9_luck_1 12).trans dk_j12) dk_vs1_254
theorem dX9_luck_29 : decode cX9_luck 29 = .ok (.ireturn, 1) := dk_172 ((dQ_X9_luck_1 13).trans dk_j13)
theorem dX9_luck_30 : decode cX9_luck 30 = .ok (.iconst 0, 1) := dk_3 ((dQ_X9_luck_1 14).trans dk_j14)
theorem dX9_luck_31 : decode cX9_luck 31 = .ok (.istore 4, 2) := dk_54 ((dQ_X9_luck_1 15).trans dk_j15) ((dQ_X9_luck_2 0).trans dk_j0) dk_vu1_4
theorem dX9_luck_33 : decode cX9_luck 33 = .ok (.iconst 0, 1) := dk_3 ((dQ_X9_luck_2 1).trans dk_j1)
theorem dX9_luck_34 : decode cX9_luck 34 = .ok (.istore 5, 2) := dk_54 ((dQ_X9_luck_2 2).trans dk_j2) ((dQ_X9_luck_2 3).trans dk_j3) dk_vu1_5
theorem dX9_luck_36 : decode cX9_luck 36 = .ok (.iload 5, 2) := dk_21 ((dQ_X9_luck_2 4).trans dk_j4) ((dQ_X9_luck_2 5).trans dk_j5) dk_vu1_5
theorem dX9_luck_38 : decode cX9_luck 38 = .ok (.iload_n 2, 1) := dk_28 ((dQ_X9_luck_2 6).trans dk_j6)
theorem dX9_luck_39 : decode cX9_luck 39 = .ok (.if_icmp .ge 38, 3) := dk_162 ((dQ_X9_luck_2 7).trans dk_j7) ((dQ_X9_luck_2 8).trans dk_j8) ((dQ_X9_luck_2 9).trans dk_j9) dk_vs2_0_38
theorem dX9_luck_42 : decode cX9_luck 42 = .ok (.aload_n 0, 1) := dk_42 ((dQ_X9_luck_2 10).trans dk_j10)
theorem dX9_luck_43 : decode cX9_luck 43 = .ok (.iload_n 1, 1) := dk_27 ((dQ_X9_luck_2 11).trans dk_j11)
theorem dX9_luck_44 : decode cX9_luck 44 = .ok (.i2l, 1) := dk_133 ((dQ_X9_luck_2 12).trans dk_j12)
theorem dX9_luck_45 : decode cX9_luck 45 = .ok (.iload 5, 2) := dk_21 ((dQ_X9_luck_2 13).trans dk_j13) ((dQ_X9_luck_2 14).trans dk_j14) dk_vu1_5
theorem dX9_luck_47 : decode cX9_luck 47 = .ok (.i2l, 1) := dk_133 ((dQ_X9_luck_2 15).trans dk_j15)
theorem dX9_luck_48 : decode cX9_luck 48 = .ok (.ladd, 1) := dk_97 ((dQ_X9_luck_3 0).trans dk_j0)
theorem dX9_luck_49 : decode cX9_luck 49 = .ok (.invokevirtual 444, 3) := dk_182 ((dQ_X9_luck_3 1).trans dk_j1) ((dQ_X9_luck_3 2).trans dk_j2) ((dQ_X9_luck_3 3).trans dk_j3) dk_vu2_1_188
theorem dX9_luck_52 : decode cX9_luck 52 = .ok (.pop, 1) := dk_87 ((dQ_X9_luck_3 4).trans dk_j4)
theorem dX9_luck_53 : decode cX9_luck 53 = .ok (.iload 4, 2) := dk_21 ((dQ_X9_luck_3 5).trans dk_j5) ((dQ_X9_luck_3 6).trans dk_j6) dk_vu1_4
theorem dX9_luck_55 : decode cX9_luck 55 = .ok (.aload_n 0, 1) := dk_42 ((dQ_X9_luck_3 7).trans dk_j7)
theorem dX9_luck_56 : decode cX9_luck 56 = .ok (.iload_n 3, 1) := dk_29 ((dQ_X9_luck_3 8).trans dk_j8)
theorem dX9_luck_57 : decode cX9_luck 57 = .ok (.invokevirtual 326, 3) := dk_182 ((dQ_X9_luck_3 9).trans dk_j9) ((dQ_X9_luck_3 10).trans dk_j10) ((dQ_X9_luck_3 11).trans dk_j11) dk_vu2_1_70
theorem dX9_luck_60 : decode cX9_luck 60 = .ok (.ifCond .le 7, 3) := dk_158 ((dQ_X9_luck_3 12).trans dk_j12) ((dQ_X9_luck_3 13).trans dk_j13) ((dQ_X9_luck_3 14).trans dk_j14) dk_vs2_0_7
theorem dX9_luck_63 : decode cX9_luck 63 = .ok (.iconst 1, 1) := dk_4 ((dQ_X9_luck_3 15).trans dk_j15)
theorem dX9_luck_64 : decode cX9_luck 64 = .ok (.goto 4, 3) := dk_167 ((dQ_X9_luck_4 0).trans dk_j0) ((dQ_X9_luck_4 1).trans dk_j1) ((dQ_X9_luck_4 2).trans dk_j2) dk_vs2_0_4
theorem dX9_luck_67 : decode cX9_luck 67 = .ok (.iconst 0, 1) := dk_3 ((dQ_X9_luck_4 3).trans dk_j3)
theorem dX9_luck_68 : decode cX9_luck 68 = .ok (.iadd, 1) := dk_96 ((dQ_X9_luck_4 4).trans dk_j4)
theorem dX9_luck_69 : decode cX9_luck 69 = .ok (.istore 4, 2) := dk_54 ((dQ_X9_luck_4 5).trans dk_j5) ((dQ_X9_luck_4 6).trans dk_j6) dk_vu1_4
theorem dX9_luck_71 : decode cX9_luck 71 = .ok (.iinc 5 1, 3) := dk_132 ((dQ_X9_luck_4 7).trans dk_j7) ((dQ_X9_luck_4 8).trans dk_j8) ((dQ_X9_luck_4 9).trans dk_j9) dk_vu1_5 dk_vs1_1
theorem dk_vs2_255_218 : Reader.signed 16 ((0xff : UInt8).toNat * 256 + (0xda : UInt8).toNat) = (-38 : Int) := by decide +kernel
theorem dX9_luck_74 : decode cX9_luck 74 = .ok (.goto (-38), 3) := dk_167 ((dQ_X9_luck_4 10).trans dk_j10) ((dQ_X9_luck_4 11).trans dk_j11) ((dQ_X9_luck_4 12).trans dk_j12) dk_vs2_255_218
theorem dX9_luck_77 : decode cX9_luck 77 = .ok (.iload 4, 2) := dk_21 ((dQ_X9_luck_4 13).trans dk_j13) ((dQ_X9_luck_4 14).trans dk_j14) dk_vu1_4
theorem dX9_luck_79 : decode cX9_luck 79 = .ok (.ireturn, 1) := dk_172 ((dQ_X9_luck_4 15).trans dk_j15)
def dT_X9_rate_3 : List UInt8 := (0x31 : UInt8) :: (0x08 : UInt8) :: (0x1b : UInt8) :: (0x68 : UInt8) :: (0x60 : UInt8) :: (0x07 : UInt8) :: (0x60 : UInt8) :: (0x1c : UInt8) :: (0x4f : UInt8) :: (0x1d : UInt8) :: (0xac : UInt8) :: []
def dT_X9_rate_2 : List UInt8 := (0x06 : UInt8) :: (0x10 : UInt8) :: (0xfb : UInt8) :: (0xac : UInt8) :: (0x2a : UInt8) :: (0x1b : UInt8) :: (0x07 : UInt8) :: (0xb6 : UInt8) :: (0x00 : UInt8) :: (0xea : UInt8) :: (0x3e : UInt8) :: (0x2a : UInt8) :: (0xb4 : UInt8) :: (0x00 : UInt8) :: (0x09 : UInt8) :: (0x10 : UInt8) :: dT_X9_rate_3
def dT_X9_rate_1 : List UInt8 := (0x5e : UInt8) :: (0x9a : UInt8) :: (0x00 : UInt8) :: (0x06 : UInt8) :: (0x10 : UInt8) :: (0xfe : UInt8) :: (0xac : UInt8) :: (0x2a : UInt8) :: (0xb4 : UInt8) :: (0x00 : UInt8) :: (0x09 : UInt8) :: (0x10 : UInt8) :: (0x09 : UInt8) :: (0x2e : UInt8) :: (0x9e : UInt8) :: (0x00 : UInt8) :: dT_X9_rate_2
def dT_X9_rate_0 : List UInt8 := (0x2a : UInt8) :: (0x1b : UInt8) :: (0xb6 : UInt8) :: (0x00 : UInt8) :: (0xe4 : UInt8) :: (0x99 : UInt8) :: (0x00 : UInt8) :: (0x0f : UInt8) :: (0x1c : UInt8) :: (0x85 : UInt8) :: (0x09 : UInt8) :: (0x14 : UInt8) :: (0x01 : UInt8) :: (0xc2 : UInt8) :: (0xb8 : UInt8) :: (0x00 : UInt8) :: dT_X9_rate_1
theorem dT_X9_rate : cX9_rate.data.toList = dT_X9_rate_0 := eq_of_beq (show (cX9_rate.data.toList == dT_X9_rate_0) = true by decide +kernel)
theorem dQ_X9_rate_0 : dQ_P cX9_rate 0 dT_X9_rate_0 := fun i => by rw [dT_X9_rate]; rfl
theorem dQ_X9_rate_1 : dQ_P cX9_rate 16 dT_X9_rate_1 := fun i => (dQ_X9_rate_0 (i + 16)).trans dk_t
theorem dQ_X9_rate_2 : dQ_P cX9_rate 32 dT_X9_rate_2 := fun i => (dQ_X9_rate_1 (i + 16)).trans dk_t
theorem dQ_X9_rate_3 : dQ_P cX9_rate 48 dT_X9_rate_3 := fun i => (dQ_X9_rate_2 (i + 16)).trans dk_t
theorem dX9_rate_0 : decode cX9_rate 0 = .ok (.aload_n 0, 1) := dk_42 ((dQ_X9_rate_0 0).trans dk_j0)
theorem dX9_rate_1 : decode cX9_rate 1 = .ok (.iload_n 1, 1) := dk_27 ((dQ_X9_rate_0 1).trans dk_j1)
theorem dX9_rate_2 : decode cX9_rate 2 = .ok (.invokevirtual 228, 3) := dk_182 ((dQ_X9_rate_0 2).trans dk_j2) ((dQ_X9_rate_0 3).trans dk_j3) ((dQ_X9_rate_0 4).trans dk_j4) dk_vu2_0_228
theorem dX9_rate_5 : decode cX9_rate 5 = .ok (.ifCond .eq 15, 3) := dk_153 ((dQ_X9_rate_0 5).trans dk_j5) ((dQ_X9_rate_0 6).trans dk_j6) ((dQ_X9_rate_0 7).trans dk_j7) dk_vs2_0_15
theorem dX9_rate_8 : decode cX9_rate 8 = .ok (.iload_n 2, 1) := dk_28 ((dQ_X9_rate_0 8).trans dk_j8)
theorem dX9_rate_9 : decode cX9_rate 9 = .ok (.i2l, 1) := dk_133 ((dQ_X9_rate_0 9).trans dk_j9)
theorem dX9_rate_10 : decode cX9_rate 10 = .ok (.lconst 0, 1) := dk_9 ((dQ_X9_rate_0 10).trans dk_j10)
theorem dk_vu2_1_194 : (0x01 : UInt8).toNat * 256 + (0xc2 : UInt8).toNat = (450 : Nat) := by decide +kernel
theorem dX9_rate_11 : decode cX9_rate 11 = .ok (.ldc2_w 450, 3) := dk_20 ((dQ_X9_rate_0 11).trans dk_j11) ((dQ_X9_rate_0 12).trans dk_j12) ((dQ_X9_rate_0 13).trans dk_j13) dk_vu2_1_194
theorem dX9_rate_14 : decode cX9_rate 14 = .ok (.invokestatic 94, 3) := dk_184 ((dQ_X9_rate_0 14).trans dk_j14) ((dQ_X9_rate_0 15).trans dk_j15) ((dQ_X9_rate_1 0).trans dk_j0) dk_vu2_0_94
theorem dX9_rate_17 : decode cX9_rate 17 = .ok (.ifCond .ne 6, 3) := dk_154 ((dQ_X9_rate_1 1).trans dk_j1) ((dQ_X9_rate_1 2).trans dk_j2) ((dQ_X9_rate_1 3).trans dk_j3) dk_vs2_0_6
theorem dX9_rate_20 : decode cX9_rate 20 = .ok (.bipush (-2), 2) := dk_16 ((dQ_X9_rate_1 4).trans dk_j4) ((dQ_X9_rate_1 5).trans dk_j5) dk_vs1_254
theorem dX9_rate_22 : decode cX9_rate 22 = .ok (.ireturn, 1) := dk_172 ((dQ_X9_rate_1 6).trans dk_j6)
theorem dX9_rate_23 : decode cX9_rate 23 = .ok (.aload_n 0, 1) := dk_42 ((dQ_X9_rate_1 7).trans dk_j7)
theorem dX9_rate_24 : decode cX9_rate 24 = .ok (.getfield 9, 3) := dk_180 ((dQ_X9_rate_1 8).trans dk_j8) ((dQ_X9_rate_1 9).trans dk_j9) ((dQ_X9_rate_1 10).trans dk_j10) dk_vu2_0_9
theorem dX9_rate_27 : decode cX9_rate 27 = .ok (.bipush 9, 2) := dk_16 ((dQ_X9_rate_1 11).trans dk_j11) ((dQ_X9_rate_1 12).trans dk_j12) dk_vs1_9
theorem dX9_rate_29 : decode cX9_rate 29 = .ok (.iaload, 1) := dk_46 ((dQ_X9_rate_1 13).trans dk_j13)
theorem dX9_rate_30 : decode cX9_rate 30 = .ok (.ifCond .le 6, 3) := dk_158 ((dQ_X9_rate_1 14).trans dk_j14) ((dQ_X9_rate_1 15).trans dk_j15) ((dQ_X9_rate_2 0).trans dk_j0) dk_vs2_0_6
theorem dX9_rate_33 : decode cX9_rate 33 = .ok (.bipush (-5), 2) := dk_16 ((dQ_X9_rate_2 1).trans dk_j1) ((dQ_X9_rate_2 2).trans dk_j2) dk_vs1_251
theorem dX9_rate_35 : decode cX9_rate 35 = .ok (.ireturn, 1) := dk_172 ((dQ_X9_rate_2 3).trans dk_j3)
theorem dX9_rate_36 : decode cX9_rate 36 = .ok (.aload_n 0, 1) := dk_42 ((dQ_X9_rate_2 4).trans dk_j4)
theorem dX9_rate_37 : decode cX9_rate 37 = .ok (.iload_n 1, 1) := dk_27 ((dQ_X9_rate_2 5).trans dk_j5)
theorem dX9_rate_38 : decode cX9_rate 38 = .ok (.iconst 4, 1) := dk_7 ((dQ_X9_rate_2 6).trans dk_j6)
theorem dX9_rate_39 : decode cX9_rate 39 = .ok (.invokevirtual 234, 3) := dk_182 ((dQ_X9_rate_2 7).trans dk_j7) ((dQ_X9_rate_2 8).trans dk_j8) ((dQ_X9_rate_2 9).trans dk_j9) dk_vu2_0_234
theorem dX9_rate_42 : decode cX9_rate 42 = .ok (.istore_n 3, 1) := dk_62 ((dQ_X9_rate_2 10).trans dk_j10)
theorem dX9_rate_43 : decode cX9_rate 43 = .ok (.aload_n 0, 1) := dk_42 ((dQ_X9_rate_2 11).trans dk_j11)
theorem dX9_rate_44 : decode cX9_rate 44 = .ok (.getfield 9, 3) := dk_180 ((dQ_X9_rate_2 12).trans dk_j12) ((dQ_X9_rate_2 13).trans dk_j13) ((dQ_X9_rate_2 14).trans dk_j14) dk_vu2_0_9
theorem dX9_rate_47 : decode cX9_rate 47 = .ok (.bipush 49, 2) := dk_16 ((dQ_X9_rate_2 15).trans dk_j15) ((dQ_X9_rate_3 0).trans dk_j0) dk_vs1_49
theorem dX9_rate_49 : decode cX9_rate 49 = .ok (.iconst 5, 1) := dk_8 ((dQ_X9_rate_3 1).trans dk_j1)
theorem dX9_rate_50 : decode cX9_rate 50 = .ok (.iload_n 1, 1) := dk_27 ((dQ_X9_rate_3 2).trans dk_j2)
theorem dX9_rate_51 : decode cX9_rate 51 = .ok (.imul, 1) := dk_104 ((dQ_X9_rate_3 3).trans dk_j3)
theorem dX9_rate_52 : decode cX9_rate 52 = .ok (.iadd, 1) := dk_96 ((dQ_X9_rate_3 4).trans dk_j4)
theorem dX9_rate_53 : decode cX9_rate 53 = .ok (.iconst 4, 1) := dk_7 ((dQ_X9_rate_3 5).trans dk_j5)
theorem dX9_rate_54 : decode cX9_rate 54 = .ok (.iadd, 1) := dk_96 ((dQ_X9_rate_3 6).trans dk_j6)
theorem dX9_rate_55 : decode cX9_rate 55 = .ok (.iload_n 2, 1) := dk_28 ((dQ_X9_rate_3 7).trans dk_j7)
theorem dX9_rate_56 : decode cX9_rate 56 = .ok (.iastore, 1) := dk_79 ((dQ_X9_rate_3 8).trans dk_j8)
theorem dX9_rate_57 : decode cX9_rate 57 = .ok (.iload_n 3, 1) := dk_29 ((dQ_X9_rate_3 9).trans dk_j9)
theorem dX9_rate_58 : decode cX9_rate 58 = .ok (.ireturn, 1) := dk_172 ((dQ_X9_rate_3 10).trans dk_j10)
def dT_X9_count_4 : List UInt8 := (0x3d : UInt8) :: (0x84 : UInt8) :: (0x03 : UInt8) :: (0x01 : UInt8) :: (0xa7 : UInt8) :: (0xff : UInt8) :: (0xe6 : UInt8) :: (0x1c : UInt8) :: (0xac : UInt8) :: []
def dT_X9_count_3 : List UInt8 := (0x2a : UInt8) :: (0xb4 : UInt8) :: (0x00 : UInt8) :: (0x4c : UInt8) :: (0x1d : UInt8) :: (0x2e : UInt8) :: (0x02 : UInt8) :: (0xa0 : UInt8) :: (0x00 : UInt8) :: (0x07 : UInt8) :: (0x03 : UInt8) :: (0xa7 : UInt8) :: (0x00 : UInt8) :: (0x04 : UInt8) :: (0x04 : UInt8) :: (0x60 : UInt8) :: dT_X9_count_4
def dT_X9_count_2 : List UInt8 := (0x0c : UInt8) :: (0x9f : UInt8) :: (0x00 : UInt8) :: (0x05 : UInt8) :: (0x02 : UInt8) :: (0xac : UInt8) :: (0x03 : UInt8) :: (0x3d : UInt8) :: (0x03 : UInt8) :: (0x3e : UInt8) :: (0x1d : UInt8) :: (0x07 : UInt8) :: (0xa2 : UInt8) :: (0x00 : UInt8) :: (0x1b : UInt8) :: (0x1c : UInt8) :: dT_X9_count_3
def dT_X9_count_1 : List UInt8 := (0x1b : UInt8) :: (0x2e : UInt8) :: (0xac : UInt8) :: (0x1b : UInt8) :: (0x10 : UInt8) :: (0x0b : UInt8) :: (0xa0 : UInt8) :: (0x00 : UInt8) :: (0x08 : UInt8) :: (0x2a : UInt8) :: (0xb4 : UInt8) :: (0x00 : UInt8) :: (0x64 : UInt8) :: (0xac : UInt8) :: (0x1b : UInt8) :: (0x10 : UInt8) :: dT_X9_count_2
def dT_X9_count_0 : List UInt8 := (0x1b : UInt8) :: (0x85 : UInt8) :: (0x09 : UInt8) :: (0x14 : UInt8) :: (0x01 : UInt8) :: (0xb5 : UInt8) :: (0xb8 : UInt8) :: (0x00 : UInt8) :: (0x5e : UInt8) :: (0x99 : UInt8) :: (0x00 : UInt8) :: (0x0a : UInt8) :: (0x2a : UInt8) :: (0xb4 : UInt8) :: (0x00 : UInt8) :: (0x09 : UInt8) :: dT_X9_count_1
theorem dT_X9_count : cX9_count.data.toList = dT_X9_count_0 := eq_of_beq (show (cX9_count.data.toList == dT_X9_count_0) = true by decide +kernel)
theorem dQ_X9_count_0 : dQ_P cX9_count 0 dT_X9_count_0 := fun i => by rw [dT_X9_count]; rfl
theorem dQ_X9_count_1 : dQ_P cX9_count 16 dT_X9_count_1 := fun i => (dQ_X9_count_0 (i + 16)).trans dk_t
theorem dQ_X9_count_2 : dQ_P cX9_count 32 dT_X9_count_2 := fun i => (dQ_X9_count_1 (i + 16)).trans dk_t
theorem dQ_X9_count_3 : dQ_P cX9_count 48 dT_X9_count_3 := fun i => (dQ_X9_count_2 (i + 16)).trans dk_t
theorem dQ_X9_count_4 : dQ_P cX9_count 64 dT_X9_count_4 := fun i => (dQ_X9_count_3 (i + 16)).trans dk_t
theorem dX9_count_0 : decode cX9_count 0 = .ok (.iload_n 1, 1) := dk_27 ((dQ_X9_count_0 0).trans dk_j0)
theorem dX9_count_1 : decode cX9_count 1 = .ok (.i2l, 1) := dk_133 ((dQ_X9_count_0 1).trans dk_j1)
theorem dX9_count_2 : decode cX9_count 2 = .ok (.lconst 0, 1) := dk_9 ((dQ_X9_count_0 2).trans dk_j2)
theorem dX9_count_3 : decode cX9_count 3 = .ok (.ldc2_w 437, 3) := dk_20 ((dQ_X9_count_0 3).trans dk_j3) ((dQ_X9_count_0 4).trans dk_j4) ((dQ_X9_count_0 5).trans dk_j5) dk_vu2_1_181
theorem dX9_count_6 : decode cX9_count 6 = .ok (.invokestatic 94, 3) := dk_184 ((dQ_X9_count_0 6).trans dk_j6) ((dQ_X9_count_0 7).trans dk_j7) ((dQ_X9_count_0 8).trans dk_j8) dk_vu2_0_94
theorem dX9_count_9 : decode cX9_count 9 = .ok (.ifCond .eq 10, 3) := dk_153 ((dQ_X9_count_0 9).trans dk_j9) ((dQ_X9_count_0 10).trans dk_j10) ((dQ_X9_count_0 11).trans dk_j11) dk_vs2_0_10
theorem dX9_count_12 : decode cX9_count 12 = .ok (.aload_n 0, 1) := dk_42 ((dQ_X9_count_0 12).trans dk_j12)
theorem dX9_count_13 : decode cX9_count 13 = .ok (.getfield 9, 3) := dk_180 ((dQ_X9_count_0 13).trans dk_j13) ((dQ_X9_count_0 14).trans dk_j14) ((dQ_X9_count_0 15).trans dk_j15) dk_vu2_0_9
theorem dX9_count_16 : decode cX9_count 16 = .ok (.iload_n 1, 1) := dk_27 ((dQ_X9_count_1 0).trans dk_j0)
theorem dX9_count_17 : decode cX9_count 17 = .ok (.iaload, 1) := dk_46 ((dQ_X9_count_1 1).trans dk_j1)
theorem dX9_count_18 : decode cX9_count 18 = .ok (.ireturn, 1) := dk_172 ((dQ_X9_count_1 2).trans dk_j2)
theorem dX9_count_19 : decode cX9_count 19 = .ok (.iload_n 1, 1) := dk_27 ((dQ_X9_count_1 3).trans dk_j3)
theorem dX9_count_20 : decode cX9_count 20 = .ok (.bipush 11, 2) := dk_16 ((dQ_X9_count_1 4).trans dk_j4) ((dQ_X9_count_1 5).trans dk_j5) dk_vs1_11
theorem dX9_count_22 : decode cX9_count 22 = .ok (.if_icmp .ne 8, 3) := dk_160 ((dQ_X9_count_1 6).trans dk_j6) ((dQ_X9_count_1 7).trans dk_j7) ((dQ_X9_count_1 8).trans dk_j8) dk_vs2_0_8
theorem dX9_count_25 : decode cX9_count 25 = .ok (.aload_n 0, 1) := dk_42 ((dQ_X9_count_1 9).trans dk_j9)
theorem dX9_count_26 : decode cX9_count 26 = .ok (.getfield 100, 3) := dk_180 ((dQ_X9_count_1 10).trans dk_j10) ((dQ_X9_count_1 11).trans dk_j11) ((dQ_X9_count_1 12).trans dk_j12) dk_vu2_0_100
theorem dX9_count_29 : decode cX9_count 29 = .ok (.ireturn, 1) := dk_172 ((dQ_X9_count_1 13).trans dk_j13)
theorem dX9_count_30 : decode cX9_count 30 = .ok (.iload_n 1, 1) := dk_27 ((dQ_X9_count_1 14).trans dk_j14)
theorem dk_vs1_12 : Reader.signed 8 (0x0c : UInt8).toNat = (12 : Int) := by decide +kernel
theorem dX9_count_31 : decode cX9_count 31 = .ok (.bipush 12, 2) := dk_16 ((dQ_X9_count_1 15).trans dk_j15) ((dQ_X9_count_2 0).trans dk_j0) dk_vs1_12
theorem dX9_count_33 : decode cX9_count 33 = .ok (.if_icmp .eq 5, 3) := dk_159 ((dQ_X9_count_2 1).trans dk_j1) ((dQ_X9_count_2 2).trans dk_j2) ((dQ_X9_count_2 3).trans dk_j3) dk_vs2_0_5
theorem dX9_count_36 : decode cX9_count 36 = .ok (.iconst (-1), 1) := dk_2 ((dQ_X9_count_2 4).trans dk_j4)
theorem dX9_count_37 : decode cX9_count 37 = .ok (.ireturn, 1) := dk_172 ((dQ_X9_count_2 5).trans dk_j5)
theorem dX9_count_38 : decode cX9_count 38 = .ok (.iconst 0, 1) := dk_3 ((dQ_X9_count_2 6).trans dk_j6)
theorem dX9_count_39 : decode cX9_count 39 = .ok (.istore_n 2, 1) := dk_61 ((dQ_X9_count_2 7).trans dk_j7)
theorem dX9_count_40 : decode cX9_count 40 = .ok (.iconst 0, 1) := dk_3 ((dQ_X9_count_2 8).trans dk_j8)
theorem dX9_count_41 : decode cX9_count 41 = .ok (.istore_n 3, 1) := dk_62 ((dQ_X9_count_2 9).trans dk_j9)
theorem dX9_count_42 : decode cX9_count 42 = .ok (.iload_n 3, 1) := dk_29 ((dQ_X9_count_2 10).trans dk_j10)
theorem dX9_count_43 : decode cX9_count 43 = .ok (.iconst 4, 1) := dk_7 ((dQ_X9_count_2 11).trans dk_j11)
theorem dX9_count_44 : decode cX9_count 44 = .ok (.if_icmp .ge 27, 3) := dk_162 ((dQ_X9_count_2 12).trans dk_j12) ((dQ_X9_count_2 13).trans dk_j13) ((dQ_X9_count_2 14).trans dk_j14) dk_vs2_0_27
theorem dX9_count_47 : decode cX9_count 47 = .ok (.iload_n 2, 1) := dk_28 ((dQ_X9_count_2 15).trans dk_j15)
theorem dX9_count_48 : decode cX9_count 48 = .ok (.aload_n 0, 1) := dk_42 ((dQ_X9_count_3 0).trans dk_j0)
theorem dX9_count_49 : decode cX9_count 49 = .ok (.getfield 76, 3) := dk_180 ((dQ_X9_count_3 1).trans dk_j1) ((dQ_X9_count_3 2).trans dk_j2) ((dQ_X9_count_3 3).trans dk_j3) dk_vu2_0_76
theorem dX9_count_52 : decode cX9_count 52 = .ok (.iload_n 3, 1) := dk_29 ((dQ_X9_count_3 4).trans dk_j4)
theorem dX9_count_53 : decode cX9_count 53 = .ok (.iaload, 1) := dk_46 ((dQ_X9_count_3 5).trans dk_j5)
theorem dX9_count_54 : decode cX9_count 54 = .ok (.iconst (-1), 1) := dk_2 ((dQ_X9_count_3 6).trans dk_j6)
theorem dX9_count_55 : decode cX9_count 55 = .ok (.if_icmp .ne 7, 3) := dk_160 ((dQ_X9_count_3 7).trans dk_j7) ((dQ_X9_count_3 8).trans dk_j8) ((dQ_X9_count_3 9).trans dk_j9) dk_vs2_0_7
theorem dX9_count_58 : decode cX9_count 58 = .ok (.iconst 0, 1) := dk_3 ((dQ_X9_count_3 10).trans dk_j10)
theorem dX9_count_59 : decode cX9_count 59 = .ok (.goto 4, 3) := dk_167 ((dQ_X9_count_3 11).trans dk_j11) ((dQ_X9_count_3 12).trans dk_j12) ((dQ_X9_count_3 13).trans dk_j13) dk_vs2_0_4
theorem dX9_count_62 : decode cX9_count 62 = .ok (.iconst 1, 1) := dk_4 ((dQ_X9_count_3 14).trans dk_j14)
theorem dX9_count_63 : decode cX9_count 63 = .ok (.iadd, 1) := dk_96 ((dQ_X9_count_3 15).trans dk_j15)
theorem dX9_count_64 : decode cX9_count 64 = .ok (.istore_n 2, 1) := dk_61 ((dQ_X9_count_4 0).trans dk_j0)
theorem dX9_count_65 : decode cX9_count 65 = .ok (.iinc 3 1, 3) := dk_132 ((dQ_X9_count_4 1).trans dk_j1) ((dQ_X9_count_4 2).trans dk_j2) ((dQ_X9_count_4 3).trans dk_j3) dk_vu1_3 dk_vs1_1
theorem dX9_count_68 : decode cX9_count 68 = .ok (.goto (-26), 3) := dk_167 ((dQ_X9_count_4 4).trans dk_j4) ((dQ_X9_count_4 5).trans dk_j5) ((dQ_X9_count_4 6).trans dk_j6) dk_vs2_255_230
theorem dX9_count_71 : decode cX9_count 71 = .ok (.iload_n 2, 1) := dk_28 ((dQ_X9_count_4 7).trans dk_j7)
theorem dX9_count_72 : decode cX9_count 72 = .ok (.ireturn, 1) := dk_172 ((dQ_X9_count_4 8).trans dk_j8)
def dT_X9_isSlot_0 : List UInt8 := (0x1a : UInt8) :: (0x85 : UInt8) :: (0x09 : UInt8) :: (0x14 : UInt8) :: (0x00 : UInt8) :: (0x62 : UInt8) :: (0xb8 : UInt8) :: (0x00 : UInt8) :: (0x5e : UInt8) :: (0xac : UInt8) :: []
theorem dT_X9_isSlot : cX9_isSlot.data.toList = dT_X9_isSlot_0 := eq_of_beq (show (cX9_isSlot.data.toList == dT_X9_isSlot_0) = true by decide +kernel)
theorem dQ_X9_isSlot_0 : dQ_P cX9_isSlot 0 dT_X9_isSlot_0 := fun i => by rw [dT_X9_isSlot]; rfl
theorem dX9_isSlot_0 : decode cX9_isSlot 0 = .ok (.iload_n 0, 1) := dk_26 ((dQ_X9_isSlot_0 0).trans dk_j0)
theorem dX9_isSlot_1 : decode cX9_isSlot 1 = .ok (.i2l, 1) := dk_133 ((dQ_X9_isSlot_0 1).trans dk_j1)
theorem dX9_isSlot_2 : decode cX9_isSlot 2 = .ok (.lconst 0, 1) := dk_9 ((dQ_X9_isSlot_0 2).trans dk_j2)
theorem dX9_isSlot_3 : decode cX9_isSlot 3 = .ok (.ldc2_w 98, 3) := dk_20 ((dQ_X9_isSlot_0 3).trans dk_j3) ((dQ_X9_isSlot_0 4).trans dk_j4) ((dQ_X9_isSlot_0 5).trans dk_j5) dk_vu2_0_98
theorem dX9_isSlot_6 : decode cX9_isSlot 6 = .ok (.invokestatic 94, 3) := dk_184 ((dQ_X9_isSlot_0 6).trans dk_j6) ((dQ_X9_isSlot_0 7).trans dk_j7) ((dQ_X9_isSlot_0 8).trans dk_j8) dk_vu2_0_94
theorem dX9_isSlot_9 : decode cX9_isSlot 9 = .ok (.ireturn, 1) := dk_172 ((dQ_X9_isSlot_0 9).trans dk_j9)
def dT_X9_cut__0 : List UInt8 := (0x10 : UInt8) :: (0x40 : UInt8) :: (0x10 : UInt8) :: (0x08 : UInt8) :: (0x1c : UInt8) :: (0x78 : UInt8) :: (0x64 : UInt8) :: (0x3e : UInt8) :: (0x1e : UInt8) :: (0x1d : UInt8) :: (0x79 : UInt8) :: (0x1d : UInt8) :: (0x7b : UInt8) :: (0xad : UInt8) :: []
theorem dT_X9_cut_ : cX9_cut_.data.toList = dT_X9_cut__0 := eq_of_beq (show (cX9_cut_.data.toList == dT_X9_cut__0) = true by decide +kernel)
theorem dQ_X9_cut__0 : dQ_P cX9_cut_ 0 dT_X9_cut__0 := fun i => by rw [dT_X9_cut_]; rfl
theorem dk_vs1_64 : Reader.signed 8 (0x40 : UInt8).toNat = (64 : Int) := by decide +kernel
theorem dX9_cut__0 : decode cX9_cut_ 0 = .ok (.bipush 64, 2) := dk_16 ((dQ_X9_cut__0 0).trans dk_j0) ((dQ_X9_cut__0 1).trans dk_j1) dk_vs1_64
theorem dX9_cut__2 : decode cX9_cut_ 2 = .ok (.bipush 8, 2) := dk_16 ((dQ_X9_cut__0 2).trans dk_j2) ((dQ_X9_cut__0 3).trans dk_j3) dk_vs1_8
theorem dX9_cut__4 : decode cX9_cut_ 4 = .ok (.iload_n 2, 1) := dk_28 ((dQ_X9_cut__0 4).trans dk_j4)
theorem dX9_cut__5 : decode cX9_cut_ 5 = .ok (.ishl, 1) := dk_120 ((dQ_X9_cut__0 5).trans dk_j5)
theorem dX9_cut__6 : decode cX9_cut_ 6 = .ok (.isub, 1) := dk_100 ((dQ_X9_cut__0 6).trans dk_j6)
theorem dX9_cut__7 : decode cX9_cut_ 7 = .ok (.istore_n 3, 1) := dk_62 ((dQ_X9_cut__0 7).trans dk_j7)
theorem dX9_cut__8 : decode cX9_cut_ 8 = .ok (.lload_n 0, 1) := dk_30 ((dQ_X9_cut__0 8).trans dk_j8)
theorem dX9_cut__9 : decode cX9_cut_ 9 = .ok (.iload_n 3, 1) := dk_29 ((dQ_X9_cut__0 9).trans dk_j9)
theorem dX9_cut__10 : decode cX9_cut_ 10 = .ok (.lshl, 1) := dk_121 ((dQ_X9_cut__0 10).trans dk_j10)
theorem dX9_cut__11 : decode cX9_cut_ 11 = .ok (.iload_n 3, 1) := dk_29 ((dQ_X9_cut__0 11).trans dk_j11)
theorem dX9_cut__12 : decode cX9_cut_ 12 = .ok (.lshr, 1) := dk_123 ((dQ_X9_cut__0 12).trans dk_j12)
theorem dX9_cut__13 : decode cX9_cut_ 13 = .ok (.lreturn, 1) := dk_173 ((dQ_X9_cut__0 13).trans dk_j13)
def dT_X9_row_4 : List UInt8 := (0x3c : UInt8) :: (0x1b : UInt8) :: (0x68 : UInt8) :: (0x15 : UInt8) :: (0x04 : UInt8) :: (0x60 : UInt8) :: (0x09 : UInt8) :: (0x50 : UInt8) :: (0x84 : UInt8) :: (0x04 : UInt8) :: (0x01 : UInt8) :: (0xa7 : UInt8) :: (0xff : UInt8) :: (0xe9 : UInt8) :: (0x03 : UInt8) :: (0xac : UInt8) :: []
def dT_X9_row_3 : List UInt8 := (0x4f : UInt8) :: (0x03 : UInt8) :: (0x36 : UInt8) :: (0x04 : UInt8) :: (0x15 : UInt8) :: (0x04 : UInt8) :: (0x10 : UInt8) :: (0x3c : UInt8) :: (0xa2 : UInt8) :: (0x00 : UInt8) :: (0x16 : UInt8) :: (0x2a : UInt8) :: (0xb4 : UInt8) :: (0x00 : UInt8) :: (0x52 : UInt8) :: (0x10 : UInt8) :: dT_X9_row_4
def dT_X9_row_2 : List UInt8 := (0x10 : UInt8) :: (0xfd : UInt8) :: (0xac : UInt8) :: (0x2a : UInt8) :: (0xb4 : UInt8) :: (0x00 : UInt8) :: (0x4c : UInt8) :: (0x1b : UInt8) :: (0x1d : UInt8) :: (0x4f : UInt8) :: (0x2a : UInt8) :: (0xb4 : UInt8) :: (0x00 : UInt8) :: (0x4f : UInt8) :: (0x1b : UInt8) :: (0x1c : UInt8) :: dT_X9_row_3
def dT_X9_row_1 : List UInt8 := (0x99 : UInt8) :: (0x00 : UInt8) :: (0x09 : UInt8) :: (0x1d : UInt8) :: (0x10 : UInt8) :: (0x3c : UInt8) :: (0xa4 : UInt8) :: (0x00 : UInt8) :: (0x06 : UInt8) :: (0x10 : UInt8) :: (0xfe : UInt8) :: (0xac : UInt8) :: (0x1d : UInt8) :: (0x9c : UInt8) :: (0x00 : UInt8) :: (0x06 : UInt8) :: dT_X9_row_2
def dT_X9_row_0 : List UInt8 := (0x1b : UInt8) :: (0xb8 : UInt8) :: (0x01 : UInt8) :: (0x6d : UInt8) :: (0x99 : UInt8) :: (0x00 : UInt8) :: (0x15 : UInt8) :: (0x1c : UInt8) :: (0x85 : UInt8) :: (0x09 : UInt8) :: (0x14 : UInt8) :: (0x00 : UInt8) :: (0x62 : UInt8) :: (0xb8 : UInt8) :: (0x00 : UInt8) :: (0x5e : UInt8) :: dT_X9_row_1
theorem dT_X9_row : cX9_row.data.toList = dT_X9_row_0 := eq_of_beq (show (cX9_row.data.toList == dT_X9_row_0) = true by decide +kernel)
theorem dQ_X9_row_0 : dQ_P cX9_row 0 dT_X9_row_0 := fun i => by rw [dT_X9_row]; rfl
theorem dQ_X9_row_1 : dQ_P cX9_row 16 dT_X9_row_1 := fun i => (dQ_X9_row_0 (i + 16)).trans dk_t
theorem dQ_X9_row_2 : dQ_P cX9_row 32 dT_X9_row_2 := fun i => (dQ_X9_row_1 (i + 16)).trans dk_t
theorem dQ_X9_row_3 : dQ_P cX9_row 48 dT_X9_row_3 := fun i => (dQ_X9_row_2 (i + 16)).trans dk_t
theorem dQ_X9_row_4 : dQ_P cX9_row 64 dT_X9_row_4 := fun i => (dQ_X9_row_3 (i + 16)).trans dk_t
theorem dX9_row_0 : decode cX9_row 0 = .ok (.iload_n 1, 1) := dk_27 ((dQ_X9_row_0 0).trans dk_j0)
theorem dX9_row_1 : decode cX9_row 1 = .ok (.invokestatic 365, 3) := dk_184 ((dQ_X9_row_0 1).trans dk_j1) ((dQ_X9_row_0 2).trans dk_j2) ((dQ_X9_row_0 3).trans dk_j3) dk_vu2_1_109
theorem dX9_row_4 : decode cX9_row 4 = .ok (.ifCond .eq 21, 3) := dk_153 ((dQ_X9_row_0 4).trans dk_j4) ((dQ_X9_row_0 5).trans dk_j5) ((dQ_X9_row_0 6).trans dk_j6) dk_vs2_0_21
theorem dX9_row_7 : decode cX9_row 7 = .ok (.iload_n 2, 1) := dk_28 ((dQ_X9_row_0 7).trans dk_j7)
theorem dX9_row_8 : decode cX9_row 8 = .ok (.i2l, 1) := dk_133 ((dQ_X9_row_0 8).trans dk_j8)
theorem dX9_row_9 : decode cX9_row 9 = .ok (.lconst 0, 1) := dk_9 ((dQ_X9_row_0 9).trans dk_j9)
theorem dX9_row_10 : decode cX9_row 10 = .ok (.ldc2_w 98, 3) := dk_20 ((dQ_X9_row_0 10).trans dk_j10) ((dQ_X9_row_0 11).trans dk_j11) ((dQ_X9_row_0 12).trans dk_j12) dk_vu2_0_98
theorem dX9_row_13 : decode cX9_row 13 = .ok (.invokestatic 94, 3) := dk_184 ((dQ_X9_row_0 13).trans dk_j13) ((dQ_X9_row_0 14).trans dk_j14) ((dQ_X9_row_0 15).trans dk_j15) dk_vu2_0_94
theorem dX9_row_16 : decode cX9_row 16 = .ok (.ifCond .eq 9, 3) := dk_153 ((dQ_X9_row_1 0).trans dk_j0) ((dQ_X9_row_1 1).trans dk_j1) ((dQ_X9_row_1 2).trans dk_j2) dk_vs2_0_9
theorem dX9_row_19 : decode cX9_row 19 = .ok (.iload_n 3, 1) := dk_29 ((dQ_X9_row_1 3).trans dk_j3)
theorem dX9_row_20 : decode cX9_row 20 = .ok (.bipush 60, 2) := dk_16 ((dQ_X9_row_1 4).trans dk_j4) ((dQ_X9_row_1 5).trans dk_j5) dk_vs1_60
theorem dX9_row_22 : decode cX9_row 22 = .ok (.if_icmp .le 6, 3) := dk_164 ((dQ_X9_row_1 6).trans dk_j6) ((dQ_X9_row_1 7).trans dk_j7) ((dQ_X9_row_1 8).trans dk_j8) dk_vs2_0_6
theorem dX9_row_25 : decode cX9_row 25 = .ok (.bipush (-2), 2) := dk_16 ((dQ_X9_row_1 9).trans dk_j9) ((dQ_X9_row_1 10).trans dk_j10) dk_vs1_254
theorem dX9_row_27 : decode cX9_row 27 = .ok (.ireturn, 1) := dk_172 ((dQ_X9_row_1 11).trans dk_j11)
theorem dX9_row_28 : decode cX9_row 28 = .ok (.iload_n 3, 1) := dk_29 ((dQ_X9_row_1 12).trans dk_j12)
theorem dX9_row_29 : decode cX9_row 29 = .ok (.ifCond .ge 6, 3) := dk_156 ((dQ_X9_row_1 13).trans dk_j13) ((dQ_X9_row_1 14).trans dk_j14) ((dQ_X9_row_1 15).trans dk_j15) dk_vs2_0_6
theorem dk_vs1_253 : Reader.signed 8 (0xfd : UInt8).toNat = (-3 : Int) := by decide +kernel
theorem dX9_row_32 : decode cX9_row 32 = .ok (.bipush (-3), 2) := dk_16 ((dQ_X9_row_2 0).trans dk_j0) ((dQ_X9_row_2 1).trans dk_j1) dk_vs1_253
theorem dX9_row_34 : decode cX9_row 34 = .ok (.ireturn, 1) := dk_172 ((dQ_X9_row_2 2).trans dk_j2)
theorem dX9_row_35 : decode cX9_row 35 = .ok (.aload_n 0, 1) := dk_42 ((dQ_X9_row_2 3).trans dk_j3)
theorem dX9_row_36 : decode cX9_row 36 = .ok (.getfield 76, 3) := dk_180 ((dQ_X9_row_2 4).trans dk_j4) ((dQ_X9_row_2 5).trans dk_j5) ((dQ_X9_row_2 6).trans dk_j6) dk_vu2_0_76
theorem dX9_row_39 : decode cX9_row 39 = .ok (.iload_n 1, 1) := dk_27 ((dQ_X9_row_2 7).trans dk_j7)
theorem dX9_row_40 : decode cX9_row 40 = .ok (.iload_n 3, 1) := dk_29 ((dQ_X9_row_2 8).trans dk_j8)
theorem dX9_row_41 : decode cX9_row 41 = .ok (.iastore, 1) := dk_79 ((dQ_X9_row_2 9).trans dk_j9)
theorem dX9_row_42 : decode cX9_row 42 = .ok (.aload_n 0, 1) := dk_42 ((dQ_X9_row_2 10).trans dk_j10)
theorem dX9_row_43 : decode cX9_row 43 = .ok (.getfield 79, 3) := dk_180 ((dQ_X9_row_2 11).trans dk_j11) ((dQ_X9_row_2 12).trans dk_j12) ((dQ_X9_row_2 13).trans dk_j13) dk_vu2_0_79
theorem dX9_row_46 : decode cX9_row 46 = .ok (.iload_n 1, 1) := dk_27 ((dQ_X9_row_2 14).trans dk_j14)
theorem dX9_row_47 : decode cX9_row 47 = .ok (.iload_n 2, 1) := dk_28 ((dQ_X9_row_2 15).trans dk_j15)
theorem dX9_row_48 : decode cX9_row 48 = .ok (.iastore, 1) := dk_79 ((dQ_X9_row_3 0).trans dk_j0)
theorem dX9_row_49 : decode cX9_row 49 = .ok (.iconst 0, 1) := dk_3 ((dQ_X9_row_3 1).trans dk_j1)
theorem dX9_row_50 : decode cX9_row 50 = .ok (.istore 4, 2) := dk_54 ((dQ_X9_row_3 2).trans dk_j2) ((dQ_X9_row_3 3).trans dk_j3) dk_vu1_4
theorem dX9_row_52 : decode cX9_row 52 = .ok (.iload 4, 2) := dk_21 ((dQ_X9_row_3 4).trans dk_j4) ((dQ_X9_row_3 5).trans dk_j5) dk_vu1_4
theorem dX9_row_54 : decode cX9_row 54 = .ok (.bipush 60, 2) := dk_16 ((dQ_X9_row_3 6).trans dk_j6) ((dQ_X9_row_3 7).trans dk_j7) dk_vs1_60
theorem dX9_row_56 : decode cX9_row 56 = .ok (.if_icmp .ge 22, 3) := dk_162 ((dQ_X9_row_3 8).trans dk_j8) ((dQ_X9_row_3 9).trans dk_j9) ((dQ_X9_row_3 10).trans dk_j10) dk_vs2_0_22
theorem dX9_row_59 : decode cX9_row 59 = .ok (.aload_n 0, 1) := dk_42 ((dQ_X9_row_3 11).trans dk_j11)
theorem dX9_row_60 : decode cX9_row 60 = .ok (.getfield 82, 3) := dk_180 ((dQ_X9_row_3 12).trans dk_j12) ((dQ_X9_row_3 13).trans dk_j13) ((dQ_X9_row_3 14).trans dk_j14) dk_vu2_0_82
theorem dX9_row_63 : decode cX9_row 63 = .ok (.bipush 60, 2) := dk_16 ((dQ_X9_row_3 15).trans dk_j15) ((dQ_X9_row_4 0).trans dk_j0) dk_vs1_60
theorem dX9_row_65 : decode cX9_row 65 = .ok (.iload_n 1, 1) := dk_27 ((dQ_X9_row_4 1).trans dk_j1)
theorem dX9_row_66 : decode cX9_row 66 = .ok (.imul, 1) := dk_104 ((dQ_X9_row_4 2).trans dk_j2)
theorem dX9_row_67 : decode cX9_row 67 = .ok (.iload 4, 2) := dk_21 ((dQ_X9_row_4 3).trans dk_j3) ((dQ_X9_row_4 4).trans dk_j4) dk_vu1_4
theorem dX9_row_69 : decode cX9_row 69 = .ok (.iadd, 1) := dk_96 ((dQ_X9_row_4 5).trans dk_j5)
theorem dX9_row_70 : decode cX9_row 70 = .ok (.lconst 0, 1) := dk_9 ((dQ_X9_row_4 6).trans dk_j6)
theorem dX9_row_71 : decode cX9_row 71 = .ok (.lastore, 1) := dk_80 ((dQ_X9_row_4 7).trans dk_j7)
theorem dX9_row_72 : decode cX9_row 72 = .ok (.iinc 4 1, 3) := dk_132 ((dQ_X9_row_4 8).trans dk_j8) ((dQ_X9_row_4 9).trans dk_j9) ((dQ_X9_row_4 10).trans dk_j10) dk_vu1_4 dk_vs1_1
theorem dX9_row_75 : decode cX9_row 75 = .ok (.goto (-23), 3) := dk_167 ((dQ_X9_row_4 11).trans dk_j11) ((dQ_X9_row_4 12).trans dk_j12) ((dQ_X9_row_4 13).trans dk_j13) dk_vs2_255_233
theorem dX9_row_78 : decode cX9_row 78 = .ok (.iconst 0, 1) := dk_3 ((dQ_X9_row_4 14).trans dk_j14)
theorem dX9_row_79 : decode cX9_row 79 = .ok (.ireturn, 1) := dk_172 ((dQ_X9_row_4 15).trans dk_j15)
def dT_X9_write_4 : List UInt8 := (0x50 : UInt8) :: (0x03 : UInt8) :: (0xac : UInt8) :: []
def dT_X9_write_3 : List UInt8 := (0x10 : UInt8) :: (0x3c : UInt8) :: (0x1b : UInt8) :: (0x68 : UInt8) :: (0x1c : UInt8) :: (0x60 : UInt8) :: (0x21 : UInt8) :: (0x2a : UInt8) :: (0xb4 : UInt8) :: (0x00 : UInt8) :: (0x4f : UInt8) :: (0x1b : UInt8) :: (0x2e : UInt8) :: (0xb8 : UInt8) :: (0x01 : UInt8) :: (0xc4 : UInt8) :: dT_X9_write_4
def dT_X9_write_2 : List UInt8 := (0x04 : UInt8) :: (0x64 : UInt8) :: (0x85 : UInt8) :: (0xb8 : UInt8) :: (0x00 : UInt8) :: (0x5e : UInt8) :: (0x9a : UInt8) :: (0x00 : UInt8) :: (0x06 : UInt8) :: (0x10 : UInt8) :: (0xf9 : UInt8) :: (0xac : UInt8) :: (0x2a : UInt8) :: (0xb4 : UInt8) :: (0x00 : UInt8) :: (0x52 : UInt8) :: dT_X9_write_3
def dT_X9_write_1 : List UInt8 := (0x02 : UInt8) :: (0xa0 : UInt8) :: (0x00 : UInt8) :: (0x06 : UInt8) :: (0x10 : UInt8) :: (0xfa : UInt8) :: (0xac : UInt8) :: (0x1c : UInt8) :: (0x85 : UInt8) :: (0x09 : UInt8) :: (0x2a : UInt8) :: (0xb4 : UInt8) :: (0x00 : UInt8) :: (0x4c : UInt8) :: (0x1b : UInt8) :: (0x2e : UInt8) :: dT_X9_write_2
def dT_X9_write_0 : List UInt8 := (0x1b : UInt8) :: (0xb8 : UInt8) :: (0x01 : UInt8) :: (0x6d : UInt8) :: (0x9a : UInt8) :: (0x00 : UInt8) :: (0x06 : UInt8) :: (0x10 : UInt8) :: (0xfe : UInt8) :: (0xac : UInt8) :: (0x2a : UInt8) :: (0xb4 : UInt8) :: (0x00 : UInt8) :: (0x4c : UInt8) :: (0x1b : UInt8) :: (0x2e : UInt8) :: dT_X9_write_1
theorem dT_X9_write : cX9_write.data.toList = dT_X9_write_0 := eq_of_beq (show (cX9_write.data.toList == dT_X9_write_0) = true by decide +kernel)
theorem dQ_X9_write_0 : dQ_P cX9_write 0 dT_X9_write_0 := fun i => by rw [dT_X9_write]; rfl
theorem dQ_X9_write_1 : dQ_P cX9_write 16 dT_X9_write_1 := fun i => (dQ_X9_write_0 (i + 16)).trans dk_t
theorem dQ_X9_write_2 : dQ_P cX9_write 32 dT_X9_write_2 := fun i => (dQ_X9_write_1 (i + 16)).trans dk_t
theorem dQ_X9_write_3 : dQ_P cX9_write 48 dT_X9_write_3 := fun i => (dQ_X9_write_2 (i + 16)).trans dk_t
theorem dQ_X9_write_4 : dQ_P cX9_write 64 dT_X9_write_4 := fun i => (dQ_X9_write_3 (i + 16)).trans dk_t
theorem dX9_write_0 : decode cX9_write 0 = .ok (.iload_n 1, 1) := dk_27 ((dQ_X9_write_0 0).trans dk_j0)
theorem dX9_write_1 : decode cX9_write 1 = .ok (.invokestatic 365, 3) := dk_184 ((dQ_X9_write_0 1).trans dk_j1) ((dQ_X9_write_0 2).trans dk_j2) ((dQ_X9_write_0 3).trans dk_j3) dk_vu2_1_109
theorem dX9_write_4 : decode cX9_write 4 = .ok (.ifCond .ne 6, 3) := dk_154 ((dQ_X9_write_0 4).trans dk_j4) ((dQ_X9_write_0 5).trans dk_j5) ((dQ_X9_write_0 6).trans dk_j6) dk_vs2_0_6
theorem dX9_write_7 : decode cX9_write 7 = .ok (.bipush (-2), 2) := dk_16 ((dQ_X9_write_0 7).trans dk_j7) ((dQ_X9_write_0 8).trans dk_j8) dk_vs1_254
theorem dX9_write_9 : decode cX9_write 9 = .ok (.ireturn, 1) := dk_172 ((dQ_X9_write_0 9).trans dk_j9)
theorem dX9_write_10 : decode cX9_write 10 = .ok (.aload_n 0, 1) := dk_42 ((dQ_X9_write_0 10).trans dk_j10)
theorem dX9_write_11 : decode cX9_write 11 = .ok (.getfield 76, 3) := dk_180 ((dQ_X9_write_0 11).trans dk_j11) ((dQ_X9_write_0 12).trans dk_j12) ((dQ_X9_write_0 13).trans dk_j13) dk_vu2_0_76
theorem dX9_write_14 : decode cX9_write 14 = .ok (.iload_n 1, 1) := dk_27 ((dQ_X9_write_0 14).trans dk_j14)
theorem dX9_write_15 : decode cX9_write 15 = .ok (.iaload, 1) := dk_46 ((dQ_X9_write_0 15).trans dk_j15)
theorem dX9_write_16 : decode cX9_write 16 = .ok (.iconst (-1), 1) := dk_2 ((dQ_X9_write_1 0).trans dk_j0)
theorem dX9_write_17 : decode cX9_write 17 = .ok (.if_icmp .ne 6, 3) := dk_160 ((dQ_X9_write_1 1).trans dk_j1) ((dQ_X9_write_1 2).trans dk_j2) ((dQ_X9_write_1 3).trans dk_j3) dk_vs2_0_6
theorem dX9_write_20 : decode cX9_write 20 = .ok (.bipush (-6), 2) := dk_16 ((dQ_X9_write_1 4).trans dk_j4) ((dQ_X9_write_1 5).trans dk_j5) dk_vs1_250
theorem dX9_write_22 : decode cX9_write 22 = .ok (.ireturn, 1) := dk_172 ((dQ_X9_write_1 6).trans dk_j6)
theorem dX9_write_23 : decode cX9_write 23 = .ok (.iload_n 2, 1) := dk_28 ((dQ_X9_write_1 7).trans dk_j7)
theorem dX9_write_24 : decode cX9_write 24 = .ok (.i2l, 1) := dk_133 ((dQ_X9_write_1 8).trans dk_j8)
theorem dX9_write_25 : decode cX9_write 25 = .ok (.lconst 0, 1) := dk_9 ((dQ_X9_write_1 9).trans dk_j9)
theorem dX9_write_26 : decode cX9_write 26 = .ok (.aload_n 0, 1) := dk_42 ((dQ_X9_write_1 10).trans dk_j10)
theorem dX9_write_27 : decode cX9_write 27 = .ok (.getfield 76, 3) := dk_180 ((dQ_X9_write_1 11).trans dk_j11) ((dQ_X9_write_1 12).trans dk_j12) ((dQ_X9_write_1 13).trans dk_j13) dk_vu2_0_76
theorem dX9_write_30 : decode cX9_write 30 = .ok (.iload_n 1, 1) := dk_27 ((dQ_X9_write_1 14).trans dk_j14)
theorem dX9_write_31 : decode cX9_write 31 = .ok (.iaload, 1) := dk_46 ((dQ_X9_write_1 15).trans dk_j15)
theorem dX9_write_32 : decode cX9_write 32 = .ok (.iconst 1, 1) := dk_4 ((dQ_X9_write_2 0).trans dk_j0)
theorem dX9_write_33 : decode cX9_write 33 = .ok (.isub, 1) := dk_100 ((dQ_X9_write_2 1).trans dk_j1)
theorem dX9_write_34 : decode cX9_write 34 = .ok (.i2l, 1) := dk_133 ((dQ_X9_write_2 2).trans dk_j2)
theorem dX9_write_35 : decode cX9_write 35 = .ok (.invokestatic 94, 3) := dk_184 ((dQ_X9_write_2 3).trans dk_j3) ((dQ_X9_write_2 4).trans dk_j4) ((dQ_X9_write_2 5).trans dk_j5) dk_vu2_0_94
theorem dX9_write_38 : decode cX9_write 38 = .ok (.ifCond .ne 6, 3) := dk_154 ((dQ_X9_write_2 6).trans dk_j6) ((dQ_X9_write_2 7).trans dk_j7) ((dQ_X9_write_2 8).trans dk_j8) dk_vs2_0_6
theorem dk_vs1_249 : Reader.signed 8 (0xf9 : UInt8).toNat = (-7 : Int) := by decide +kernel
theorem dX9_write_41 : decode cX9_write 41 = .ok (.bipush (-7), 2) := dk_16 ((dQ_X9_write_2 9).trans dk_j9) ((dQ_X9_write_2 10).trans dk_j10) dk_vs1_249
theorem dX9_write_43 : decode cX9_write 43 = .ok (.ireturn, 1) := dk_172 ((dQ_X9_write_2 11).trans dk_j11)
theorem dX9_write_44 : decode cX9_write 44 = .ok (.aload_n 0, 1) := dk_42 ((dQ_X9_write_2 12).trans dk_j12)
theorem dX9_write_45 : decode cX9_write 45 = .ok (.getfield 82, 3) := dk_180 ((dQ_X9_write_2 13).trans dk_j13) ((dQ_X9_write_2 14).trans dk_j14) ((dQ_X9_write_2 15).trans dk_j15) dk_vu2_0_82
theorem dX9_write_48 : decode cX9_write 48 = .ok (.bipush 60, 2) := dk_16 ((dQ_X9_write_3 0).trans dk_j0) ((dQ_X9_write_3 1).trans dk_j1) dk_vs1_60
theorem dX9_write_50 : decode cX9_write 50 = .ok (.iload_n 1, 1) := dk_27 ((dQ_X9_write_3 2).trans dk_j2)
theorem dX9_write_51 : decode cX9_write 51 = .ok (.imul, 1) := dk_104 ((dQ_X9_write_3 3).trans dk_j3)
theorem dX9_write_52 : decode cX9_write 52 = .ok (.iload_n 2, 1) := dk_28 ((dQ_X9_write_3 4).trans dk_j4)
theorem dX9_write_53 : decode cX9_write 53 = .ok (.iadd, 1) := dk_96 ((dQ_X9_write_3 5).trans dk_j5)
theorem dX9_write_54 : decode cX9_write 54 = .ok (.lload_n 3, 1) := dk_33 ((dQ_X9_write_3 6).trans dk_j6)
theorem dX9_write_55 : decode cX9_write 55 = .ok (.aload_n 0, 1) := dk_42 ((dQ_X9_write_3 7).trans dk_j7)
theorem dX9_write_56 : decode cX9_write 56 = .ok (.getfield 79, 3) := dk_180 ((dQ_X9_write_3 8).trans dk_j8) ((dQ_X9_write_3 9).trans dk_j9) ((dQ_X9_write_3 10).trans dk_j10) dk_vu2_0_79
theorem dX9_write_59 : decode cX9_write 59 = .ok (.iload_n 1, 1) := dk_27 ((dQ_X9_write_3 11).trans dk_j11)
theorem dX9_write_60 : decode cX9_write 60 = .ok (.iaload, 1) := dk_46 ((dQ_X9_write_3 12).trans dk_j12)
theorem dk_vu2_1_196 : (0x01 : UInt8).toNat * 256 + (0xc4 : UInt8).toNat = (452 : Nat) := by decide +kernel
theorem dX9_write_61 : decode cX9_write 61 = .ok (.invokestatic 452, 3) := dk_184 ((dQ_X9_write_3 13).trans dk_j13) ((dQ_X9_write_3 14).trans dk_j14) ((dQ_X9_write_3 15).trans dk_j15) dk_vu2_1_196
theorem dX9_write_64 : decode cX9_write 64 = .ok (.lastore, 1) := dk_80 ((dQ_X9_write_4 0).trans dk_j0)
theorem dX9_write_65 : decode cX9_write 65 = .ok (.iconst 0, 1) := dk_3 ((dQ_X9_write_4 1).trans dk_j1)
theorem dX9_write_66 : decode cX9_write 66 = .ok (.ireturn, 1) := dk_172 ((dQ_X9_write_4 2).trans dk_j2)
def dT_X9_paste_11 : List UInt8 := (0x06 : UInt8) :: (0x2f : UInt8) :: (0x50 : UInt8) :: (0x84 : UInt8) :: (0x06 : UInt8) :: (0x01 : UInt8) :: (0xa7 : UInt8) :: (0xff : UInt8) :: (0xe0 : UInt8) :: (0x03 : UInt8) :: (0xac : UInt8) :: []
def dT_X9_paste_10 : List UInt8 := (0x52 : UInt8) :: (0x10 : UInt8) :: (0x3c : UInt8) :: (0x1d : UInt8) :: (0x68 : UInt8) :: (0x15 : UInt8) :: (0x04 : UInt8) :: (0x60 : UInt8) :: (0x15 : UInt8) :: (0x06 : UInt8) :: (0x60 : UInt8) :: (0x2a : UInt8) :: (0xb4 : UInt8) :: (0x00 : UInt8) :: (0x56 : UInt8) :: (0x15 : UInt8) :: dT_X9_paste_11
def dT_X9_paste_9 : List UInt8 := (0xa7 : UInt8) :: (0xff : UInt8) :: (0xe1 : UInt8) :: (0x03 : UInt8) :: (0x36 : UInt8) :: (0x06 : UInt8) :: (0x15 : UInt8) :: (0x06 : UInt8) :: (0x15 : UInt8) :: (0x05 : UInt8) :: (0xa2 : UInt8) :: (0x00 : UInt8) :: (0x1f : UInt8) :: (0x2a : UInt8) :: (0xb4 : UInt8) :: (0x00 : UInt8) :: dT_X9_paste_10
def dT_X9_paste_8 : List UInt8 := (0x00 : UInt8) :: (0x52 : UInt8) :: (0x10 : UInt8) :: (0x3c : UInt8) :: (0x1b : UInt8) :: (0x68 : UInt8) :: (0x1c : UInt8) :: (0x60 : UInt8) :: (0x15 : UInt8) :: (0x06 : UInt8) :: (0x60 : UInt8) :: (0x2f : UInt8) :: (0x50 : UInt8) :: (0x84 : UInt8) :: (0x06 : UInt8) :: (0x01 : UInt8) :: dT_X9_paste_9
def dT_X9_paste_7 : List UInt8 := (0x06 : UInt8) :: (0x15 : UInt8) :: (0x06 : UInt8) :: (0x15 : UInt8) :: (0x05 : UInt8) :: (0xa2 : UInt8) :: (0x00 : UInt8) :: (0x1e : UInt8) :: (0x2a : UInt8) :: (0xb4 : UInt8) :: (0x00 : UInt8) :: (0x56 : UInt8) :: (0x15 : UInt8) :: (0x06 : UInt8) :: (0x2a : UInt8) :: (0xb4 : UInt8) :: dT_X9_paste_8
def dT_X9_paste_6 : List UInt8 := (0x2a : UInt8) :: (0xb4 : UInt8) :: (0x00 : UInt8) :: (0x4c : UInt8) :: (0x1d : UInt8) :: (0x2e : UInt8) :: (0x85 : UInt8) :: (0x94 : UInt8) :: (0x9e : UInt8) :: (0x00 : UInt8) :: (0x06 : UInt8) :: (0x10 : UInt8) :: (0xf9 : UInt8) :: (0xac : UInt8) :: (0x03 : UInt8) :: (0x36 : UInt8) :: dT_X9_paste_7
def dT_X9_paste_5 : List UInt8 := (0x00 : UInt8) :: (0x4c : UInt8) :: (0x1b : UInt8) :: (0x2e : UInt8) :: (0x85 : UInt8) :: (0x94 : UInt8) :: (0x9d : UInt8) :: (0x00 : UInt8) :: (0x15 : UInt8) :: (0x15 : UInt8) :: (0x04 : UInt8) :: (0x85 : UInt8) :: (0x15 : UInt8) :: (0x05 : UInt8) :: (0x85 : UInt8) :: (0x61 : UInt8) :: dT_X9_paste_6
def dT_X9_paste_4 : List UInt8 := (0x9b : UInt8) :: (0x00 : UInt8) :: (0x2b : UInt8) :: (0x15 : UInt8) :: (0x05 : UInt8) :: (0x9b : UInt8) :: (0x00 : UInt8) :: (0x26 : UInt8) :: (0x1c : UInt8) :: (0x85 : UInt8) :: (0x15 : UInt8) :: (0x05 : UInt8) :: (0x85 : UInt8) :: (0x61 : UInt8) :: (0x2a : UInt8) :: (0xb4 : UInt8) :: dT_X9_paste_5
def dT_X9_paste_3 : List UInt8 := (0x00 : UInt8) :: (0x4f : UInt8) :: (0x1d : UInt8) :: (0x2e : UInt8) :: (0x9f : UInt8) :: (0x00 : UInt8) :: (0x06 : UInt8) :: (0x10 : UInt8) :: (0xf8 : UInt8) :: (0xac : UInt8) :: (0x1c : UInt8) :: (0x9b : UInt8) :: (0x00 : UInt8) :: (0x30 : UInt8) :: (0x15 : UInt8) :: (0x04 : UInt8) :: dT_X9_paste_4
def dT_X9_paste_2 : List UInt8 := (0x2e : UInt8) :: (0x02 : UInt8) :: (0xa0 : UInt8) :: (0x00 : UInt8) :: (0x06 : UInt8) :: (0x10 : UInt8) :: (0xfa : UInt8) :: (0xac : UInt8) :: (0x2a : UInt8) :: (0xb4 : UInt8) :: (0x00 : UInt8) :: (0x4f : UInt8) :: (0x1b : UInt8) :: (0x2e : UInt8) :: (0x2a : UInt8) :: (0xb4 : UInt8) :: dT_X9_paste_3
def dT_X9_paste_1 : List UInt8 := (0xac : UInt8) :: (0x2a : UInt8) :: (0xb4 : UInt8) :: (0x00 : UInt8) :: (0x4c : UInt8) :: (0x1b : UInt8) :: (0x2e : UInt8) :: (0x02 : UInt8) :: (0x9f : UInt8) :: (0x00 : UInt8) :: (0x0d : UInt8) :: (0x2a : UInt8) :: (0xb4 : UInt8) :: (0x00 : UInt8) :: (0x4c : UInt8) :: (0x1d : UInt8) :: dT_X9_paste_2
def dT_X9_paste_0 : List UInt8 := (0x1b : UInt8) :: (0xb8 : UInt8) :: (0x01 : UInt8) :: (0x6d : UInt8) :: (0x99 : UInt8) :: (0x00 : UInt8) :: (0x0a : UInt8) :: (0x1d : UInt8) :: (0xb8 : UInt8) :: (0x01 : UInt8) :: (0x6d : UInt8) :: (0x9a : UInt8) :: (0x00 : UInt8) :: (0x06 : UInt8) :: (0x10 : UInt8) :: (0xfe : UInt8) :: dT_X9_paste_1
theorem dT_X9_paste : cX9_paste.data.toList = dT_X9_paste_0 := eq_of_beq (show (cX9_paste.data.toList == dT_X9_paste_0) = true by decide +kernel)
theorem dQ_X9_paste_0 : dQ_P cX9_paste 0 dT_X9_paste_0 := fun i => by rw [dT_X9_paste]; rfl
theorem dQ_X9_paste_1 : dQ_P cX9_paste 16 dT_X9_paste_1 := fun i => (dQ_X9_paste_0 (i + 16)).trans dk_t
theorem dQ_X9_paste_2 : dQ_P cX9_paste 32 dT_X9_paste_2 := fun i => (dQ_X9_paste_1 (i + 16)).trans dk_t
theorem dQ_X9_paste_3 : dQ_P cX9_paste 48 dT_X9_paste_3 := fun i => (dQ_X9_paste_2 (i + 16)).trans dk_t
theorem dQ_X9_paste_4 : dQ_P cX9_paste 64 dT_X9_paste_4 := fun i => (dQ_X9_paste_3 (i + 16)).trans dk_t
theorem dQ_X9_paste_5 : dQ_P cX9_paste 80 dT_X9_paste_5 := fun i => (dQ_X9_paste_4 (i + 16)).trans dk_t
theorem dQ_X9_paste_6 : dQ_P cX9_paste 96 dT_X9_paste_6 := fun i => (dQ_X9_paste_5 (i + 16)).trans dk_t
theorem dQ_X9_paste_7 : dQ_P cX9_paste 112 dT_X9_paste_7 := fun i => (dQ_X9_paste_6 (i + 16)).trans dk_t
theorem dQ_X9_paste_8 : dQ_P cX9_paste 128 dT_X9_paste_8 := fun i => (dQ_X9_paste_7 (i + 16)).trans dk_t
theorem dQ_X9_paste_9 : dQ_P cX9_paste 144 dT_X9_paste_9 := fun i => (dQ_X9_paste_8 (i + 16)).trans dk_t
theorem dQ_X9_paste_10 : dQ_P cX9_paste 160 dT_X9_paste_10 := fun i => (dQ_X9_paste_9 (i + 16)).trans dk_t
theorem dQ_X9_paste_11 : dQ_P cX9_paste 176 dT_X9_paste_11 := fun i => (dQ_X9_paste_10 (i + 16)).trans dk_t
theorem dX9_paste_0 : decode cX9_paste 0 = .ok (.iload_n 1, 1) := dk_27 ((dQ_X9_paste_0 0).trans dk_j0)
theorem dX9_paste_1 : decode cX9_paste 1 = .ok (.invokestatic 365, 3) := dk_184 ((dQ_X9_paste_0 1).trans dk_j1) ((dQ_X9_paste_0 2).trans dk_j2) ((dQ_X9_paste_0 3).trans dk_j3) dk_vu2_1_109
theorem dX9_paste_4 : decode cX9_paste 4 = .ok (.ifCond .eq 10, 3) := dk_153 ((dQ_X9_paste_0 4).trans dk_j4) ((dQ_X9_paste_0 5).trans dk_j5) ((dQ_X9_paste_0 6).trans dk_j6) dk_vs2_0_10
theorem dX9_paste_7 : decode cX9_paste 7 = .ok (.iload_n 3, 1) := dk_29 ((dQ_X9_paste_0 7).trans dk_j7)
theorem dX9_paste_8 : decode cX9_paste 8 = .ok (.invokestatic 365, 3) := dk_184 ((dQ_X9_paste_0 8).trans dk_j8) ((dQ_X9_paste_0 9).trans dk_j9) ((dQ_X9_paste_0 10).trans dk_j10) dk_vu2_1_109
theorem dX9_paste_11 : decode cX9_paste 11 = .ok (.ifCond .ne 6, 3) := dk_154 ((dQ_X9_paste_0 11).trans dk_j11) ((dQ_X9_paste_0 12).trans dk_j12) ((dQ_X9_paste_0 13).trans dk_j13) dk_vs2_0_6
theorem dX9_paste_14 : decode cX9_paste 14 = .ok (.bipush (-2), 2) := dk_16 ((dQ_X9_paste_0 14).trans dk_j14) ((dQ_X9_paste_0 15).trans dk_j15) dk_vs1_254
theorem dX9_paste_16 : decode cX9_paste 16 = .ok (.ireturn, 1) := dk_172 ((dQ_X9_paste_1 0).trans dk_j0)
theorem dX9_paste_17 : decode cX9_paste 17 = .ok (.aload_n 0, 1) := dk_42 ((dQ_X9_paste_1 1).trans dk_j1)
theorem dX9_paste_18 : decode cX9_paste 18 = .ok (.getfield 76, 3) := dk_180 ((dQ_X9_paste_1 2).trans dk_j2) ((dQ_X9_paste_1 3).trans dk_j3) ((dQ_X9_paste_1 4).trans dk_j4) dk_vu2_0_76
theorem dX9_paste_21 : decode cX9_paste 21 = .ok (.iload_n 1, 1) := dk_27 ((dQ_X9_paste_1 5).trans dk_j5)
theorem dX9_paste_22 : decode cX9_paste 22 = .ok (.iaload, 1) := dk_46 ((dQ_X9_paste_1 6).trans dk_j6)
theorem dX9_paste_23 : decode cX9_paste 23 = .ok (.iconst (-1), 1) := dk_2 ((dQ_X9_paste_1 7).trans dk_j7)
theorem dX9_paste_24 : decode cX9_paste 24 = .ok (.if_icmp .eq 13, 3) := dk_159 ((dQ_X9_paste_1 8).trans dk_j8) ((dQ_X9_paste_1 9).trans dk_j9) ((dQ_X9_paste_1 10).trans dk_j10) dk_vs2_0_13
theorem dX9_paste_27 : decode cX9_paste 27 = .ok (.aload_n 0, 1) := dk_42 ((dQ_X9_paste_1 11).trans dk_j11)
theorem dX9_paste_28 : decode cX9_paste 28 = .ok (.getfield 76, 3) := dk_180 ((dQ_X9_paste_1 12).trans dk_j12) ((dQ_X9_paste_1 13).trans dk_j13) ((dQ_X9_paste_1 14).trans dk_j14) dk_vu2_0_76
theorem dX9_paste_31 : decode cX9_paste 31 = .ok (.iload_n 3, 1) := dk_29 ((dQ_X9_paste_1 15).trans dk_j15)
theorem dX9_paste_32 : decode cX9_paste 32 = .ok (.iaload, 1) := dk_46 ((dQ_X9_paste_2 0).trans dk_j0)
theorem dX9_paste_33 : decode cX9_paste 33 = .ok (.iconst (-1), 1) := dk_2 ((dQ_X9_paste_2 1).trans dk_j1)
theorem dX9_paste_34 : decode cX9_paste 34 = .ok (.if_icmp .ne 6, 3) := dk_160 ((dQ_X9_paste_2 2).trans dk_j2) ((dQ_X9_paste_2 3).trans dk_j3) ((dQ_X9_paste_2 4).trans dk_j4) dk_vs2_0_6
theorem dX9_paste_37 : decode cX9_paste 37 = .ok (.bipush (-6), 2) := dk_16 ((dQ_X9_paste_2 5).trans dk_j5) ((dQ_X9_paste_2 6).trans dk_j6) dk_vs1_250
theorem dX9_paste_39 : decode cX9_paste 39 = .ok (.ireturn, 1) := dk_172 ((dQ_X9_paste_2 7).trans dk_j7)
theorem dX9_paste_40 : decode cX9_paste 40 = .ok (.aload_n 0, 1) := dk_42 ((dQ_X9_paste_2 8).trans dk_j8)
theorem dX9_paste_41 : decode cX9_paste 41 = .ok (.getfield 79, 3) := dk_180 ((dQ_X9_paste_2 9).trans dk_j9) ((dQ_X9_paste_2 10).trans dk_j10) ((dQ_X9_paste_2 11).trans dk_j11) dk_vu2_0_79
theorem dX9_paste_44 : decode cX9_paste 44 = .ok (.iload_n 1, 1) := dk_27 ((dQ_X9_paste_2 12).trans dk_j12)
theorem dX9_paste_45 : decode cX9_paste 45 = .ok (.iaload, 1) := dk_46 ((dQ_X9_paste_2 13).trans dk_j13)
theorem dX9_paste_46 : decode cX9_paste 46 = .ok (.aload_n 0, 1) := dk_42 ((dQ_X9_paste_2 14).trans dk_j14)
theorem dX9_paste_47 : decode cX9_paste 47 = .ok (.getfield 79, 3) := dk_180 ((dQ_X9_paste_2 15).trans dk_j15) ((dQ_X9_paste_3 0).trans dk_j0) ((dQ_X9_paste_3 1).trans dk_j1) dk_vu2_0_79
theorem dX9_paste_50 : decode cX9_paste 50 = .ok (.iload_n 3, 1) := dk_29 ((dQ_X9_paste_3 2).trans dk_j2)
theorem dX9_paste_51 : decode cX9_paste 51 = .ok (.iaload, 1) := dk_46 ((dQ_X9_paste_3 3).trans dk_j3)
theorem dX9_paste_52 : decode cX9_paste 52 = .ok (.if_icmp .eq 6, 3) := dk_159 ((dQ_X9_paste_3 4).trans dk_j4) ((dQ_X9_paste_3 5).trans dk_j5) ((dQ_X9_paste_3 6).trans dk_j6) dk_vs2_0_6
theorem dk_vs1_248 : Reader.signed 8 (0xf8 : UInt8).toNat = (-8 : Int) := by decide +kernel
theorem dX9_paste_55 : decode cX9_paste 55 = .ok (.bipush (-8), 2) := dk_16 ((dQ_X9_paste_3 7).trans dk_j7) ((dQ_X9_paste_3 8).trans dk_j8) dk_vs1_248
theorem dX9_paste_57 : decode cX9_paste 57 = .ok (.ireturn, 1) := dk_172 ((dQ_X9_paste_3 9).trans dk_j9)
theorem dX9_paste_58 : decode cX9_paste 58 = .ok (.iload_n 2, 1) := dk_28 ((dQ_X9_paste_3 10).trans dk_j10)
theorem dX9_paste_59 : decode cX9_paste 59 = .ok (.ifCond .lt 48, 3) := dk_155 ((dQ_X9_paste_3 11).trans dk_j11) ((dQ_X9_paste_3 12).trans dk_j12) ((dQ_X9_paste_3 13).trans dk_j13) dk_vs2_0_48
theorem dX9_paste_62 : decode cX9_paste 62 = .ok (.iload 4, 2) := dk_21 ((dQ_X9_paste_3 14).trans dk_j14) ((dQ_X9_paste_3 15).trans dk_j15) dk_vu1_4
theorem dk_vs2_0_43 : Reader.signed 16 ((0x00 : UInt8).toNat * 256 + (0x2b : UInt8).toNat) = (43 : Int) := by decide +kernel
theorem dX9_paste_64 : decode cX9_paste 64 = .ok (.ifCond .lt 43, 3) := dk_155 ((dQ_X9_paste_4 0).trans dk_j0) ((dQ_X9_paste_4 1).trans dk_j1) ((dQ_X9_paste_4 2).trans dk_j2) dk_vs2_0_43
theorem dX9_paste_67 : decode cX9_paste 67 = .ok (.iload 5, 2) := dk_21 ((dQ_X9_paste_4 3).trans dk_j3) ((dQ_X9_paste_4 4).trans dk_j4) dk_vu1_5
theorem dX9_paste_69 : decode cX9_paste 69 = .ok (.ifCond .lt 38, 3) := dk_155 ((dQ_X9_paste_4 5).trans dk_j5) ((dQ_X9_paste_4 6).trans dk_j6) ((dQ_X9_paste_4 7).trans dk_j7) dk_vs2_0_38
theorem dX9_paste_72 : decode cX9_paste 72 = .ok (.iload_n 2, 1) := dk_28 ((dQ_X9_paste_4 8).trans dk_j8)
theorem dX9_paste_73 : decode cX9_paste 73 = .ok (.i2l, 1) := dk_133 ((dQ_X9_paste_4 9).trans dk_j9)
theorem dX9_paste_74 : decode cX9_paste 74 = .ok (.iload 5, 2) := dk_21 ((dQ_X9_paste_4 10).trans dk_j10) ((dQ_X9_paste_4 11).trans dk_j11) dk_vu1_5
theorem dX9_paste_76 : decode cX9_paste 76 = .ok (.i2l, 1) := dk_133 ((dQ_X9_paste_4 12).trans dk_j12)
theorem dX9_paste_77 : decode cX9_paste 77 = .ok (.ladd, 1) := dk_97 ((dQ_X9_paste_4 13).trans dk_j13)
theorem dX9_paste_78 : decode cX9_paste 78 = .ok (.aload_n 0, 1) := dk_42 ((dQ_X9_paste_4 14).trans dk_j14)
theorem dX9_paste_79 : decode cX9_paste 79 = .ok (.getfield 76, 3) := dk_180 ((dQ_X9_paste_4 15).trans dk_j15) ((dQ_X9_paste_5 0).trans dk_j0) ((dQ_X9_paste_5 1).trans dk_j1) dk_vu2_0_76
theorem dX9_paste_82 : decode cX9_paste 82 = .ok (.iload_n 1, 1) := dk_27 ((dQ_X9_paste_5 2).trans dk_j2)
theorem dX9_paste_83 : decode cX9_paste 83 = .ok (.iaload, 1) := dk_46 ((dQ_X9_paste_5 3).trans dk_j3)
theorem dX9_paste_84 : decode cX9_paste 84 = .ok (.i2l, 1) := dk_133 ((dQ_X9_paste_5 4).trans dk_j4)
theorem dX9_paste_85 : decode cX9_paste 85 = .ok (.lcmp, 1) := dk_148 ((dQ_X9_paste_5 5).trans dk_j5)
theorem dX9_paste_86 : decode cX9_paste 86 = .ok (.ifCond .gt 21, 3) := dk_157 ((dQ_X9_paste_5 6).trans dk_j6) ((dQ_X9_paste_5 7).trans dk_j7) ((dQ_X9_paste_5 8).trans dk_j8) dk_vs2_0_21
theorem dX9_paste_89 : decode cX9_paste 89 = .ok (.iload 4, 2) := dk_21 ((dQ_X9_paste_5 9).trans dk_j9) ((dQ_X9_paste_5 10).trans dk_j10) dk_vu1_4
theorem dX9_paste_91 : decode cX9_paste 91 = .ok (.i2l, 1) := dk_133 ((dQ_X9_paste_5 11).trans dk_j11)
theorem dX9_paste_92 : decode cX9_paste 92 = .ok (.iload 5, 2) := dk_21 ((dQ_X9_paste_5 12).trans dk_j12) ((dQ_X9_paste_5 13).trans dk_j13) dk_vu1_5
theorem dX9_paste_94 : decode cX9_paste 94 = .ok (.i2l, 1) := dk_133 ((dQ_X9_paste_5 14).trans dk_j14)
theorem dX9_paste_95 : decode cX9_paste 95 = .ok (.ladd, 1) := dk_97 ((dQ_X9_paste_5 15).trans dk_j15)
theorem dX9_paste_96 : decode cX9_paste 96 = .ok (.aload_n 0, 1) := dk_42 ((dQ_X9_paste_6 0).trans dk_j0)
theorem dX9_paste_97 : decode cX9_paste 97 = .ok (.getfield 76, 3) := dk_180 ((dQ_X9_paste_6 1).trans dk_j1) ((dQ_X9_paste_6 2).trans dk_j2) ((dQ_X9_paste_6 3).trans dk_j3) dk_vu2_0_76
theorem dX9_paste_100 : decode cX9_paste 100 = .ok (.iload_n 3, 1) := dk_29 ((dQ_X9_paste_6 4).trans dk_j4)
theorem dX9_paste_101 : decode cX9_paste 101 = .ok (.iaload, 1) := dk_46 ((dQ_X9_paste_6 5).trans dk_j5)
theorem dX9_paste_102 : decode cX9_paste 102 = .ok (.i2l, 1) := dk_133 ((dQ_X9_paste_6 6).trans dk_j6)
theorem dX9_paste_103 : decode cX9_paste 103 = .ok (.lcmp, 1) := dk_148 ((dQ_X9_paste_6 7).trans dk_j7)
theorem dX9_paste_104 : decode cX9_paste 104 = .ok (.ifCond .le 6, 3) := dk_158 ((dQ_X9_paste_6 8).trans dk_j8) ((dQ_X9_paste_6 9).trans dk_j9) ((dQ_X9_paste_6 10).trans dk_j10) dk_vs2_0_6
theorem dX9_paste_107 : decode cX9_paste 107 = .ok (.bipush (-7), 2) := dk_16 ((dQ_X9_paste_6 11).trans dk_j11) ((dQ_X9_paste_6 12).trans dk_j12) dk_vs1_249
theorem dX9_paste_109 : decode cX9_paste 109 = .ok (.ireturn, 1) := dk_172 ((dQ_X9_paste_6 13).trans dk_j13)
theorem dX9_paste_110 : decode cX9_paste 110 = .ok (.iconst 0, 1) := dk_3 ((dQ_X9_paste_6 14).trans dk_j14)
theorem dX9_paste_111 : decode cX9_paste 111 = .ok (.istore 6, 2) := dk_54 ((dQ_X9_paste_6 15).trans dk_j15) ((dQ_X9_paste_7 0).trans dk_j0) dk_vu1_6
theorem dX9_paste_113 : decode cX9_paste 113 = .ok (.iload 6, 2) := dk_21 ((dQ_X9_paste_7 1).trans dk_j1) ((dQ_X9_paste_7 2).trans dk_j2) dk_vu1_6
theorem dX9_paste_115 : decode cX9_paste 115 = .ok (.iload 5, 2) := dk_21 ((dQ_X9_paste_7 3).trans dk_j3) ((dQ_X9_paste_7 4).trans dk_j4) dk_vu1_5
theorem dX9_paste_117 : decode cX9_paste 117 = .ok (.if_icmp .ge 30, 3) := dk_162 ((dQ_X9_paste_7 5).trans dk_j5) ((dQ_X9_paste_7 6).trans dk_j6) ((dQ_X9_paste_7 7).trans dk_j7) dk_vs2_0_30
theorem dX9_paste_120 : decode cX9_paste 120 = .ok (.aload_n 0, 1) := dk_42 ((dQ_X9_paste_7 8).trans dk_j8)
theorem dX9_paste_121 : decode cX9_paste 121 = .ok (.getfield 86, 3) := dk_180 ((dQ_X9_paste_7 9).trans dk_j9) ((dQ_X9_paste_7 10).trans dk_j10) ((dQ_X9_paste_7 11).trans dk_j11) dk_vu2_0_86
theorem dX9_paste_124 : decode cX9_paste 124 = .ok (.iload 6, 2) := dk_21 ((dQ_X9_paste_7 12).trans dk_j12) ((dQ_X9_paste_7 13).trans dk_j13) dk_vu1_6
theorem dX9_paste_126 : decode cX9_paste 126 = .ok (.aload_n 0, 1) := dk_42 ((dQ_X9_paste_7 14).trans dk_j14)
theorem dX9_paste_127 : decode cX9_paste 127 = .ok (.getfield 82, 3) := dk_180 ((dQ_X9_paste_7 15).trans dk_j15) ((dQ_X9_paste_8 0).trans dk_j0) ((dQ_X9_paste_8 1).trans dk_j1) dk_vu2_0_82
theorem dX9_paste_130 : decode cX9_paste 130 = .ok (.bipush 60, 2) := dk_16 ((dQ_X9_paste_8 2).trans dk_j2) ((dQ_X9_paste_8 3).trans dk_j3) dk_vs1_60
theorem dX9_paste_132 : decode cX9_paste 132 = .ok (.iload_n 1, 1) := dk_27 ((dQ_X9_paste_8 4).trans dk_j4)
theorem dX9_paste_133 : decode cX9_paste 133 = .ok (.imul, 1) := dk_104 ((dQ_X9_paste_8 5).trans dk_j5)
theorem dX9_paste_134 : decode cX9_paste 134 = .ok (.iload_n 2, 1) := dk_28 ((dQ_X9_paste_8 6).trans dk_j6)
theorem dX9_paste_135 : decode cX9_paste 135 = .ok (.iadd, 1) := dk_96 ((dQ_X9_paste_8 7).trans dk_j7)
theorem dX9_paste_136 : decode cX9_paste 136 = .ok (.iload 6, 2) := dk_21 ((dQ_X9_paste_8 8).trans dk_j8) ((dQ_X9_paste_8 9).trans dk_j9) dk_vu1_6
theorem dX9_paste_138 : decode cX9_paste 138 = .ok (.iadd, 1) := dk_96 ((dQ_X9_paste_8 10).trans dk_j10)
theorem dX9_paste_139 : decode cX9_paste 139 = .ok (.laload, 1) := dk_47 ((dQ_X9_paste_8 11).trans dk_j11)
theorem dX9_paste_140 : decode cX9_paste 140 = .ok (.lastore, 1) := dk_80 ((dQ_X9_paste_8 12).trans dk_j12)
theorem dX9_paste_141 : decode cX9_paste 141 = .ok (.iinc 6 1, 3) := dk_132 ((dQ_X9_paste_8 13).trans dk_j13) ((dQ_X9_paste_8 14).trans dk_j14) ((dQ_X9_paste_8 15).trans dk_j15) dk_vu1_6 dk_vs1_1
theorem dX9_paste_144 : decode cX9_paste 144 = .ok (.goto (-31), 3) := dk_167 ((dQ_X9_paste_9 0).trans dk_j0) ((dQ_X9_paste_9 1).trans dk_j1) ((dQ_X9_paste_9 2).trans dk_j2) dk_vs2_255_225
theorem dX9_paste_147 : decode cX9_paste 147 = .ok (.iconst 0, 1) := dk_3 ((dQ_X9_paste_9 3).trans dk_j3)
theorem dX9_paste_148 : decode cX9_paste 148 = .ok (.istore 6, 2) := dk_54 ((dQ_X9_paste_9 4).trans dk_j4) ((dQ_X9_paste_9 5).trans dk_j5) dk_vu1_6
theorem dX9_paste_150 : decode cX9_paste 150 = .ok (.iload 6, 2) := dk_21 ((dQ_X9_paste_9 6).trans dk_j6) ((dQ_X9_paste_9 7).trans dk_j7) dk_vu1_6
theorem dX9_paste_152 : decode cX9_paste 152 = .ok (.iload 5, 2) := dk_21 ((dQ_X9_paste_9 8).trans dk_j8) ((dQ_X9_paste_9 9).trans dk_j9) dk_vu1_5
theorem dX9_paste_154 : decode cX9_paste 154 = .ok (.if_icmp .ge 31, 3) := dk_162 ((dQ_X9_paste_9 10).trans dk_j10) ((dQ_X9_paste_9 11).trans dk_j11) ((dQ_X9_paste_9 12).trans dk_j12) dk_vs2_0_31
theorem dX9_paste_157 : decode cX9_paste 157 = .ok (.aload_n 0, 1) := dk_42 ((dQ_X9_paste_9 13).trans dk_j13)
theorem dX9_paste_158 : decode cX9_paste 158 = .ok (.getfield 82, 3) := dk_180 ((dQ_X9_paste_9 14).trans dk_j14) ((dQ_X9_paste_9 15).trans dk_j15) ((dQ_X9_paste_10 0).trans dk_j0) dk_vu2_0_82
theorem dX9_paste_161 : decode cX9_paste 161 = .ok (.bipush 60, 2) := dk_16 ((dQ_X9_paste_10 1).trans dk_j1) ((dQ_X9_paste_10 2).trans dk_j2) dk_vs1_60
theorem dX9_paste_163 : decode cX9_paste 163 = .ok (.iload_n 3, 1) := dk_29 ((dQ_X9_paste_10 3).trans dk_j3)
theorem dX9_paste_164 : decode cX9_paste 164 = .ok (.imul, 1) := dk_104 ((dQ_X9_paste_10 4).trans dk_j4)
theorem dX9_paste_165 : decode cX9_paste 165 = .ok (.iload 4, 2) := dk_21 ((dQ_X9_paste_10 5).trans dk_j5) ((dQ_X9_paste_10 6).trans dk_j6) dk_vu1_4
theorem dX9_paste_167 : decode cX9_paste 167 = .ok (.iadd, 1) := dk_96 ((dQ_X9_paste_10 7).trans dk_j7)
theorem dX9_paste_168 : decode cX9_paste 168 = .ok (.iload 6, 2) := dk_21 ((dQ_X9_paste_10 8).trans dk_j8) ((dQ_X9_paste_10 9).trans dk_j9) dk_vu1_6
theorem dX9_paste_170 : decode cX9_paste 170 = .ok (.iadd, 1) := dk_96 ((dQ_X9_paste_10 10).trans dk_j10)
theorem dX9_paste_171 : decode cX9_paste 171 = .ok (.aload_n 0, 1) := dk_42 ((dQ_X9_paste_10 11).trans dk_j11)
theorem dX9_paste_172 : decode cX9_paste 172 = .ok (.getfield 86, 3) := dk_180 ((dQ_X9_paste_10 12).trans dk_j12) ((dQ_X9_paste_10 13).trans dk_j13) ((dQ_X9_paste_10 14).trans dk_j14) dk_vu2_0_86
theorem dX9_paste_175 : decode cX9_paste 175 = .ok (.iload 6, 2) := dk_21 ((dQ_X9_paste_10 15).trans dk_j15) ((dQ_X9_paste_11 0).trans dk_j0) dk_vu1_6
theorem dX9_paste_177 : decode cX9_paste 177 = .ok (.laload, 1) := dk_47 ((dQ_X9_paste_11 1).trans dk_j1)
theorem dX9_paste_178 : decode cX9_paste 178 = .ok (.lastore, 1) := dk_80 ((dQ_X9_paste_11 2).trans dk_j2)
theorem dX9_paste_179 : decode cX9_paste 179 = .ok (.iinc 6 1, 3) := dk_132 ((dQ_X9_paste_11 3).trans dk_j3) ((dQ_X9_paste_11 4).trans dk_j4) ((dQ_X9_paste_11 5).trans dk_j5) dk_vu1_6 dk_vs1_1
theorem dX9_paste_182 : decode cX9_paste 182 = .ok (.goto (-32), 3) := dk_167 ((dQ_X9_paste_11 6).trans dk_j6) ((dQ_X9_paste_11 7).trans dk_j7) ((dQ_X9_paste_11 8).trans dk_j8) dk_vs2_255_224
theorem dX9_paste_185 : decode cX9_paste 185 = .ok (.iconst 0, 1) := dk_3 ((dQ_X9_paste_11 9).trans dk_j9)
theorem dX9_paste_186 : decode cX9_paste 186 = .ok (.ireturn, 1) := dk_172 ((dQ_X9_paste_11 10).trans dk_j10)
