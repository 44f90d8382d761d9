def dT_X8_init_9 : List UInt8 := (0x59 : UInt8) :: (0xb7 : UInt8) :: (0x00 : UInt8) :: (0x09 : UInt8) :: (0x53 : UInt8) :: (0x84 : UInt8) :: (0x01 : UInt8) :: (0x01 : UInt8) :: (0xa7 : UInt8) :: (0xff : UInt8) :: (0xeb : UInt8) :: (0xb1 : UInt8) :: []
def dT_X8_init_8 : List UInt8 := (0x4b : UInt8) :: (0x03 : UInt8) :: (0x3c : UInt8) :: (0x1b : UInt8) :: (0x06 : UInt8) :: (0xa2 : UInt8) :: (0x00 : UInt8) :: (0x16 : UInt8) :: (0x2a : UInt8) :: (0xb4 : UInt8) :: (0x00 : UInt8) :: (0x13 : UInt8) :: (0x1b : UInt8) :: (0xbb : UInt8) :: (0x00 : UInt8) :: (0x07 : UInt8) :: dT_X8_init_9
def dT_X8_init_7 : List UInt8 := (0xb7 : UInt8) :: (0x00 : UInt8) :: (0x43 : UInt8) :: (0xb5 : UInt8) :: (0x00 : UInt8) :: (0x44 : UInt8) :: (0x2a : UInt8) :: (0xbb : UInt8) :: (0x00 : UInt8) :: (0x48 : UInt8) :: (0x59 : UInt8) :: (0xb7 : UInt8) :: (0x00 : UInt8) :: (0x4a : UInt8) :: (0xb5 : UInt8) :: (0x00 : UInt8) :: dT_X8_init_8
def dT_X8_init_6 : List UInt8 := (0x2a : UInt8) :: (0xbb : UInt8) :: (0x00 : UInt8) :: (0x3a : UInt8) :: (0x59 : UInt8) :: (0xb7 : UInt8) :: (0x00 : UInt8) :: (0x3c : UInt8) :: (0xb5 : UInt8) :: (0x00 : UInt8) :: (0x3d : UInt8) :: (0x2a : UInt8) :: (0xbb : UInt8) :: (0x00 : UInt8) :: (0x41 : UInt8) :: (0x59 : UInt8) :: dT_X8_init_7
def dT_X8_init_5 : List UInt8 := (0x00 : UInt8) :: (0x2b : UInt8) :: (0xb5 : UInt8) :: (0x00 : UInt8) :: (0x30 : UInt8) :: (0x2a : UInt8) :: (0xbb : UInt8) :: (0x00 : UInt8) :: (0x33 : UInt8) :: (0x59 : UInt8) :: (0xb7 : UInt8) :: (0x00 : UInt8) :: (0x35 : UInt8) :: (0xb5 : UInt8) :: (0x00 : UInt8) :: (0x36 : UInt8) :: dT_X8_init_6
def dT_X8_init_4 : List UInt8 := (0xbb : UInt8) :: (0x00 : UInt8) :: (0x29 : UInt8) :: (0x59 : UInt8) :: (0xb7 : UInt8) :: (0x00 : UInt8) :: (0x2b : UInt8) :: (0xb5 : UInt8) :: (0x00 : UInt8) :: (0x2c : UInt8) :: (0x2a : UInt8) :: (0xbb : UInt8) :: (0x00 : UInt8) :: (0x29 : UInt8) :: (0x59 : UInt8) :: (0xb7 : UInt8) :: dT_X8_init_5
def dT_X8_init_3 : List UInt8 := (0x1d : UInt8) :: (0xb5 : UInt8) :: (0x00 : UInt8) :: (0x1e : UInt8) :: (0x2a : UInt8) :: (0xbb : UInt8) :: (0x00 : UInt8) :: (0x22 : UInt8) :: (0x59 : UInt8) :: (0xb7 : UInt8) :: (0x00 : UInt8) :: (0x24 : UInt8) :: (0xb5 : UInt8) :: (0x00 : UInt8) :: (0x25 : UInt8) :: (0x2a : UInt8) :: dT_X8_init_4
def dT_X8_init_2 : List UInt8 := (0x00 : UInt8) :: (0x13 : UInt8) :: (0x2a : UInt8) :: (0x06 : UInt8) :: (0xbc : UInt8) :: (0x04 : UInt8) :: (0xb5 : UInt8) :: (0x00 : UInt8) :: (0x17 : UInt8) :: (0x2a : UInt8) :: (0xbb : UInt8) :: (0x00 : UInt8) :: (0x1b : UInt8) :: (0x59 : UInt8) :: (0xb7 : UInt8) :: (0x00 : UInt8) :: dT_X8_init_3
def dT_X8_init_1 : List UInt8 := (0xbb : UInt8) :: (0x00 : UInt8) :: (0x07 : UInt8) :: (0x59 : UInt8) :: (0xb7 : UInt8) :: (0x00 : UInt8) :: (0x09 : UInt8) :: (0xb5 : UInt8) :: (0x00 : UInt8) :: (0x10 : UInt8) :: (0x2a : UInt8) :: (0x06 : UInt8) :: (0xbd : UInt8) :: (0x00 : UInt8) :: (0x07 : UInt8) :: (0xb5 : UInt8) :: dT_X8_init_2
def dT_X8_init_0 : List UInt8 := (0x2a : UInt8) :: (0xb7 : UInt8) :: (0x00 : UInt8) :: (0x01 : UInt8) :: (0x2a : UInt8) :: (0xbb : UInt8) :: (0x00 : UInt8) :: (0x07 : UInt8) :: (0x59 : UInt8) :: (0xb7 : UInt8) :: (0x00 : UInt8) :: (0x09 : UInt8) :: (0xb5 : UInt8) :: (0x00 : UInt8) :: (0x0a : UInt8) :: (0x2a : UInt8) :: dT_X8_init_1
theorem dT_X8_init : cX8_init.data.toList = dT_X8_init_0 := eq_of_beq (show (cX8_init.data.toList == dT_X8_init_0) = true by decide +kernel)
theorem dQ_X8_init_0 : dQ_P cX8_init 0 dT_X8_init_0 := fun i => by rw [dT_X8_init]; rfl
theorem dQ_X8_init_1 : dQ_P cX8_init 16 dT_X8_init_1 := fun i => (dQ_X8_init_0 (i + 16)).trans dk_t
theorem dQ_X8_init_2 : dQ_P cX8_init 32 dT_X8_init_2 := fun i => (dQ_X8_init_1 (i + 16)).trans dk_t
theorem dQ_X8_init_3 : dQ_P cX8_init 48 dT_X8_init_3 := fun i => (dQ_X8_init_2 (i + 16)).trans dk_t
theorem dQ_X8_init_4 : dQ_P cX8_init 64 dT_X8_init_4 := fun i => (dQ_X8_init_3 (i + 16)).trans dk_t
theorem dQ_X8_init_5 : dQ_P cX8_init 80 dT_X8_init_5 := fun i => (dQ_X8_init_4 (i + 16)).trans dk_t
theorem dQ_X8_init_6 : dQ_P cX8_init 96 dT_X8_init_6 := fun i => (dQ_X8_init_5 (i + 16)).trans dk_t
theorem dQ_X8_init_7 : dQ_P cX8_init 112 dT_X8_init_7 := fun i => (dQ_X8_init_6 (i + 16)).trans dk_t
theorem dQ_X8_init_8 : dQ_P cX8_init 128 dT_X8_init_8 := fun i => (dQ_X8_init_7 (i + 16)).trans dk_t
theorem dQ_X8_init_9 : dQ_P cX8_init 144 dT_X8_init_9 := fun i => (dQ_X8_init_8 (i + 16)).trans dk_t
theorem dX8_init_0 : decode cX8_init 0 = .ok (.aload_n 0, 1) := dk_42 ((dQ_X8_init_0 0).trans dk_j0)
theorem dk_vu2_0_1 : (0x00 : UInt8).toNat * 256 + (0x01 : UInt8).toNat = (1 : Nat) := by decide +kernel
theorem dX8_init_1 : decode cX8_init 1 = .ok (.invokespecial 1, 3) := dk_183 ((dQ_X8_init_0 1).trans dk_j1) ((dQ_X8_init_0 2).trans dk_j2) ((dQ_X8_init_0 3).trans dk_j3) dk_vu2_0_1
theorem dX8_init_4 : decode cX8_init 4 = .ok (.aload_n 0, 1) := dk_42 ((dQ_X8_init_0 4).trans dk_j4)
theorem dk_vu2_0_7 : (0x00 : UInt8).toNat * 256 + (0x07 : UInt8).toNat = (7 : Nat) := by decide +kernel
theorem dX8_init_5 : decode cX8_init 5 = .ok (.new 7, 3) := dk_187 ((dQ_X8_init_0 5).trans dk_j5) ((dQ_X8_init_0 6).trans dk_j6) ((dQ_X8_init_0 7).trans dk_j7) dk_vu2_0_7
theorem dX8_init_8 : decode cX8_init 8 = .ok (.dup, 1) := dk_89 ((dQ_X8_init_0 8).trans dk_j8)
theorem dX8_init_9 : decode cX8_init 9 = .ok (.invokespecial 9, 3) := dk_183 ((dQ_X8_init_0 9).trans dk_j9) ((dQ_X8_init_0 10).trans dk_j10) ((dQ_X8_init_0 11).trans dk_j11) dk_vu2_0_9
theorem dk_vu2_0_10 : (0x00 : UInt8).toNat * 256 + (0x0a : UInt8).toNat = (10 : Nat) := by decide +kernel
theorem dX8_init_12 : decode cX8_init 12 = .ok (.putfield 10, 3) := dk_181 ((dQ_X8_init_0 12).trans dk_j12) ((dQ_X8_init_0 13).trans dk_j13) ((dQ_X8_init_0 14).trans dk_j14) dk_vu2_0_10
theorem dX8_init_15 : decode cX8_init 15 = .ok (.aload_n 0, 1) := dk_42 ((dQ_X8_init_0 15).trans dk_j15)
theorem dX8_init_16 : decode cX8_init 16 = .ok (.new 7, 3) := dk_187 ((dQ_X8_init_1 0).trans dk_j0) ((dQ_X8_init_1 1).trans dk_j1) ((dQ_X8_init_1 2).trans dk_j2) dk_vu2_0_7
theorem dX8_init_19 : decode cX8_init 19 = .ok (.dup, 1) := dk_89 ((dQ_X8_init_1 3).trans dk_j3)
theorem dX8_init_20 : decode cX8_init 20 = .ok (.invokespecial 9, 3) := dk_183 ((dQ_X8_init_1 4).trans dk_j4) ((dQ_X8_init_1 5).trans dk_j5) ((dQ_X8_init_1 6).trans dk_j6) dk_vu2_0_9
theorem dX8_init_23 : decode cX8_init 23 = .ok (.putfield 16, 3) := dk_181 ((dQ_X8_init_1 7).trans dk_j7) ((dQ_X8_init_1 8).trans dk_j8) ((dQ_X8_init_1 9).trans dk_j9) dk_vu2_0_16
theorem dX8_init_26 : decode cX8_init 26 = .ok (.aload_n 0, 1) := dk_42 ((dQ_X8_init_1 10).trans dk_j10)
theorem dX8_init_27 : decode cX8_init 27 = .ok (.iconst 3, 1) := dk_6 ((dQ_X8_init_1 11).trans dk_j11)
theorem dX8_init_28 : decode cX8_init 28 = .ok (.anewarray 7, 3) := dk_189 ((dQ_X8_init_1 12).trans dk_j12) ((dQ_X8_init_1 13).trans dk_j13) ((dQ_X8_init_1 14).trans dk_j14) dk_vu2_0_7
theorem dk_vu2_0_19 : (0x00 : UInt8).toNat * 256 + (0x13 : UInt8).toNat = (19 : Nat) := by decide +kernel
theorem dX8_init_31 : decode cX8_init 31 = .ok (.putfield 19, 3) := dk_181 ((dQ_X8_init_1 15).trans dk_j15) ((dQ_X8_init_2 0).trans dk_j0) ((dQ_X8_init_2 1).trans dk_j1) dk_vu2_0_19
theorem dX8_init_34 : decode cX8_init 34 = .ok (.aload_n 0, 1) := dk_42 ((dQ_X8_init_2 2).trans dk_j2)
theorem dX8_init_35 : decode cX8_init 35 = .ok (.iconst 3, 1) := dk_6 ((dQ_X8_init_2 3).trans dk_j3)
theorem dX8_init_36 : decode cX8_init 36 = .ok (.newarray .boolean, 2) := by decide +kernel
theorem dk_vu2_0_23 : (0x00 : UInt8).toNat * 256 + (0x17 : UInt8).toNat = (23 : Nat) := by decide +kernel
theorem dX8_init_38 : decode cX8_init 38 = .ok (.putfield 23, 3) := dk_181 ((dQ_X8_init_2 6).trans dk_j6) ((dQ_X8_init_2 7).trans dk_j7) ((dQ_X8_init_2 8).trans dk_j8) dk_vu2_0_23
theorem dX8_init_41 : decode cX8_init 41 = .ok (.aload_n 0, 1) := dk_42 ((dQ_X8_init_2 9).trans dk_j9)
theorem dX8_init_42 : decode cX8_init 42 = .ok (.new 27, 3) := dk_187 ((dQ_X8_init_2 10).trans dk_j10) ((dQ_X8_init_2 11).trans dk_j11) ((dQ_X8_init_2 12).trans dk_j12) dk_vu2_0_27
theorem dX8_init_45 : decode cX8_init 45 = .ok (.dup, 1) := dk_89 ((dQ_X8_init_2 13).trans dk_j13)
theorem dk_vu2_0_29 : (0x00 : UInt8).toNat * 256 + (0x1d : UInt8).toNat = (29 : Nat) := by decide +kernel
theorem dX8_init_46 : decode cX8_init 46 = .ok (.invokespecial 29, 3) := dk_183 ((dQ_X8_init_2 14).trans dk_j14) ((dQ_X8_init_2 15).trans dk_j15) ((dQ_X8_init_3 0).trans dk_j0) dk_vu2_0_29
theorem dk_vu2_0_30 : (0x00 : UInt8).toNat * 256 + (0x1e : UInt8).toNat = (30 : Nat) := by decide +kernel
theorem dX8_init_49 : decode cX8_init 49 = .ok (.putfield 30, 3) := dk_181 ((dQ_X8_init_3 1).trans dk_j1) ((dQ_X8_init_3 2).trans dk_j2) ((dQ_X8_init_3 3).trans dk_j3) dk_vu2_0_30
theorem dX8_init_52 : decode cX8_init 52 = .ok (.aload_n 0, 1) := dk_42 ((dQ_X8_init_3 4).trans dk_j4)
theorem dX8_init_53 : decode cX8_init 53 = .ok (.new 34, 3) := dk_187 ((dQ_X8_init_3 5).trans dk_j5) ((dQ_X8_init_3 6).trans dk_j6) ((dQ_X8_init_3 7).trans dk_j7) dk_vu2_0_34
theorem dX8_init_56 : decode cX8_init 56 = .ok (.dup, 1) := dk_89 ((dQ_X8_init_3 8).trans dk_j8)
theorem dk_vu2_0_36 : (0x00 : UInt8).toNat * 256 + (0x24 : UInt8).toNat = (36 : Nat) := by decide +kernel
theorem dX8_init_57 : decode cX8_init 57 = .ok (.invokespecial 36, 3) := dk_183 ((dQ_X8_init_3 9).trans dk_j9) ((dQ_X8_init_3 10).trans dk_j10) ((dQ_X8_init_3 11).trans dk_j11) dk_vu2_0_36
theorem dX8_init_60 : decode cX8_init 60 = .ok (.putfield 37, 3) := dk_181 ((dQ_X8_init_3 12).trans dk_j12) ((dQ_X8_init_3 13).trans dk_j13) ((dQ_X8_init_3 14).trans dk_j14) dk_vu2_0_37
theorem dX8_init_63 : decode cX8_init 63 = .ok (.aload_n 0, 1) := dk_42 ((dQ_X8_init_3 15).trans dk_j15)
theorem dk_vu2_0_41 : (0x00 : UInt8).toNat * 256 + (0x29 : UInt8).toNat = (41 : Nat) := by decide +kernel
theorem dX8_init_64 : decode cX8_init 64 = .ok (.new 41, 3) := dk_187 ((dQ_X8_init_4 0).trans dk_j0) ((dQ_X8_init_4 1).trans dk_j1) ((dQ_X8_init_4 2).trans dk_j2) dk_vu2_0_41
theorem dX8_init_67 : decode cX8_init 67 = .ok (.dup, 1) := dk_89 ((dQ_X8_init_4 3).trans dk_j3)
theorem dX8_init_68 : decode cX8_init 68 = .ok (.invokespecial 43, 3) := dk_183 ((dQ_X8_init_4 4).trans dk_j4) ((dQ_X8_init_4 5).trans dk_j5) ((dQ_X8_init_4 6).trans dk_j6) dk_vu2_0_43
theorem dk_vu2_0_44 : (0x00 : UInt8).toNat * 256 + (0x2c : UInt8).toNat = (44 : Nat) := by decide +kernel
theorem dX8_init_71 : decode cX8_init 71 = .ok (.putfield 44, 3) := dk_181 ((dQ_X8_init_4 7).trans dk_j7) ((dQ_X8_init_4 8).trans dk_j8) ((dQ_X8_init_4 9).trans dk_j9) dk_vu2_0_44
theorem dX8_init_74 : decode cX8_init 74 = .ok (.aload_n 0, 1) := dk_42 ((dQ_X8_init_4 10).trans dk_j10)
theorem dX8_init_75 : decode cX8_init 75 = .ok (.new 41, 3) := dk_187 ((dQ_X8_init_4 11).trans dk_j11) ((dQ_X8_init_4 12).trans dk_j12) ((dQ_X8_init_4 13).trans dk_j13) dk_vu2_0_41
theorem dX8_init_78 : decode cX8_init 78 = .ok (.dup, 1) := dk_89 ((dQ_X8_init_4 14).trans dk_j14)
theorem dX8_init_79 : decode cX8_init 79 = .ok (.invokespecial 43, 3) := dk_183 ((dQ_X8_init_4 15).trans dk_j15) ((dQ_X8_init_5 0).trans dk_j0) ((dQ_X8_init_5 1).trans dk_j1) dk_vu2_0_43
theorem dk_vu2_0_48 : (0x00 : UInt8).toNat * 256 + (0x30 : UInt8).toNat = (48 : Nat) := by decide +kernel
theorem dX8_init_82 : decode cX8_init 82 = .ok (.putfield 48, 3) := dk_181 ((dQ_X8_init_5 2).trans dk_j2) ((dQ_X8_init_5 3).trans dk_j3) ((dQ_X8_init_5 4).trans dk_j4) dk_vu2_0_48
theorem dX8_init_85 : decode cX8_init 85 = .ok (.aload_n 0, 1) := dk_42 ((dQ_X8_init_5 5).trans dk_j5)
theorem dk_vu2_0_51 : (0x00 : UInt8).toNat * 256 + (0x33 : UInt8).toNat = (51 : Nat) := by decide +kernel
theorem dX8_init_86 : decode cX8_init 86 = .ok (.new 51, 3) := dk_187 ((dQ_X8_init_5 6).trans dk_j6) ((dQ_X8_init_5 7).trans dk_j7) ((dQ_X8_init_5 8).trans dk_j8) dk_vu2_0_51
theorem dX8_init_89 : decode cX8_init 89 = .ok (.dup, 1) := dk_89 ((dQ_X8_init_5 9).trans dk_j9)
theorem dk_vu2_0_53 : (0x00 : UInt8).toNat * 256 + (0x35 : UInt8).toNat = (53 : Nat) := by decide +kernel
theorem dX8_init_90 : decode cX8_init 90 = .ok (.invokespecial 53, 3) := dk_183 ((dQ_X8_init_5 10).trans dk_j10) ((dQ_X8_init_5 11).trans dk_j11) ((dQ_X8_init_5 12).trans dk_j12) dk_vu2_0_53
theorem dk_vu2_0_54 : (0x00 : UInt8).toNat * 256 + (0x36 : UInt8).toNat = (54 : Nat) := by decide +kernel
theorem dX8_init_93 : decode cX8_init 93 = .ok (.putfield 54, 3) := dk_181 ((dQ_X8_init_5 13).trans dk_j13) ((dQ_X8_init_5 14).trans dk_j14) ((dQ_X8_init_5 15).trans dk_j15) dk_vu2_0_54
theorem dX8_init_96 : decode cX8_init 96 = .ok (.aload_n 0, 1) := dk_42 ((dQ_X8_init_6 0).trans dk_j0)
theorem dX8_init_97 : decode cX8_init 97 = .ok (.new 58, 3) := dk_187 ((dQ_X8_init_6 1).trans dk_j1) ((dQ_X8_init_6 2).trans dk_j2) ((dQ_X8_init_6 3).trans dk_j3) dk_vu2_0_58
theorem dX8_init_100 : decode cX8_init 100 = .ok (.dup, 1) := dk_89 ((dQ_X8_init_6 4).trans dk_j4)
theorem dk_vu2_0_60 : (0x00 : UInt8).toNat * 256 + (0x3c : UInt8).toNat = (60 : Nat) := by decide +kernel
theorem dX8_init_101 : decode cX8_init 101 = .ok (.invokespecial 60, 3) := dk_183 ((dQ_X8_init_6 5).trans dk_j5) ((dQ_X8_init_6 6).trans dk_j6) ((dQ_X8_init_6 7).trans dk_j7) dk_vu2_0_60
theorem dX8_init_104 : decode cX8_init 104 = .ok (.putfield 61, 3) := dk_181 ((dQ_X8_init_6 8).trans dk_j8) ((dQ_X8_init_6 9).trans dk_j9) ((dQ_X8_init_6 10).trans dk_j10) dk_vu2_0_61
theorem dX8_init_107 : decode cX8_init 107 = .ok (.aload_n 0, 1) := dk_42 ((dQ_X8_init_6 11).trans dk_j11)
theorem dk_vu2_0_65 : (0x00 : UInt8).toNat * 256 + (0x41 : UInt8).toNat = (65 : Nat) := by decide +kernel
theorem dX8_init_108 : decode cX8_init 108 = .ok (.new 65, 3) := dk_187 ((dQ_X8_init_6 12).trans dk_j12) ((dQ_X8_init_6 13).trans dk_j13) ((dQ_X8_init_6 14).trans dk_j14) dk_vu2_0_65
theorem dX8_init_111 : decode cX8_init 111 = .ok (.dup, 1) := dk_89 ((dQ_X8_init_6 15).trans dk_j15)
theorem dX8_init_112 : decode cX8_init 112 = .ok (.invokespecial 67, 3) := dk_183 ((dQ_X8_init_7 0).trans dk_j0) ((dQ_X8_init_7 1).trans dk_j1) ((dQ_X8_init_7 2).trans dk_j2) dk_vu2_0_67
theorem dk_vu2_0_68 : (0x00 : UInt8).toNat * 256 + (0x44 : UInt8).toNat = (68 : Nat) := by decide +kernel
theorem dX8_init_115 : decode cX8_init 115 = .ok (.putfield 68, 3) := dk_181 ((dQ_X8_init_7 3).trans dk_j3) ((dQ_X8_init_7 4).trans dk_j4) ((dQ_X8_init_7 5).trans dk_j5) dk_vu2_0_68
theorem dX8_init_118 : decode cX8_init 118 = .ok (.aload_n 0, 1) := dk_42 ((dQ_X8_init_7 6).trans dk_j6)
theorem dk_vu2_0_72 : (0x00 : UInt8).toNat * 256 + (0x48 : UInt8).toNat = (72 : Nat) := by decide +kernel
theorem dX8_init_119 : decode cX8_init 119 = .ok (.new 72, 3) := dk_187 ((dQ_X8_init_7 7).trans dk_j7) ((dQ_X8_init_7 8).trans dk_j8) ((dQ_X8_init_7 9).trans dk_j9) dk_vu2_0_72
theorem dX8_init_122 : decode cX8_init 122 = .ok (.dup, 1) := dk_89 ((dQ_X8_init_7 10).trans dk_j10)
theorem dk_vu2_0_74 : (0x00 : UInt8).toNat * 256 + (0x4a : UInt8).toNat = (74 : Nat) := by decide +kernel
theorem dX8_init_123 : decode cX8_init 123 = .ok (.invokespecial 74, 3) := dk_183 ((dQ_X8_init_7 11).trans dk_j11) ((dQ_X8_init_7 12).trans dk_j12) ((dQ_X8_init_7 13).trans dk_j13) dk_vu2_0_74
theorem dk_vu2_0_75 : (0x00 : UInt8).toNat * 256 + (0x4b : UInt8).toNat = (75 : Nat) := by decide +kernel
theorem dX8_init_126 : decode cX8_init 126 = .ok (.putfield 75, 3) := dk_181 ((dQ_X8_init_7 14).trans dk_j14) ((dQ_X8_init_7 15).trans dk_j15) ((dQ_X8_init_8 0).trans dk_j0) dk_vu2_0_75
theorem dX8_init_129 : decode cX8_init 129 = .ok (.iconst 0, 1) := dk_3 ((dQ_X8_init_8 1).trans dk_j1)
theorem dX8_init_130 : decode cX8_init 130 = .ok (.istore_n 1, 1) := dk_60 ((dQ_X8_init_8 2).trans dk_j2)
theorem dX8_init_131 : decode cX8_init 131 = .ok (.iload_n 1, 1) := dk_27 ((dQ_X8_init_8 3).trans dk_j3)
theorem dX8_init_132 : decode cX8_init 132 = .ok (.iconst 3, 1) := dk_6 ((dQ_X8_init_8 4).trans dk_j4)
theorem dX8_init_133 : decode cX8_init 133 = .ok (.if_icmp .ge 22, 3) := dk_162 ((dQ_X8_init_8 5).trans dk_j5) ((dQ_X8_init_8 6).trans dk_j6) ((dQ_X8_init_8 7).trans dk_j7) dk_vs2_0_22
theorem dX8_init_136 : decode cX8_init 136 = .ok (.aload_n 0, 1) := dk_42 ((dQ_X8_init_8 8).trans dk_j8)
theorem dX8_init_137 : decode cX8_init 137 = .ok (.getfield 19, 3) := dk_180 ((dQ_X8_init_8 9).trans dk_j9) ((dQ_X8_init_8 10).trans dk_j10) ((dQ_X8_init_8 11).trans dk_j11) dk_vu2_0_19
theorem dX8_init_140 : decode cX8_init 140 = .ok (.iload_n 1, 1) := dk_27 ((dQ_X8_init_8 12).trans dk_j12)
theorem dX8_init_141 : decode cX8_init 141 = .ok (.new 7, 3) := dk_187 ((dQ_X8_init_8 13).trans dk_j13) ((dQ_X8_init_8 14).trans dk_j14) ((dQ_X8_init_8 15).trans dk_j15) dk_vu2_0_7
theorem dX8_init_144 : decode cX8_init 144 = .ok (.dup, 1) := dk_89 ((dQ_X8_init_9 0).trans dk_j0)
theorem dX8_init_145 : decode cX8_init 145 = .ok (.invokespecial 9, 3) := dk_183 ((dQ_X8_init_9 1).trans dk_j1) ((dQ_X8_init_9 2).trans dk_j2) ((dQ_X8_init_9 3).trans dk_j3) dk_vu2_0_9
theorem dX8_init_148 : decode cX8_init 148 = .ok (.aastore, 1) := dk_83 ((dQ_X8_init_9 4).trans dk_j4)
theorem dX8_init_149 : decode cX8_init 149 = .ok (.iinc 1 1, 3) := dk_132 ((dQ_X8_init_9 5).trans dk_j5) ((dQ_X8_init_9 6).trans dk_j6) ((dQ_X8_init_9 7).trans dk_j7) dk_vu1_1 dk_vs1_1
theorem dX8_init_152 : decode cX8_init 152 = .ok (.goto (-21), 3) := dk_167 ((dQ_X8_init_9 8).trans dk_j8) ((dQ_X8_init_9 9).trans dk_j9) ((dQ_X8_init_9 10).trans dk_j10) dk_vs2_255_235
theorem dX8_init_155 : decode cX8_init 155 = .ok (.return_, 1) := dk_177 ((dQ_X8_init_9 11).trans dk_j11)
def dT_X8_feed_4 : List UInt8 := (0xb4 : UInt8) :: (0x00 : UInt8) :: (0x4f : UInt8) :: (0xac : UInt8) :: []
def dT_X8_feed_3 : List UInt8 := (0xb6 : UInt8) :: (0x00 : UInt8) :: (0x53 : UInt8) :: (0x2a : UInt8) :: (0xb4 : UInt8) :: (0x00 : UInt8) :: (0x1e : UInt8) :: (0x15 : UInt8) :: (0x05 : UInt8) :: (0xb6 : UInt8) :: (0x00 : UInt8) :: (0x53 : UInt8) :: (0x2a : UInt8) :: (0xb4 : UInt8) :: (0x00 : UInt8) :: (0x1e : UInt8) :: dT_X8_feed_4
def dT_X8_feed_2 : List UInt8 := (0x00 : UInt8) :: (0x53 : UInt8) :: (0x2a : UInt8) :: (0xb4 : UInt8) :: (0x00 : UInt8) :: (0x1e : UInt8) :: (0x1d : UInt8) :: (0xb6 : UInt8) :: (0x00 : UInt8) :: (0x53 : UInt8) :: (0x2a : UInt8) :: (0xb4 : UInt8) :: (0x00 : UInt8) :: (0x1e : UInt8) :: (0x15 : UInt8) :: (0x04 : UInt8) :: dT_X8_feed_3
def dT_X8_feed_1 : List UInt8 := (0x02 : UInt8) :: (0xac : UInt8) :: (0x2a : UInt8) :: (0xb4 : UInt8) :: (0x00 : UInt8) :: (0x1e : UInt8) :: (0x1b : UInt8) :: (0xb6 : UInt8) :: (0x00 : UInt8) :: (0x53 : UInt8) :: (0x2a : UInt8) :: (0xb4 : UInt8) :: (0x00 : UInt8) :: (0x1e : UInt8) :: (0x1c : UInt8) :: (0xb6 : UInt8) :: dT_X8_feed_2
def dT_X8_feed_0 : List UInt8 := (0x2a : UInt8) :: (0xb4 : UInt8) :: (0x00 : UInt8) :: (0x1e : UInt8) :: (0xb4 : UInt8) :: (0x00 : UInt8) :: (0x4f : UInt8) :: (0x10 : UInt8) :: (0x14 : UInt8) :: (0x60 : UInt8) :: (0x11 : UInt8) :: (0x03 : UInt8) :: (0x84 : UInt8) :: (0xa4 : UInt8) :: (0x00 : UInt8) :: (0x05 : UInt8) :: dT_X8_feed_1
theorem dT_X8_feed : cX8_feed.data.toList = dT_X8_feed_0 := eq_of_beq (show (cX8_feed.data.toList == dT_X8_feed_0) = true by decide +kernel)
theorem dQ_X8_feed_0 : dQ_P cX8_feed 0 dT_X8_feed_0 := fun i => by rw [dT_X8_feed]; rfl
theorem dQ_X8_feed_1 : dQ_P cX8_feed 16 dT_X8_feed_1 := fun i => (dQ_X8_feed_0 (i + 16)).trans dk_t
theorem dQ_X8_feed_2 : dQ_P cX8_feed 32 dT_X8_feed_2 := fun i => (dQ_X8_feed_1 (i + 16)).trans dk_t
theorem dQ_X8_feed_3 : dQ_P cX8_feed 48 dT_X8_feed_3 := fun i => (dQ_X8_feed_2 (i + 16)).trans dk_t
theorem dQ_X8_feed_4 : dQ_P cX8_feed 64 dT_X8_feed_4 := fun i => (dQ_X8_feed_3 (i + 16)).trans dk_t
theorem dX8_feed_0 : decode cX8_feed 0 = .ok (.aload_n 0, 1) := dk_42 ((dQ_X8_feed_0 0).trans dk_j0)
theorem dX8_feed_1 : decode cX8_feed 1 = .ok (.getfield 30, 3) := dk_180 ((dQ_X8_feed_0 1).trans dk_j1) ((dQ_X8_feed_0 2).trans dk_j2) ((dQ_X8_feed_0 3).trans dk_j3) dk_vu2_0_30
theorem dX8_feed_4 : decode cX8_feed 4 = .ok (.getfield 79, 3) := dk_180 ((dQ_X8_feed_0 4).trans dk_j4) ((dQ_X8_feed_0 5).trans dk_j5) ((dQ_X8_feed_0 6).trans dk_j6) dk_vu2_0_79
theorem dX8_feed_7 : decode cX8_feed 7 = .ok (.bipush 20, 2) := dk_16 ((dQ_X8_feed_0 7).trans dk_j7) ((dQ_X8_feed_0 8).trans dk_j8) dk_vs1_20
theorem dX8_feed_9 : decode cX8_feed 9 = .ok (.iadd, 1) := dk_96 ((dQ_X8_feed_0 9).trans dk_j9)
theorem dX8_feed_10 : decode cX8_feed 10 = .ok (.sipush 900, 3) := dk_17 ((dQ_X8_feed_0 10).trans dk_j10) ((dQ_X8_feed_0 11).trans dk_j11) ((dQ_X8_feed_0 12).trans dk_j12) dk_vs2_3_132
theorem dX8_feed_13 : decode cX8_feed 13 = .ok (.if_icmp .le 5, 3) := dk_164 ((dQ_X8_feed_0 13).trans dk_j13) ((dQ_X8_feed_0 14).trans dk_j14) ((dQ_X8_feed_0 15).trans dk_j15) dk_vs2_0_5
theorem dX8_feed_16 : decode cX8_feed 16 = .ok (.iconst (-1), 1) := dk_2 ((dQ_X8_feed_1 0).trans dk_j0)
theorem dX8_feed_17 : decode cX8_feed 17 = .ok (.ireturn, 1) := dk_172 ((dQ_X8_feed_1 1).trans dk_j1)
theorem dX8_feed_18 : decode cX8_feed 18 = .ok (.aload_n 0, 1) := dk_42 ((dQ_X8_feed_1 2).trans dk_j2)
theorem dX8_feed_19 : decode cX8_feed 19 = .ok (.getfield 30, 3) := dk_180 ((dQ_X8_feed_1 3).trans dk_j3) ((dQ_X8_feed_1 4).trans dk_j4) ((dQ_X8_feed_1 5).trans dk_j5) dk_vu2_0_30
theorem dX8_feed_22 : decode cX8_feed 22 = .ok (.iload_n 1, 1) := dk_27 ((dQ_X8_feed_1 6).trans dk_j6)
theorem dk_vu2_0_83 : (0x00 : UInt8).toNat * 256 + (0x53 : UInt8).toNat = (83 : Nat) := by decide +kernel
theorem dX8_feed_23 : decode cX8_feed 23 = .ok (.invokevirtual 83, 3) := dk_182 ((dQ_X8_feed_1 7).trans dk_j7) ((dQ_X8_feed_1 8).trans dk_j8) ((dQ_X8_feed_1 9).trans dk_j9) dk_vu2_0_83
theorem dX8_feed_26 : decode cX8_feed 26 = .ok (.aload_n 0, 1) := dk_42 ((dQ_X8_feed_1 10).trans dk_j10)
theorem dX8_feed_27 : decode cX8_feed 27 = .ok (.getfield 30, 3) := dk_180 ((dQ_X8_feed_1 11).trans dk_j11) ((dQ_X8_feed_1 12).trans dk_j12) ((dQ_X8_feed_1 13).trans dk_j13) dk_vu2_0_30
theorem dX8_feed_30 : decode cX8_feed 30 = .ok (.iload_n 2, 1) := dk_28 ((dQ_X8_feed_1 14).trans dk_j14)
theorem dX8_feed_31 : decode cX8_feed 31 = .ok (.invokevirtual 83, 3) := dk_182 ((dQ_X8_feed_1 15).trans dk_j15) ((dQ_X8_feed_2 0).trans dk_j0) ((dQ_X8_feed_2 1).trans dk_j1) dk_vu2_0_83
theorem dX8_feed_34 : decode cX8_feed 34 = .ok (.aload_n 0, 1) := dk_42 ((dQ_X8_feed_2 2).trans dk_j2)
theorem dX8_feed_35 : decode cX8_feed 35 = .ok (.getfield 30, 3) := dk_180 ((dQ_X8_feed_2 3).trans dk_j3) ((dQ_X8_feed_2 4).trans dk_j4) ((dQ_X8_feed_2 5).trans dk_j5) dk_vu2_0_30
theorem dX8_feed_38 : decode cX8_feed 38 = .ok (.iload_n 3, 1) := dk_29 ((dQ_X8_feed_2 6).trans dk_j6)
theorem dX8_feed_39 : decode cX8_feed 39 = .ok (.invokevirtual 83, 3) := dk_182 ((dQ_X8_feed_2 7).trans dk_j7) ((dQ_X8_feed_2 8).trans dk_j8) ((dQ_X8_feed_2 9).trans dk_j9) dk_vu2_0_83
theorem dX8_feed_42 : decode cX8_feed 42 = .ok (.aload_n 0, 1) := dk_42 ((dQ_X8_feed_2 10).trans dk_j10)
theorem dX8_feed_43 : decode cX8_feed 43 = .ok (.getfield 30, 3) := dk_180 ((dQ_X8_feed_2 11).trans dk_j11) ((dQ_X8_feed_2 12).trans dk_j12) ((dQ_X8_feed_2 13).trans dk_j13) dk_vu2_0_30
theorem dX8_feed_46 : decode cX8_feed 46 = .ok (.iload 4, 2) := dk_21 ((dQ_X8_feed_2 14).trans dk_j14) ((dQ_X8_feed_2 15).trans dk_j15) dk_vu1_4
theorem dX8_feed_48 : decode cX8_feed 48 = .ok (.invokevirtual 83, 3) := dk_182 ((dQ_X8_feed_3 0).trans dk_j0) ((dQ_X8_feed_3 1).trans dk_j1) ((dQ_X8_feed_3 2).trans dk_j2) dk_vu2_0_83
theorem dX8_feed_51 : decode cX8_feed 51 = .ok (.aload_n 0, 1) := dk_42 ((dQ_X8_feed_3 3).trans dk_j3)
theorem dX8_feed_52 : decode cX8_feed 52 = .ok (.getfield 30, 3) := dk_180 ((dQ_X8_feed_3 4).trans dk_j4) ((dQ_X8_feed_3 5).trans dk_j5) ((dQ_X8_feed_3 6).trans dk_j6) dk_vu2_0_30
theorem dX8_feed_55 : decode cX8_feed 55 = .ok (.iload 5, 2) := dk_21 ((dQ_X8_feed_3 7).trans dk_j7) ((dQ_X8_feed_3 8).trans dk_j8) dk_vu1_5
theorem dX8_feed_57 : decode cX8_feed 57 = .ok (.invokevirtual 83, 3) := dk_182 ((dQ_X8_feed_3 9).trans dk_j9) ((dQ_X8_feed_3 10).trans dk_j10) ((dQ_X8_feed_3 11).trans dk_j11) dk_vu2_0_83
theorem dX8_feed_60 : decode cX8_feed 60 = .ok (.aload_n 0, 1) := dk_42 ((dQ_X8_feed_3 12).trans dk_j12)
theorem dX8_feed_61 : decode cX8_feed 61 = .ok (.getfield 30, 3) := dk_180 ((dQ_X8_feed_3 13).trans dk_j13) ((dQ_X8_feed_3 14).trans dk_j14) ((dQ_X8_feed_3 15).trans dk_j15) dk_vu2_0_30
theorem dX8_feed_64 : decode cX8_feed 64 = .ok (.getfield 79, 3) := dk_180 ((dQ_X8_feed_4 0).trans dk_j0) ((dQ_X8_feed_4 1).trans dk_j1) ((dQ_X8_feed_4 2).trans dk_j2) dk_vu2_0_79
theorem dX8_feed_67 : decode cX8_feed 67 = .ok (.ireturn, 1) := dk_172 ((dQ_X8_feed_4 3).trans dk_j3)
def dT_X8_end_1 : List UInt8 := (0xac : UInt8) :: (0x2a : UInt8) :: (0xb4 : UInt8) :: (0x00 : UInt8) :: (0x1e : UInt8) :: (0x1b : UInt8) :: (0xb5 : UInt8) :: (0x00 : UInt8) :: (0x4f : UInt8) :: (0x1b : UInt8) :: (0xac : UInt8) :: []
def dT_X8_end_0 : List UInt8 := (0x1b : UInt8) :: (0x9b : UInt8) :: (0x00 : UInt8) :: (0x0e : UInt8) :: (0x1b : UInt8) :: (0x2a : UInt8) :: (0xb4 : UInt8) :: (0x00 : UInt8) :: (0x1e : UInt8) :: (0xb4 : UInt8) :: (0x00 : UInt8) :: (0x4f : UInt8) :: (0xa4 : UInt8) :: (0x00 : UInt8) :: (0x05 : UInt8) :: (0x02 : UInt8) :: dT_X8_end_1
theorem dT_X8_end : cX8_end.data.toList = dT_X8_end_0 := eq_of_beq (show (cX8_end.data.toList == dT_X8_end_0) = true by decide +kernel)
theorem dQ_X8_end_0 : dQ_P cX8_end 0 dT_X8_end_0 := fun i => by rw [dT_X8_end]; rfl
theorem dQ_X8_end_1 : dQ_P cX8_end 16 dT_X8_end_1 := fun i => (dQ_X8_end_0 (i + 16)).trans dk_t
theorem dX8_end_0 : decode cX8_end 0 = .ok (.iload_n 1, 1) := dk_27 ((dQ_X8_end_0 0).trans dk_j0)
theorem dX8_end_1 : decode cX8_end 1 = .ok (.ifCond .lt 14, 3) := dk_155 ((dQ_X8_end_0 1).trans dk_j1) ((dQ_X8_end_0 2).trans dk_j2) ((dQ_X8_end_0 3).trans dk_j3) dk_vs2_0_14
theorem dX8_end_4 : decode cX8_end 4 = .ok (.iload_n 1, 1) := dk_27 ((dQ_X8_end_0 4).trans dk_j4)
theorem dX8_end_5 : decode cX8_end 5 = .ok (.aload_n 0, 1) := dk_42 ((dQ_X8_end_0 5).trans dk_j5)
theorem dX8_end_6 : decode cX8_end 6 = .ok (.getfield 30, 3) := dk_180 ((dQ_X8_end_0 6).trans dk_j6) ((dQ_X8_end_0 7).trans dk_j7) ((dQ_X8_end_0 8).trans dk_j8) dk_vu2_0_30
theorem dX8_end_9 : decode cX8_end 9 = .ok (.getfield 79, 3) := dk_180 ((dQ_X8_end_0 9).trans dk_j9) ((dQ_X8_end_0 10).trans dk_j10) ((dQ_X8_end_0 11).trans dk_j11) dk_vu2_0_79
theorem dX8_end_12 : decode cX8_end 12 = .ok (.if_icmp .le 5, 3) := dk_164 ((dQ_X8_end_0 12).trans dk_j12) ((dQ_X8_end_0 13).trans dk_j13) ((dQ_X8_end_0 14).trans dk_j14) dk_vs2_0_5
theorem dX8_end_15 : decode cX8_end 15 = .ok (.iconst (-1), 1) := dk_2 ((dQ_X8_end_0 15).trans dk_j15)
theorem dX8_end_16 : decode cX8_end 16 = .ok (.ireturn, 1) := dk_172 ((dQ_X8_end_1 0).trans dk_j0)
theorem dX8_end_17 : decode cX8_end 17 = .ok (.aload_n 0, 1) := dk_42 ((dQ_X8_end_1 1).trans dk_j1)
theorem dX8_end_18 : decode cX8_end 18 = .ok (.getfield 30, 3) := dk_180 ((dQ_X8_end_1 2).trans dk_j2) ((dQ_X8_end_1 3).trans dk_j3) ((dQ_X8_end_1 4).trans dk_j4) dk_vu2_0_30
theorem dX8_end_21 : decode cX8_end 21 = .ok (.iload_n 1, 1) := dk_27 ((dQ_X8_end_1 5).trans dk_j5)
theorem dX8_end_22 : decode cX8_end 22 = .ok (.putfield 79, 3) := dk_181 ((dQ_X8_end_1 6).trans dk_j6) ((dQ_X8_end_1 7).trans dk_j7) ((dQ_X8_end_1 8).trans dk_j8) dk_vu2_0_79
theorem dX8_end_25 : decode cX8_end 25 = .ok (.iload_n 1, 1) := dk_27 ((dQ_X8_end_1 9).trans dk_j9)
theorem dX8_end_26 : decode cX8_end 26 = .ok (.ireturn, 1) := dk_172 ((dQ_X8_end_1 10).trans dk_j10)
def dT_X8_house_3 : List UInt8 := (0xb4 : UInt8) :: (0x00 : UInt8) :: (0x0a : UInt8) :: (0xb4 : UInt8) :: (0x00 : UInt8) :: (0x64 : UInt8) :: (0x10 : UInt8) :: (0x0a : UInt8) :: (0x2e : UInt8) :: (0xac : UInt8) :: []
def dT_X8_house_2 : List UInt8 := (0x2a : UInt8) :: (0xb4 : UInt8) :: (0x00 : UInt8) :: (0x0a : UInt8) :: (0x2a : UInt8) :: (0xb4 : UInt8) :: (0x00 : UInt8) :: (0x10 : UInt8) :: (0xb6 : UInt8) :: (0x00 : UInt8) :: (0x5e : UInt8) :: (0x2a : UInt8) :: (0xb6 : UInt8) :: (0x00 : UInt8) :: (0x61 : UInt8) :: (0x2a : UInt8) :: dT_X8_house_3
def dT_X8_house_1 : List UInt8 := (0xb5 : UInt8) :: (0x00 : UInt8) :: (0x4f : UInt8) :: (0x2a : UInt8) :: (0xb4 : UInt8) :: (0x00 : UInt8) :: (0x1e : UInt8) :: (0xb4 : UInt8) :: (0x00 : UInt8) :: (0x5b : UInt8) :: (0x99 : UInt8) :: (0x00 : UInt8) :: (0x06 : UInt8) :: (0x10 : UInt8) :: (0xfc : UInt8) :: (0xac : UInt8) :: dT_X8_house_2
def dT_X8_house_0 : List UInt8 := (0x2a : UInt8) :: (0xb4 : UInt8) :: (0x00 : UInt8) :: (0x1e : UInt8) :: (0x2a : UInt8) :: (0xb4 : UInt8) :: (0x00 : UInt8) :: (0x10 : UInt8) :: (0xb6 : UInt8) :: (0x00 : UInt8) :: (0x57 : UInt8) :: (0x2a : UInt8) :: (0xb4 : UInt8) :: (0x00 : UInt8) :: (0x1e : UInt8) :: (0x03 : UInt8) :: dT_X8_house_1
theorem dT_X8_house : cX8_house.data.toList = dT_X8_house_0 := eq_of_beq (show (cX8_house.data.toList == dT_X8_house_0) = true by decide +kernel)
theorem dQ_X8_house_0 : dQ_P cX8_house 0 dT_X8_house_0 := fun i => by rw [dT_X8_house]; rfl
theorem dQ_X8_house_1 : dQ_P cX8_house 16 dT_X8_house_1 := fun i => (dQ_X8_house_0 (i + 16)).trans dk_t
theorem dQ_X8_house_2 : dQ_P cX8_house 32 dT_X8_house_2 := fun i => (dQ_X8_house_1 (i + 16)).trans dk_t
theorem dQ_X8_house_3 : dQ_P cX8_house 48 dT_X8_house_3 := fun i => (dQ_X8_house_2 (i + 16)).trans dk_t
theorem dX8_house_0 : decode cX8_house 0 = .ok (.aload_n 0, 1) := dk_42 ((dQ_X8_house_0 0).trans dk_j0)
theorem dX8_house_1 : decode cX8_house 1 = .ok (.getfield 30, 3) := dk_180 ((dQ_X8_house_0 1).trans dk_j1) ((dQ_X8_house_0 2).trans dk_j2) ((dQ_X8_house_0 3).trans dk_j3) dk_vu2_0_30
theorem dX8_house_4 : decode cX8_house 4 = .ok (.aload_n 0, 1) := dk_42 ((dQ_X8_house_0 4).trans dk_j4)
theorem dX8_house_5 : decode cX8_house 5 = .ok (.getfield 16, 3) := dk_180 ((dQ_X8_house_0 5).trans dk_j5) ((dQ_X8_house_0 6).trans dk_j6) ((dQ_X8_house_0 7).trans dk_j7) dk_vu2_0_16
theorem dk_vu2_0_87 : (0x00 : UInt8).toNat * 256 + (0x57 : UInt8).toNat = (87 : Nat) := by decide +kernel
theorem dX8_house_8 : decode cX8_house 8 = .ok (.invokevirtual 87, 3) := dk_182 ((dQ_X8_house_0 8).trans dk_j8) ((dQ_X8_house_0 9).trans dk_j9) ((dQ_X8_house_0 10).trans dk_j10) dk_vu2_0_87
theorem dX8_house_11 : decode cX8_house 11 = .ok (.aload_n 0, 1) := dk_42 ((dQ_X8_house_0 11).trans dk_j11)
theorem dX8_house_12 : decode cX8_house 12 = .ok (.getfield 30, 3) := dk_180 ((dQ_X8_house_0 12).trans dk_j12) ((dQ_X8_house_0 13).trans dk_j13) ((dQ_X8_house_0 14).trans dk_j14) dk_vu2_0_30
theorem dX8_house_15 : decode cX8_house 15 = .ok (.iconst 0, 1) := dk_3 ((dQ_X8_house_0 15).trans dk_j15)
theorem dX8_house_16 : decode cX8_house 16 = .ok (.putfield 79, 3) := dk_181 ((dQ_X8_house_1 0).trans dk_j0) ((dQ_X8_house_1 1).trans dk_j1) ((dQ_X8_house_1 2).trans dk_j2) dk_vu2_0_79
theorem dX8_house_19 : decode cX8_house 19 = .ok (.aload_n 0, 1) := dk_42 ((dQ_X8_house_1 3).trans dk_j3)
theorem dX8_house_20 : decode cX8_house 20 = .ok (.getfield 30, 3) := dk_180 ((dQ_X8_house_1 4).trans dk_j4) ((dQ_X8_house_1 5).trans dk_j5) ((dQ_X8_house_1 6).trans dk_j6) dk_vu2_0_30
theorem dk_vu2_0_91 : (0x00 : UInt8).toNat * 256 + (0x5b : UInt8).toNat = (91 : Nat) := by decide +kernel
theorem dX8_house_23 : decode cX8_house 23 = .ok (.getfield 91, 3) := dk_180 ((dQ_X8_house_1 7).trans dk_j7) ((dQ_X8_house_1 8).trans dk_j8) ((dQ_X8_house_1 9).trans dk_j9) dk_vu2_0_91
theorem dX8_house_26 : decode cX8_house 26 = .ok (.ifCond .eq 6, 3) := dk_153 ((dQ_X8_house_1 10).trans dk_j10) ((dQ_X8_house_1 11).trans dk_j11) ((dQ_X8_house_1 12).trans dk_j12) dk_vs2_0_6
theorem dX8_house_29 : decode cX8_house 29 = .ok (.bipush (-4), 2) := dk_16 ((dQ_X8_house_1 13).trans dk_j13) ((dQ_X8_house_1 14).trans dk_j14) dk_vs1_252
theorem dX8_house_31 : decode cX8_house 31 = .ok (.ireturn, 1) := dk_172 ((dQ_X8_house_1 15).trans dk_j15)
theorem dX8_house_32 : decode cX8_house 32 = .ok (.aload_n 0, 1) := dk_42 ((dQ_X8_house_2 0).trans dk_j0)
theorem dX8_house_33 : decode cX8_house 33 = .ok (.getfield 10, 3) := dk_180 ((dQ_X8_house_2 1).trans dk_j1) ((dQ_X8_house_2 2).trans dk_j2) ((dQ_X8_house_2 3).trans dk_j3) dk_vu2_0_10
theorem dX8_house_36 : decode cX8_house 36 = .ok (.aload_n 0, 1) := dk_42 ((dQ_X8_house_2 4).trans dk_j4)
theorem dX8_house_37 : decode cX8_house 37 = .ok (.getfield 16, 3) := dk_180 ((dQ_X8_house_2 5).trans dk_j5) ((dQ_X8_house_2 6).trans dk_j6) ((dQ_X8_house_2 7).trans dk_j7) dk_vu2_0_16
theorem dX8_house_40 : decode cX8_house 40 = .ok (.invokevirtual 94, 3) := dk_182 ((dQ_X8_house_2 8).trans dk_j8) ((dQ_X8_house_2 9).trans dk_j9) ((dQ_X8_house_2 10).trans dk_j10) dk_vu2_0_94
theorem dX8_house_43 : decode cX8_house 43 = .ok (.aload_n 0, 1) := dk_42 ((dQ_X8_house_2 11).trans dk_j11)
theorem dk_vu2_0_97 : (0x00 : UInt8).toNat * 256 + (0x61 : UInt8).toNat = (97 : Nat) := by decide +kernel
theorem dX8_house_44 : decode cX8_house 44 = .ok (.invokevirtual 97, 3) := dk_182 ((dQ_X8_house_2 12).trans dk_j12) ((dQ_X8_house_2 13).trans dk_j13) ((dQ_X8_house_2 14).trans dk_j14) dk_vu2_0_97
theorem dX8_house_47 : decode cX8_house 47 = .ok (.aload_n 0, 1) := dk_42 ((dQ_X8_house_2 15).trans dk_j15)
theorem dX8_house_48 : decode cX8_house 48 = .ok (.getfield 10, 3) := dk_180 ((dQ_X8_house_3 0).trans dk_j0) ((dQ_X8_house_3 1).trans dk_j1) ((dQ_X8_house_3 2).trans dk_j2) dk_vu2_0_10
theorem dX8_house_51 : decode cX8_house 51 = .ok (.getfield 100, 3) := dk_180 ((dQ_X8_house_3 3).trans dk_j3) ((dQ_X8_house_3 4).trans dk_j4) ((dQ_X8_house_3 5).trans dk_j5) dk_vu2_0_100
theorem dX8_house_54 : decode cX8_house 54 = .ok (.bipush 10, 2) := dk_16 ((dQ_X8_house_3 6).trans dk_j6) ((dQ_X8_house_3 7).trans dk_j7) dk_vs1_10
theorem dX8_house_56 : decode cX8_house 56 = .ok (.iaload, 1) := dk_46 ((dQ_X8_house_3 8).trans dk_j8)
theorem dX8_house_57 : decode cX8_house 57 = .ok (.ireturn, 1) := dk_172 ((dQ_X8_house_3 9).trans dk_j9)
def dT_X8_fault_1 : List UInt8 := (0x0d : UInt8) :: (0x2a : UInt8) :: (0xb4 : UInt8) :: (0x00 : UInt8) :: (0x1e : UInt8) :: (0xb4 : UInt8) :: (0x00 : UInt8) :: (0x68 : UInt8) :: (0xa7 : UInt8) :: (0x00 : UInt8) :: (0x04 : UInt8) :: (0x02 : UInt8) :: (0xac : UInt8) :: []
def dT_X8_fault_0 : List UInt8 := (0x1b : UInt8) :: (0x9a : UInt8) :: (0x00 : UInt8) :: (0x0b : UInt8) :: (0x2a : UInt8) :: (0xb4 : UInt8) :: (0x00 : UInt8) :: (0x1e : UInt8) :: (0xb4 : UInt8) :: (0x00 : UInt8) :: (0x5b : UInt8) :: (0xac : UInt8) :: (0x1b : UInt8) :: (0x04 : UInt8) :: (0xa0 : UInt8) :: (0x00 : UInt8) :: dT_X8_fault_1
theorem dT_X8_fault : cX8_fault.data.toList = dT_X8_fault_0 := eq_of_beq (show (cX8_fault.data.toList == dT_X8_fault_0) = true by decide +kernel)
theorem dQ_X8_fault_0 : dQ_P cX8_fault 0 dT_X8_fault_0 := fun i => by rw [dT_X8_fault]; rfl
theorem dQ_X8_fault_1 : dQ_P cX8_fault 16 dT_X8_fault_1 := fun i => (dQ_X8_fault_0 (i + 16)).trans dk_t
theorem dX8_fault_0 : decode cX8_fault 0 = .ok (.iload_n 1, 1) := dk_27 ((dQ_X8_fault_0 0).trans dk_j0)
theorem dX8_fault_1 : decode cX8_fault 1 = .ok (.ifCond .ne 11, 3) := dk_154 ((dQ_X8_fault_0 1).trans dk_j1) ((dQ_X8_fault_0 2).trans dk_j2) ((dQ_X8_fault_0 3).trans dk_j3) dk_vs2_0_11
theorem dX8_fault_4 : decode cX8_fault 4 = .ok (.aload_n 0, 1) := dk_42 ((dQ_X8_fault_0 4).trans dk_j4)
theorem dX8_fault_5 : decode cX8_fault 5 = .ok (.getfield 30, 3) := dk_180 ((dQ_X8_fault_0 5).trans dk_j5) ((dQ_X8_fault_0 6).trans dk_j6) ((dQ_X8_fault_0 7).trans dk_j7) dk_vu2_0_30
theorem dX8_fault_8 : decode cX8_fault 8 = .ok (.getfield 91, 3) := dk_180 ((dQ_X8_fault_0 8).trans dk_j8) ((dQ_X8_fault_0 9).trans dk_j9) ((dQ_X8_fault_0 10).trans dk_j10) dk_vu2_0_91
theorem dX8_fault_11 : decode cX8_fault 11 = .ok (.ireturn, 1) := dk_172 ((dQ_X8_fault_0 11).trans dk_j11)
theorem dX8_fault_12 : decode cX8_fault 12 = .ok (.iload_n 1, 1) := dk_27 ((dQ_X8_fault_0 12).trans dk_j12)
theorem dX8_fault_13 : decode cX8_fault 13 = .ok (.iconst 1, 1) := dk_4 ((dQ_X8_fault_0 13).trans dk_j13)
theorem dX8_fault_14 : decode cX8_fault 14 = .ok (.if_icmp .ne 13, 3) := dk_160 ((dQ_X8_fault_0 14).trans dk_j14) ((dQ_X8_fault_0 15).trans dk_j15) ((dQ_X8_fault_1 0).trans dk_j0) dk_vs2_0_13
theorem dX8_fault_17 : decode cX8_fault 17 = .ok (.aload_n 0, 1) := dk_42 ((dQ_X8_fault_1 1).trans dk_j1)
theorem dX8_fault_18 : decode cX8_fault 18 = .ok (.getfield 30, 3) := dk_180 ((dQ_X8_fault_1 2).trans dk_j2) ((dQ_X8_fault_1 3).trans dk_j3) ((dQ_X8_fault_1 4).trans dk_j4) dk_vu2_0_30
theorem dk_vu2_0_104 : (0x00 : UInt8).toNat * 256 + (0x68 : UInt8).toNat = (104 : Nat) := by decide +kernel
theorem dX8_fault_21 : decode cX8_fault 21 = .ok (.getfield 104, 3) := dk_180 ((dQ_X8_fault_1 5).trans dk_j5) ((dQ_X8_fault_1 6).trans dk_j6) ((dQ_X8_fault_1 7).trans dk_j7) dk_vu2_0_104
theorem dX8_fault_24 : decode cX8_fault 24 = .ok (.goto 4, 3) := dk_167 ((dQ_X8_fault_1 8).trans dk_j8) ((dQ_X8_fault_1 9).trans dk_j9) ((dQ_X8_fault_1 10).trans dk_j10) dk_vs2_0_4
theorem dX8_fault_27 : decode cX8_fault 27 = .ok (.iconst (-1), 1) := dk_2 ((dQ_X8_fault_1 11).trans dk_j11)
theorem dX8_fault_28 : decode cX8_fault 28 = .ok (.ireturn, 1) := dk_172 ((dQ_X8_fault_1 12).trans dk_j12)
def dT_X8_nose_2 : List UInt8 := (0x2e : UInt8) :: (0xac : UInt8) :: []
def dT_X8_nose_1 : List UInt8 := (0x06 : UInt8) :: (0x10 : UInt8) :: (0xfe : UInt8) :: (0xac : UInt8) :: (0x2a : UInt8) :: (0xb4 : UInt8) :: (0x00 : UInt8) :: (0x0a : UInt8) :: (0xb4 : UInt8) :: (0x00 : UInt8) :: (0x6f : UInt8) :: (0x05 : UInt8) :: (0x1b : UInt8) :: (0x68 : UInt8) :: (0x1c : UInt8) :: (0x60 : UInt8) :: dT_X8_nose_2
def dT_X8_nose_0 : List UInt8 := (0x2a : UInt8) :: (0x1b : UInt8) :: (0xb6 : UInt8) :: (0x00 : UInt8) :: (0x6b : UInt8) :: (0x99 : UInt8) :: (0x00 : UInt8) :: (0x0c : UInt8) :: (0x1c : UInt8) :: (0x9b : UInt8) :: (0x00 : UInt8) :: (0x08 : UInt8) :: (0x1c : UInt8) :: (0x04 : UInt8) :: (0xa4 : UInt8) :: (0x00 : UInt8) :: dT_X8_nose_1
theorem dT_X8_nose : cX8_nose.data.toList = dT_X8_nose_0 := eq_of_beq (show (cX8_nose.data.toList == dT_X8_nose_0) = true by decide +kernel)
theorem dQ_X8_nose_0 : dQ_P cX8_nose 0 dT_X8_nose_0 := fun i => by rw [dT_X8_nose]; rfl
theorem dQ_X8_nose_1 : dQ_P cX8_nose 16 dT_X8_nose_1 := fun i => (dQ_X8_nose_0 (i + 16)).trans dk_t
theorem dQ_X8_nose_2 : dQ_P cX8_nose 32 dT_X8_nose_2 := fun i => (dQ_X8_nose_1 (i + 16)).trans dk_t
theorem dX8_nose_0 : decode cX8_nose 0 = .ok (.aload_n 0, 1) := dk_42 ((dQ_X8_nose_0 0).trans dk_j0)
theorem dX8_nose_1 : decode cX8_nose 1 = .ok (.iload_n 1, 1) := dk_27 ((dQ_X8_nose_0 1).trans dk_j1)
theorem dk_vu2_0_107 : (0x00 : UInt8).toNat * 256 + (0x6b : UInt8).toNat = (107 : Nat) := by decide +kernel
theorem dX8_nose_2 : decode cX8_nose 2 = .ok (.invokevirtual 107, 3) := dk_182 ((dQ_X8_nose_0 2).trans dk_j2) ((dQ_X8_nose_0 3).trans dk_j3) ((dQ_X8_nose_0 4).trans dk_j4) dk_vu2_0_107
theorem dX8_nose_5 : decode cX8_nose 5 = .ok (.ifCond .eq 12, 3) := dk_153 ((dQ_X8_nose_0 5).trans dk_j5) ((dQ_X8_nose_0 6).trans dk_j6) ((dQ_X8_nose_0 7).trans dk_j7) dk_vs2_0_12
theorem dX8_nose_8 : decode cX8_nose 8 = .ok (.iload_n 2, 1) := dk_28 ((dQ_X8_nose_0 8).trans dk_j8)
theorem dX8_nose_9 : decode cX8_nose 9 = .ok (.ifCond .lt 8, 3) := dk_155 ((dQ_X8_nose_0 9).trans dk_j9) ((dQ_X8_nose_0 10).trans dk_j10) ((dQ_X8_nose_0 11).trans dk_j11) dk_vs2_0_8
theorem dX8_nose_12 : decode cX8_nose 12 = .ok (.iload_n 2, 1) := dk_28 ((dQ_X8_nose_0 12).trans dk_j12)
theorem dX8_nose_13 : decode cX8_nose 13 = .ok (.iconst 1, 1) := dk_4 ((dQ_X8_nose_0 13).trans dk_j13)
theorem dX8_nose_14 : decode cX8_nose 14 = .ok (.if_icmp .le 6, 3) := dk_164 ((dQ_X8_nose_0 14).trans dk_j14) ((dQ_X8_nose_0 15).trans dk_j15) ((dQ_X8_nose_1 0).trans dk_j0) dk_vs2_0_6
theorem dX8_nose_17 : decode cX8_nose 17 = .ok (.bipush (-2), 2) := dk_16 ((dQ_X8_nose_1 1).trans dk_j1) ((dQ_X8_nose_1 2).trans dk_j2) dk_vs1_254
theorem dX8_nose_19 : decode cX8_nose 19 = .ok (.ireturn, 1) := dk_172 ((dQ_X8_nose_1 3).trans dk_j3)
theorem dX8_nose_20 : decode cX8_nose 20 = .ok (.aload_n 0, 1) := dk_42 ((dQ_X8_nose_1 4).trans dk_j4)
theorem dX8_nose_21 : decode cX8_nose 21 = .ok (.getfield 10, 3) := dk_180 ((dQ_X8_nose_1 5).trans dk_j5) ((dQ_X8_nose_1 6).trans dk_j6) ((dQ_X8_nose_1 7).trans dk_j7) dk_vu2_0_10
theorem dk_vu2_0_111 : (0x00 : UInt8).toNat * 256 + (0x6f : UInt8).toNat = (111 : Nat) := by decide +kernel
theorem dX8_nose_24 : decode cX8_nose 24 = .ok (.getfield 111, 3) := dk_180 ((dQ_X8_nose_1 8).trans dk_j8) ((dQ_X8_nose_1 9).trans dk_j9) ((dQ_X8_nose_1 10).trans dk_j10) dk_vu2_0_111
theorem dX8_nose_27 : decode cX8_nose 27 = .ok (.iconst 2, 1) := dk_5 ((dQ_X8_nose_1 11).trans dk_j11)
theorem dX8_nose_28 : decode cX8_nose 28 = .ok (.iload_n 1, 1) := dk_27 ((dQ_X8_nose_1 12).trans dk_j12)
theorem dX8_nose_29 : decode cX8_nose 29 = .ok (.imul, 1) := dk_104 ((dQ_X8_nose_1 13).trans dk_j13)
theorem dX8_nose_30 : decode cX8_nose 30 = .ok (.iload_n 2, 1) := dk_28 ((dQ_X8_nose_1 14).trans dk_j14)
theorem dX8_nose_31 : decode cX8_nose 31 = .ok (.iadd, 1) := dk_96 ((dQ_X8_nose_1 15).trans dk_j15)
theorem dX8_nose_32 : decode cX8_nose 32 = .ok (.iaload, 1) := dk_46 ((dQ_X8_nose_2 0).trans dk_j0)
theorem dX8_nose_33 : decode cX8_nose 33 = .ok (.ireturn, 1) := dk_172 ((dQ_X8_nose_2 1).trans dk_j1)
def dT_X8_policy_1 : List UInt8 := (0x06 : UInt8) :: (0x10 : UInt8) :: (0xfe : UInt8) :: (0xac : UInt8) :: (0x2a : UInt8) :: (0xb4 : UInt8) :: (0x00 : UInt8) :: (0x0a : UInt8) :: (0x1b : UInt8) :: (0x1c : UInt8) :: (0xb6 : UInt8) :: (0x00 : UInt8) :: (0x75 : UInt8) :: (0xac : UInt8) :: []
def dT_X8_policy_0 : List UInt8 := (0x2a : UInt8) :: (0x1b : UInt8) :: (0xb6 : UInt8) :: (0x00 : UInt8) :: (0x72 : UInt8) :: (0x99 : UInt8) :: (0x00 : UInt8) :: (0x0c : UInt8) :: (0x1c : UInt8) :: (0x9b : UInt8) :: (0x00 : UInt8) :: (0x08 : UInt8) :: (0x1c : UInt8) :: (0x08 : UInt8) :: (0xa1 : UInt8) :: (0x00 : UInt8) :: dT_X8_policy_1
theorem dT_X8_policy : cX8_policy.data.toList = dT_X8_policy_0 := eq_of_beq (show (cX8_policy.data.toList == dT_X8_policy_0) = true by decide +kernel)
theorem dQ_X8_policy_0 : dQ_P cX8_policy 0 dT_X8_policy_0 := fun i => by rw [dT_X8_policy]; rfl
theorem dQ_X8_policy_1 : dQ_P cX8_policy 16 dT_X8_policy_1 := fun i => (dQ_X8_policy_0 (i + 16)).trans dk_t
theorem dX8_policy_0 : decode cX8_policy 0 = .ok (.aload_n 0, 1) := dk_42 ((dQ_X8_policy_0 0).trans dk_j0)
theorem dX8_policy_1 : decode cX8_policy 1 = .ok (.iload_n 1, 1) := dk_27 ((dQ_X8_policy_0 1).trans dk_j1)
theorem dk_vu2_0_114 : (0x00 : UInt8).toNat * 256 + (0x72 : UInt8).toNat = (114 : Nat) := by decide +kernel
theorem dX8_policy_2 : decode cX8_policy 2 = .ok (.invokevirtual 114, 3) := dk_182 ((dQ_X8_policy_0 2).trans dk_j2) ((dQ_X8_policy_0 3).trans dk_j3) ((dQ_X8_policy_0 4).trans dk_j4) dk_vu2_0_114
theorem dX8_policy_5 : decode cX8_policy 5 = .ok (.ifCond .eq 12, 3) := dk_153 ((dQ_X8_policy_0 5).trans dk_j5) ((dQ_X8_policy_0 6).trans dk_j6) ((dQ_X8_policy_0 7).trans dk_j7) dk_vs2_0_12
theorem dX8_policy_8 : decode cX8_policy 8 = .ok (.iload_n 2, 1) := dk_28 ((dQ_X8_policy_0 8).trans dk_j8)
theorem dX8_policy_9 : decode cX8_policy 9 = .ok (.ifCond .lt 8, 3) := dk_155 ((dQ_X8_policy_0 9).trans dk_j9) ((dQ_X8_policy_0 10).trans dk_j10) ((dQ_X8_policy_0 11).trans dk_j11) dk_vs2_0_8
theorem dX8_policy_12 : decode cX8_policy 12 = .ok (.iload_n 2, 1) := dk_28 ((dQ_X8_policy_0 12).trans dk_j12)
theorem dX8_policy_13 : decode cX8_policy 13 = .ok (.iconst 5, 1) := dk_8 ((dQ_X8_policy_0 13).trans dk_j13)
theorem dX8_policy_14 : decode cX8_policy 14 = .ok (.if_icmp .lt 6, 3) := dk_161 ((dQ_X8_policy_0 14).trans dk_j14) ((dQ_X8_policy_0 15).trans dk_j15) ((dQ_X8_policy_1 0).trans dk_j0) dk_vs2_0_6
theorem dX8_policy_17 : decode cX8_policy 17 = .ok (.bipush (-2), 2) := dk_16 ((dQ_X8_policy_1 1).trans dk_j1) ((dQ_X8_policy_1 2).trans dk_j2) dk_vs1_254
theorem dX8_policy_19 : decode cX8_policy 19 = .ok (.ireturn, 1) := dk_172 ((dQ_X8_policy_1 3).trans dk_j3)
theorem dX8_policy_20 : decode cX8_policy 20 = .ok (.aload_n 0, 1) := dk_42 ((dQ_X8_policy_1 4).trans dk_j4)
theorem dX8_policy_21 : decode cX8_policy 21 = .ok (.getfield 10, 3) := dk_180 ((dQ_X8_policy_1 5).trans dk_j5) ((dQ_X8_policy_1 6).trans dk_j6) ((dQ_X8_policy_1 7).trans dk_j7) dk_vu2_0_10
theorem dX8_policy_24 : decode cX8_policy 24 = .ok (.iload_n 1, 1) := dk_27 ((dQ_X8_policy_1 8).trans dk_j8)
theorem dX8_policy_25 : decode cX8_policy 25 = .ok (.iload_n 2, 1) := dk_28 ((dQ_X8_policy_1 9).trans dk_j9)
theorem dk_vu2_0_117 : (0x00 : UInt8).toNat * 256 + (0x75 : UInt8).toNat = (117 : Nat) := by decide +kernel
theorem dX8_policy_26 : decode cX8_policy 26 = .ok (.invokevirtual 117, 3) := dk_182 ((dQ_X8_policy_1 10).trans dk_j10) ((dQ_X8_policy_1 11).trans dk_j11) ((dQ_X8_policy_1 12).trans dk_j12) dk_vu2_0_117
theorem dX8_policy_29 : decode cX8_policy 29 = .ok (.ireturn, 1) := dk_172 ((dQ_X8_policy_1 13).trans dk_j13)
def dT_X8_beside_1 : List UInt8 := (0xa7 : UInt8) :: (0x00 : UInt8) :: (0x05 : UInt8) :: (0x10 : UInt8) :: (0xfe : UInt8) :: (0xac : UInt8) :: []
def dT_X8_beside_0 : List UInt8 := (0x2a : UInt8) :: (0x1b : UInt8) :: (0xb6 : UInt8) :: (0x00 : UInt8) :: (0x6b : UInt8) :: (0x99 : UInt8) :: (0x00 : UInt8) :: (0x0e : UInt8) :: (0x2a : UInt8) :: (0xb4 : UInt8) :: (0x00 : UInt8) :: (0x0a : UInt8) :: (0x1b : UInt8) :: (0xb6 : UInt8) :: (0x00 : UInt8) :: (0x79 : UInt8) :: dT_X8_beside_1
theorem dT_X8_beside : cX8_beside.data.toList = dT_X8_beside_0 := eq_of_beq (show (cX8_beside.data.toList == dT_X8_beside_0) = true by decide +kernel)
theorem dQ_X8_beside_0 : dQ_P cX8_beside 0 dT_X8_beside_0 := fun i => by rw [dT_X8_beside]; rfl
theorem dQ_X8_beside_1 : dQ_P cX8_beside 16 dT_X8_beside_1 := fun i => (dQ_X8_beside_0 (i + 16)).trans dk_t
theorem dX8_beside_0 : decode cX8_beside 0 = .ok (.aload_n 0, 1) := dk_42 ((dQ_X8_beside_0 0).trans dk_j0)
theorem dX8_beside_1 : decode cX8_beside 1 = .ok (.iload_n 1, 1) := dk_27 ((dQ_X8_beside_0 1).trans dk_j1)
theorem dX8_beside_2 : decode cX8_beside 2 = .ok (.invokevirtual 107, 3) := dk_182 ((dQ_X8_beside_0 2).trans dk_j2) ((dQ_X8_beside_0 3).trans dk_j3) ((dQ_X8_beside_0 4).trans dk_j4) dk_vu2_0_107
theorem dX8_beside_5 : decode cX8_beside 5 = .ok (.ifCond .eq 14, 3) := dk_153 ((dQ_X8_beside_0 5).trans dk_j5) ((dQ_X8_beside_0 6).trans dk_j6) ((dQ_X8_beside_0 7).trans dk_j7) dk_vs2_0_14
theorem dX8_beside_8 : decode cX8_beside 8 = .ok (.aload_n 0, 1) := dk_42 ((dQ_X8_beside_0 8).trans dk_j8)
theorem dX8_beside_9 : decode cX8_beside 9 = .ok (.getfield 10, 3) := dk_180 ((dQ_X8_beside_0 9).trans dk_j9) ((dQ_X8_beside_0 10).trans dk_j10) ((dQ_X8_beside_0 11).trans dk_j11) dk_vu2_0_10
theorem dX8_beside_12 : decode cX8_beside 12 = .ok (.iload_n 1, 1) := dk_27 ((dQ_X8_beside_0 12).trans dk_j12)
theorem dX8_beside_13 : decode cX8_beside 13 = .ok (.invokevirtual 121, 3) := dk_182 ((dQ_X8_beside_0 13).trans dk_j13) ((dQ_X8_beside_0 14).trans dk_j14) ((dQ_X8_beside_0 15).trans dk_j15) dk_vu2_0_121
theorem dX8_beside_16 : decode cX8_beside 16 = .ok (.goto 5, 3) := dk_167 ((dQ_X8_beside_1 0).trans dk_j0) ((dQ_X8_beside_1 1).trans dk_j1) ((dQ_X8_beside_1 2).trans dk_j2) dk_vs2_0_5
theorem dX8_beside_19 : decode cX8_beside 19 = .ok (.bipush (-2), 2) := dk_16 ((dQ_X8_beside_1 3).trans dk_j3) ((dQ_X8_beside_1 4).trans dk_j4) dk_vs1_254
theorem dX8_beside_21 : decode cX8_beside 21 = .ok (.ireturn, 1) := dk_172 ((dQ_X8_beside_1 5).trans dk_j5)
def dT_X8_dust_1 : List UInt8 := (0x2e : UInt8) :: (0xa7 : UInt8) :: (0x00 : UInt8) :: (0x05 : UInt8) :: (0x10 : UInt8) :: (0xfe : UInt8) :: (0xac : UInt8) :: []
def dT_X8_dust_0 : List UInt8 := (0x2a : UInt8) :: (0x1b : UInt8) :: (0xb6 : UInt8) :: (0x00 : UInt8) :: (0x7d : UInt8) :: (0x99 : UInt8) :: (0x00 : UInt8) :: (0x0f : UInt8) :: (0x2a : UInt8) :: (0xb4 : UInt8) :: (0x00 : UInt8) :: (0x2c : UInt8) :: (0xb4 : UInt8) :: (0x00 : UInt8) :: (0x80 : UInt8) :: (0x1b : UInt8) :: dT_X8_dust_1
theorem dT_X8_dust : cX8_dust.data.toList = dT_X8_dust_0 := eq_of_beq (show (cX8_dust.data.toList == dT_X8_dust_0) = true by decide +kernel)
theorem dQ_X8_dust_0 : dQ_P cX8_dust 0 dT_X8_dust_0 := fun i => by rw [dT_X8_dust]; rfl
theorem dQ_X8_dust_1 : dQ_P cX8_dust 16 dT_X8_dust_1 := fun i => (dQ_X8_dust_0 (i + 16)).trans dk_t
theorem dX8_dust_0 : decode cX8_dust 0 = .ok (.aload_n 0, 1) := dk_42 ((dQ_X8_dust_0 0).trans dk_j0)
theorem dX8_dust_1 : decode cX8_dust 1 = .ok (.iload_n 1, 1) := dk_27 ((dQ_X8_dust_0 1).trans dk_j1)
theorem dX8_dust_2 : decode cX8_dust 2 = .ok (.invokevirtual 125, 3) := dk_182 ((dQ_X8_dust_0 2).trans dk_j2) ((dQ_X8_dust_0 3).trans dk_j3) ((dQ_X8_dust_0 4).trans dk_j4) dk_vu2_0_125
theorem dX8_dust_5 : decode cX8_dust 5 = .ok (.ifCond .eq 15, 3) := dk_153 ((dQ_X8_dust_0 5).trans dk_j5) ((dQ_X8_dust_0 6).trans dk_j6) ((dQ_X8_dust_0 7).trans dk_j7) dk_vs2_0_15
theorem dX8_dust_8 : decode cX8_dust 8 = .ok (.aload_n 0, 1) := dk_42 ((dQ_X8_dust_0 8).trans dk_j8)
theorem dX8_dust_9 : decode cX8_dust 9 = .ok (.getfield 44, 3) := dk_180 ((dQ_X8_dust_0 9).trans dk_j9) ((dQ_X8_dust_0 10).trans dk_j10) ((dQ_X8_dust_0 11).trans dk_j11) dk_vu2_0_44
theorem dk_vu2_0_128 : (0x00 : UInt8).toNat * 256 + (0x80 : UInt8).toNat = (128 : Nat) := by decide +kernel
theorem dX8_dust_12 : decode cX8_dust 12 = .ok (.getfield 128, 3) := dk_180 ((dQ_X8_dust_0 12).trans dk_j12) ((dQ_X8_dust_0 13).trans dk_j13) ((dQ_X8_dust_0 14).trans dk_j14) dk_vu2_0_128
theorem dX8_dust_15 : decode cX8_dust 15 = .ok (.iload_n 1, 1) := dk_27 ((dQ_X8_dust_0 15).trans dk_j15)
theorem dX8_dust_16 : decode cX8_dust 16 = .ok (.iaload, 1) := dk_46 ((dQ_X8_dust_1 0).trans dk_j0)
theorem dX8_dust_17 : decode cX8_dust 17 = .ok (.goto 5, 3) := dk_167 ((dQ_X8_dust_1 1).trans dk_j1) ((dQ_X8_dust_1 2).trans dk_j2) ((dQ_X8_dust_1 3).trans dk_j3) dk_vs2_0_5
theorem dX8_dust_20 : decode cX8_dust 20 = .ok (.bipush (-2), 2) := dk_16 ((dQ_X8_dust_1 4).trans dk_j4) ((dQ_X8_dust_1 5).trans dk_j5) dk_vs1_254
theorem dX8_dust_22 : decode cX8_dust 22 = .ok (.ireturn, 1) := dk_172 ((dQ_X8_dust_1 6).trans dk_j6)
def dT_X8_sneezes_1 : List UInt8 := (0x2e : UInt8) :: (0xa7 : UInt8) :: (0x00 : UInt8) :: (0x05 : UInt8) :: (0x10 : UInt8) :: (0xfe : UInt8) :: (0xac : UInt8) :: []
def dT_X8_sneezes_0 : List UInt8 := (0x2a : UInt8) :: (0x1b : UInt8) :: (0xb6 : UInt8) :: (0x00 : UInt8) :: (0x6b : UInt8) :: (0x99 : UInt8) :: (0x00 : UInt8) :: (0x0f : UInt8) :: (0x2a : UInt8) :: (0xb4 : UInt8) :: (0x00 : UInt8) :: (0x2c : UInt8) :: (0xb4 : UInt8) :: (0x00 : UInt8) :: (0x83 : UInt8) :: (0x1b : UInt8) :: dT_X8_sneezes_1
theorem dT_X8_sneezes : cX8_sneezes.data.toList = dT_X8_sneezes_0 := eq_of_beq (show (cX8_sneezes.data.toList == dT_X8_sneezes_0) = true by decide +kernel)
theorem dQ_X8_sneezes_0 : dQ_P cX8_sneezes 0 dT_X8_sneezes_0 := fun i => by rw [dT_X8_sneezes]; rfl
theorem dQ_X8_sneezes_1 : dQ_P cX8_sneezes 16 dT_X8_sneezes_1 := fun i => (dQ_X8_sneezes_0 (i + 16)).trans dk_t
theorem dX8_sneezes_0 : decode cX8_sneezes 0 = .ok (.aload_n 0, 1) := dk_42 ((dQ_X8_sneezes_0 0).trans dk_j0)
theorem dX8_sneezes_1 : decode cX8_sneezes 1 = .ok (.iload_n 1, 1) := dk_27 ((dQ_X8_sneezes_0 1).trans dk_j1)
theorem dX8_sneezes_2 : decode cX8_sneezes 2 = .ok (.invokevirtual 107, 3) := dk_182 ((dQ_X8_sneezes_0 2).trans dk_j2) ((dQ_X8_sneezes_0 3).trans dk_j3) ((dQ_X8_sneezes_0 4).trans dk_j4) dk_vu2_0_107
theorem dX8_sneezes_5 : decode cX8_sneezes 5 = .ok (.ifCond .eq 15, 3) := dk_153 ((dQ_X8_sneezes_0 5).trans dk_j5) ((dQ_X8_sneezes_0 6).trans dk_j6) ((dQ_X8_sneezes_0 7).trans dk_j7) dk_vs2_0_15
theorem dX8_sneezes_8 : decode cX8_sneezes 8 = .ok (.aload_n 0, 1) := dk_42 ((dQ_X8_sneezes_0 8).trans dk_j8)
theorem dX8_sneezes_9 : decode cX8_sneezes 9 = .ok (.getfield 44, 3) := dk_180 ((dQ_X8_sneezes_0 9).trans dk_j9) ((dQ_X8_sneezes_0 10).trans dk_j10) ((dQ_X8_sneezes_0 11).trans dk_j11) dk_vu2_0_44
theorem dX8_sneezes_12 : decode cX8_sneezes 12 = .ok (.getfield 131, 3) := dk_180 ((dQ_X8_sneezes_0 12).trans dk_j12) ((dQ_X8_sneezes_0 13).trans dk_j13) ((dQ_X8_sneezes_0 14).trans dk_j14) dk_vu2_0_131
theorem dX8_sneezes_15 : decode cX8_sneezes 15 = .ok (.iload_n 1, 1) := dk_27 ((dQ_X8_sneezes_0 15).trans dk_j15)
theorem dX8_sneezes_16 : decode cX8_sneezes 16 = .ok (.iaload, 1) := dk_46 ((dQ_X8_sneezes_1 0).trans dk_j0)
theorem dX8_sneezes_17 : decode cX8_sneezes 17 = .ok (.goto 5, 3) := dk_167 ((dQ_X8_sneezes_1 1).trans dk_j1) ((dQ_X8_sneezes_1 2).trans dk_j2) ((dQ_X8_sneezes_1 3).trans dk_j3) dk_vs2_0_5
theorem dX8_sneezes_20 : decode cX8_sneezes 20 = .ok (.bipush (-2), 2) := dk_16 ((dQ_X8_sneezes_1 4).trans dk_j4) ((dQ_X8_sneezes_1 5).trans dk_j5) dk_vs1_254
theorem dX8_sneezes_22 : decode cX8_sneezes 22 = .ok (.ireturn, 1) := dk_172 ((dQ_X8_sneezes_1 6).trans dk_j6)
def dT_X8_first_1 : List UInt8 := (0x2e : UInt8) :: (0xb8 : UInt8) :: (0x00 : UInt8) :: (0x86 : UInt8) :: (0xa7 : UInt8) :: (0x00 : UInt8) :: (0x05 : UInt8) :: (0x10 : UInt8) :: (0xfe : UInt8) :: (0xac : UInt8) :: []
def dT_X8_first_0 : List UInt8 := (0x2a : UInt8) :: (0x1b : UInt8) :: (0xb6 : UInt8) :: (0x00 : UInt8) :: (0x6b : UInt8) :: (0x99 : UInt8) :: (0x00 : UInt8) :: (0x12 : UInt8) :: (0x2a : UInt8) :: (0xb4 : UInt8) :: (0x00 : UInt8) :: (0x2c : UInt8) :: (0xb4 : UInt8) :: (0x00 : UInt8) :: (0x83 : UInt8) :: (0x1b : UInt8) :: dT_X8_first_1
theorem dT_X8_first : cX8_first.data.toList = dT_X8_first_0 := eq_of_beq (show (cX8_first.data.toList == dT_X8_first_0) = true by decide +kernel)
theorem dQ_X8_first_0 : dQ_P cX8_first 0 dT_X8_first_0 := fun i => by rw [dT_X8_first]; rfl
theorem dQ_X8_first_1 : dQ_P cX8_first 16 dT_X8_first_1 := fun i => (dQ_X8_first_0 (i + 16)).trans dk_t
theorem dX8_first_0 : decode cX8_first 0 = .ok (.aload_n 0, 1) := dk_42 ((dQ_X8_first_0 0).trans dk_j0)
theorem dX8_first_1 : decode cX8_first 1 = .ok (.iload_n 1, 1) := dk_27 ((dQ_X8_first_0 1).trans dk_j1)
theorem dX8_first_2 : decode cX8_first 2 = .ok (.invokevirtual 107, 3) := dk_182 ((dQ_X8_first_0 2).trans dk_j2) ((dQ_X8_first_0 3).trans dk_j3) ((dQ_X8_first_0 4).trans dk_j4) dk_vu2_0_107
theorem dX8_first_5 : decode cX8_first 5 = .ok (.ifCond .eq 18, 3) := dk_153 ((dQ_X8_first_0 5).trans dk_j5) ((dQ_X8_first_0 6).trans dk_j6) ((dQ_X8_first_0 7).trans dk_j7) dk_vs2_0_18
theorem dX8_first_8 : decode cX8_first 8 = .ok (.aload_n 0, 1) := dk_42 ((dQ_X8_first_0 8).trans dk_j8)
theorem dX8_first_9 : decode cX8_first 9 = .ok (.getfield 44, 3) := dk_180 ((dQ_X8_first_0 9).trans dk_j9) ((dQ_X8_first_0 10).trans dk_j10) ((dQ_X8_first_0 11).trans dk_j11) dk_vu2_0_44
theorem dX8_first_12 : decode cX8_first 12 = .ok (.getfield 131, 3) := dk_180 ((dQ_X8_first_0 12).trans dk_j12) ((dQ_X8_first_0 13).trans dk_j13) ((dQ_X8_first_0 14).trans dk_j14) dk_vu2_0_131
theorem dX8_first_15 : decode cX8_first 15 = .ok (.iload_n 1, 1) := dk_27 ((dQ_X8_first_0 15).trans dk_j15)
theorem dX8_first_16 : decode cX8_first 16 = .ok (.iaload, 1) := dk_46 ((dQ_X8_first_1 0).trans dk_j0)
theorem dk_vu2_0_134 : (0x00 : UInt8).toNat * 256 + (0x86 : UInt8).toNat = (134 : Nat) := by decide +kernel
theorem dX8_first_17 : decode cX8_first 17 = .ok (.invokestatic 134, 3) := dk_184 ((dQ_X8_first_1 1).trans dk_j1) ((dQ_X8_first_1 2).trans dk_j2) ((dQ_X8_first_1 3).trans dk_j3) dk_vu2_0_134
theorem dX8_first_20 : decode cX8_first 20 = .ok (.goto 5, 3) := dk_167 ((dQ_X8_first_1 4).trans dk_j4) ((dQ_X8_first_1 5).trans dk_j5) ((dQ_X8_first_1 6).trans dk_j6) dk_vs2_0_5
theorem dX8_first_23 : decode cX8_first 23 = .ok (.bipush (-2), 2) := dk_16 ((dQ_X8_first_1 7).trans dk_j7) ((dQ_X8_first_1 8).trans dk_j8) dk_vs1_254
theorem dX8_first_25 : decode cX8_first 25 = .ok (.ireturn, 1) := dk_172 ((dQ_X8_first_1 9).trans dk_j9)
def dT_X8_all_1 : List UInt8 := (0x05 : UInt8) :: (0x10 : UInt8) :: (0xfe : UInt8) :: (0xac : UInt8) :: []
def dT_X8_all_0 : List UInt8 := (0x2a : UInt8) :: (0xb6 : UInt8) :: (0x00 : UInt8) :: (0x89 : UInt8) :: (0x99 : UInt8) :: (0x00 : UInt8) :: (0x0d : UInt8) :: (0x2a : UInt8) :: (0xb4 : UInt8) :: (0x00 : UInt8) :: (0x2c : UInt8) :: (0xb6 : UInt8) :: (0x00 : UInt8) :: (0x8d : UInt8) :: (0xa7 : UInt8) :: (0x00 : UInt8) :: dT_X8_all_1
theorem dT_X8_all : cX8_all.data.toList = dT_X8_all_0 := eq_of_beq (show (cX8_all.data.toList == dT_X8_all_0) = true by decide +kernel)
theorem dQ_X8_all_0 : dQ_P cX8_all 0 dT_X8_all_0 := fun i => by rw [dT_X8_all]; rfl
theorem dQ_X8_all_1 : dQ_P cX8_all 16 dT_X8_all_1 := fun i => (dQ_X8_all_0 (i + 16)).trans dk_t
theorem dX8_all_0 : decode cX8_all 0 = .ok (.aload_n 0, 1) := dk_42 ((dQ_X8_all_0 0).trans dk_j0)
theorem dX8_all_1 : decode cX8_all 1 = .ok (.invokevirtual 137, 3) := dk_182 ((dQ_X8_all_0 1).trans dk_j1) ((dQ_X8_all_0 2).trans dk_j2) ((dQ_X8_all_0 3).trans dk_j3) dk_vu2_0_137
theorem dX8_all_4 : decode cX8_all 4 = .ok (.ifCond .eq 13, 3) := dk_153 ((dQ_X8_all_0 4).trans dk_j4) ((dQ_X8_all_0 5).trans dk_j5) ((dQ_X8_all_0 6).trans dk_j6) dk_vs2_0_13
theorem dX8_all_7 : decode cX8_all 7 = .ok (.aload_n 0, 1) := dk_42 ((dQ_X8_all_0 7).trans dk_j7)
theorem dX8_all_8 : decode cX8_all 8 = .ok (.getfield 44, 3) := dk_180 ((dQ_X8_all_0 8).trans dk_j8) ((dQ_X8_all_0 9).trans dk_j9) ((dQ_X8_all_0 10).trans dk_j10) dk_vu2_0_44
theorem dk_vu2_0_141 : (0x00 : UInt8).toNat * 256 + (0x8d : UInt8).toNat = (141 : Nat) := by decide +kernel
theorem dX8_all_11 : decode cX8_all 11 = .ok (.invokevirtual 141, 3) := dk_182 ((dQ_X8_all_0 11).trans dk_j11) ((dQ_X8_all_0 12).trans dk_j12) ((dQ_X8_all_0 13).trans dk_j13) dk_vu2_0_141
theorem dX8_all_14 : decode cX8_all 14 = .ok (.goto 5, 3) := dk_167 ((dQ_X8_all_0 14).trans dk_j14) ((dQ_X8_all_0 15).trans dk_j15) ((dQ_X8_all_1 0).trans dk_j0) dk_vs2_0_5
theorem dX8_all_17 : decode cX8_all 17 = .ok (.bipush (-2), 2) := dk_16 ((dQ_X8_all_1 1).trans dk_j1) ((dQ_X8_all_1 2).trans dk_j2) dk_vs1_254
theorem dX8_all_19 : decode cX8_all 19 = .ok (.ireturn, 1) := dk_172 ((dQ_X8_all_1 3).trans dk_j3)
def dT_X8_who_1 : List UInt8 := (0x2e : UInt8) :: (0xa7 : UInt8) :: (0x00 : UInt8) :: (0x05 : UInt8) :: (0x10 : UInt8) :: (0xfe : UInt8) :: (0xac : UInt8) :: []
def dT_X8_who_0 : List UInt8 := (0x2a : UInt8) :: (0x1b : UInt8) :: (0xb6 : UInt8) :: (0x00 : UInt8) :: (0x7d : UInt8) :: (0x99 : UInt8) :: (0x00 : UInt8) :: (0x0f : UInt8) :: (0x2a : UInt8) :: (0xb4 : UInt8) :: (0x00 : UInt8) :: (0x2c : UInt8) :: (0xb4 : UInt8) :: (0x00 : UInt8) :: (0x91 : UInt8) :: (0x1b : UInt8) :: dT_X8_who_1
theorem dT_X8_who : cX8_who.data.toList = dT_X8_who_0 := eq_of_beq (show (cX8_who.data.toList == dT_X8_who_0) = true by decide +kernel)
theorem dQ_X8_who_0 : dQ_P cX8_who 0 dT_X8_who_0 := fun i => by rw [dT_X8_who]; rfl
theorem dQ_X8_who_1 : dQ_P cX8_who 16 dT_X8_who_1 := fun i => (dQ_X8_who_0 (i + 16)).trans dk_t
theorem dX8_who_0 : decode cX8_who 0 = .ok (.aload_n 0, 1) := dk_42 ((dQ_X8_who_0 0).trans dk_j0)
theorem dX8_who_1 : decode cX8_who 1 = .ok (.iload_n 1, 1) := dk_27 ((dQ_X8_who_0 1).trans dk_j1)
theorem dX8_who_2 : decode cX8_who 2 = .ok (.invokevirtual 125, 3) := dk_182 ((dQ_X8_who_0 2).trans dk_j2) ((dQ_X8_who_0 3).trans dk_j3) ((dQ_X8_who_0 4).trans dk_j4) dk_vu2_0_125
theorem dX8_who_5 : decode cX8_who 5 = .ok (.ifCond .eq 15, 3) := dk_153 ((dQ_X8_who_0 5).trans dk_j5) ((dQ_X8_who_0 6).trans dk_j6) ((dQ_X8_who_0 7).trans dk_j7) dk_vs2_0_15
theorem dX8_who_8 : decode cX8_who 8 = .ok (.aload_n 0, 1) := dk_42 ((dQ_X8_who_0 8).trans dk_j8)
theorem dX8_who_9 : decode cX8_who 9 = .ok (.getfield 44, 3) := dk_180 ((dQ_X8_who_0 9).trans dk_j9) ((dQ_X8_who_0 10).trans dk_j10) ((dQ_X8_who_0 11).trans dk_j11) dk_vu2_0_44
theorem dk_vu2_0_145 : (0x00 : UInt8).toNat * 256 + (0x91 : UInt8).toNat = (145 : Nat) := by decide +kernel
theorem dX8_who_12 : decode cX8_who 12 = .ok (.getfield 145, 3) := dk_180 ((dQ_X8_who_0 12).trans dk_j12) ((dQ_X8_who_0 13).trans dk_j13) ((dQ_X8_who_0 14).trans dk_j14) dk_vu2_0_145
theorem dX8_who_15 : decode cX8_who 15 = .ok (.iload_n 1, 1) := dk_27 ((dQ_X8_who_0 15).trans dk_j15)
theorem dX8_who_16 : decode cX8_who 16 = .ok (.iaload, 1) := dk_46 ((dQ_X8_who_1 0).trans dk_j0)
theorem dX8_who_17 : decode cX8_who 17 = .ok (.goto 5, 3) := dk_167 ((dQ_X8_who_1 1).trans dk_j1) ((dQ_X8_who_1 2).trans dk_j2) ((dQ_X8_who_1 3).trans dk_j3) dk_vs2_0_5
theorem dX8_who_20 : decode cX8_who 20 = .ok (.bipush (-2), 2) := dk_16 ((dQ_X8_who_1 4).trans dk_j4) ((dQ_X8_who_1 5).trans dk_j5) dk_vs1_254
theorem dX8_who_22 : decode cX8_who 22 = .ok (.ireturn, 1) := dk_172 ((dQ_X8_who_1 6).trans dk_j6)
def dT_X8_tickle_1 : List UInt8 := (0x10 : UInt8) :: (0xfe : UInt8) :: (0xac : UInt8) :: (0x2a : UInt8) :: (0xb4 : UInt8) :: (0x00 : UInt8) :: (0x2c : UInt8) :: (0x1b : UInt8) :: (0x1c : UInt8) :: (0xb6 : UInt8) :: (0x00 : UInt8) :: (0x94 : UInt8) :: (0xac : UInt8) :: []
def dT_X8_tickle_0 : List UInt8 := (0x2a : UInt8) :: (0x1b : UInt8) :: (0xb6 : UInt8) :: (0x00 : UInt8) :: (0x6b : UInt8) :: (0x99 : UInt8) :: (0x00 : UInt8) :: (0x0b : UInt8) :: (0x2a : UInt8) :: (0x1c : UInt8) :: (0xb6 : UInt8) :: (0x00 : UInt8) :: (0x7d : UInt8) :: (0x9a : UInt8) :: (0x00 : UInt8) :: (0x06 : UInt8) :: dT_X8_tickle_1
theorem dT_X8_tickle : cX8_tickle.data.toList = dT_X8_tickle_0 := eq_of_beq (show (cX8_tickle.data.toList == dT_X8_tickle_0) = true by decide +kernel)
theorem dQ_X8_tickle_0 : dQ_P cX8_tickle 0 dT_X8_tickle_0 := fun i => by rw [dT_X8_tickle]; rfl
theorem dQ_X8_tickle_1 : dQ_P cX8_tickle 16 dT_X8_tickle_1 := fun i => (dQ_X8_tickle_0 (i + 16)).trans dk_t
theorem dX8_tickle_0 : decode cX8_tickle 0 = .ok (.aload_n 0, 1) := dk_42 ((dQ_X8_tickle_0 0).trans dk_j0)
theorem dX8_tickle_1 : decode cX8_tickle 1 = .ok (.iload_n 1, 1) := dk_27 ((dQ_X8_tickle_0 1).trans dk_j1)
theorem dX8_tickle_2 : decode cX8_tickle 2 = .ok (.invokevirtual 107, 3) := dk_182 ((dQ_X8_tickle_0 2).trans dk_j2) ((dQ_X8_tickle_0 3).trans dk_j3) ((dQ_X8_tickle_0 4).trans dk_j4) dk_vu2_0_107
theorem dX8_tickle_5 : decode cX8_tickle 5 = .ok (.ifCond .eq 11, 3) := dk_153 ((dQ_X8_tickle_0 5).trans dk_j5) ((dQ_X8_tickle_0 6).trans dk_j6) ((dQ_X8_tickle_0 7).trans dk_j7) dk_vs2_0_11
theorem dX8_tickle_8 : decode cX8_tickle 8 = .ok (.aload_n 0, 1) := dk_42 ((dQ_X8_tickle_0 8).trans dk_j8)
theorem dX8_tickle_9 : decode cX8_tickle 9 = .ok (.iload_n 2, 1) := dk_28 ((dQ_X8_tickle_0 9).trans dk_j9)
theorem dX8_tickle_10 : decode cX8_tickle 10 = .ok (.invokevirtual 125, 3) := dk_182 ((dQ_X8_tickle_0 10).trans dk_j10) ((dQ_X8_tickle_0 11).trans dk_j11) ((dQ_X8_tickle_0 12).trans dk_j12) dk_vu2_0_125
theorem dX8_tickle_13 : decode cX8_tickle 13 = .ok (.ifCond .ne 6, 3) := dk_154 ((dQ_X8_tickle_0 13).trans dk_j13) ((dQ_X8_tickle_0 14).trans dk_j14) ((dQ_X8_tickle_0 15).trans dk_j15) dk_vs2_0_6
theorem dX8_tickle_16 : decode cX8_tickle 16 = .ok (.bipush (-2), 2) := dk_16 ((dQ_X8_tickle_1 0).trans dk_j0) ((dQ_X8_tickle_1 1).trans dk_j1) dk_vs1_254
theorem dX8_tickle_18 : decode cX8_tickle 18 = .ok (.ireturn, 1) := dk_172 ((dQ_X8_tickle_1 2).trans dk_j2)
theorem dX8_tickle_19 : decode cX8_tickle 19 = .ok (.aload_n 0, 1) := dk_42 ((dQ_X8_tickle_1 3).trans dk_j3)
theorem dX8_tickle_20 : decode cX8_tickle 20 = .ok (.getfield 44, 3) := dk_180 ((dQ_X8_tickle_1 4).trans dk_j4) ((dQ_X8_tickle_1 5).trans dk_j5) ((dQ_X8_tickle_1 6).trans dk_j6) dk_vu2_0_44
theorem dX8_tickle_23 : decode cX8_tickle 23 = .ok (.iload_n 1, 1) := dk_27 ((dQ_X8_tickle_1 7).trans dk_j7)
theorem dX8_tickle_24 : decode cX8_tickle 24 = .ok (.iload_n 2, 1) := dk_28 ((dQ_X8_tickle_1 8).trans dk_j8)
theorem dk_vu2_0_148 : (0x00 : UInt8).toNat * 256 + (0x94 : UInt8).toNat = (148 : Nat) := by decide +kernel
theorem dX8_tickle_25 : decode cX8_tickle 25 = .ok (.invokevirtual 148, 3) := dk_182 ((dQ_X8_tickle_1 9).trans dk_j9) ((dQ_X8_tickle_1 10).trans dk_j10) ((dQ_X8_tickle_1 11).trans dk_j11) dk_vu2_0_148
theorem dX8_tickle_28 : decode cX8_tickle 28 = .ok (.ireturn, 1) := dk_172 ((dQ_X8_tickle_1 12).trans dk_j12)
def dT_X8_itch_2 : List UInt8 := (0x1d : UInt8) :: (0xb6 : UInt8) :: (0x00 : UInt8) :: (0x94 : UInt8) :: (0xb8 : UInt8) :: (0x00 : UInt8) :: (0x9a : UInt8) :: (0x3d : UInt8) :: (0x84 : UInt8) :: (0x03 : UInt8) :: (0x01 : UInt8) :: (0xa7 : UInt8) :: (0xff : UInt8) :: (0xe4 : UInt8) :: (0x1c : UInt8) :: (0xac : UInt8) :: []
def dT_X8_itch_1 : List UInt8 := (0x2a : UInt8) :: (0xb4 : UInt8) :: (0x00 : UInt8) :: (0x2c : UInt8) :: (0xb4 : UInt8) :: (0x00 : UInt8) :: (0x97 : UInt8) :: (0xa2 : UInt8) :: (0x00 : UInt8) :: (0x17 : UInt8) :: (0x1c : UInt8) :: (0x2a : UInt8) :: (0xb4 : UInt8) :: (0x00 : UInt8) :: (0x2c : UInt8) :: (0x1b : UInt8) :: dT_X8_itch_2
def dT_X8_itch_0 : List UInt8 := (0x2a : UInt8) :: (0x1b : UInt8) :: (0xb6 : UInt8) :: (0x00 : UInt8) :: (0x6b : UInt8) :: (0x9a : UInt8) :: (0x00 : UInt8) :: (0x06 : UInt8) :: (0x10 : UInt8) :: (0xfe : UInt8) :: (0xac : UInt8) :: (0x03 : UInt8) :: (0x3d : UInt8) :: (0x03 : UInt8) :: (0x3e : UInt8) :: (0x1d : UInt8) :: dT_X8_itch_1
theorem dT_X8_itch : cX8_itch.data.toList = dT_X8_itch_0 := eq_of_beq (show (cX8_itch.data.toList == dT_X8_itch_0) = true by decide +kernel)
theorem dQ_X8_itch_0 : dQ_P cX8_itch 0 dT_X8_itch_0 := fun i => by rw [dT_X8_itch]; rfl
theorem dQ_X8_itch_1 : dQ_P cX8_itch 16 dT_X8_itch_1 := fun i => (dQ_X8_itch_0 (i + 16)).trans dk_t
theorem dQ_X8_itch_2 : dQ_P cX8_itch 32 dT_X8_itch_2 := fun i => (dQ_X8_itch_1 (i + 16)).trans dk_t
theorem dX8_itch_0 : decode cX8_itch 0 = .ok (.aload_n 0, 1) := dk_42 ((dQ_X8_itch_0 0).trans dk_j0)
theorem dX8_itch_1 : decode cX8_itch 1 = .ok (.iload_n 1, 1) := dk_27 ((dQ_X8_itch_0 1).trans dk_j1)
theorem dX8_itch_2 : decode cX8_itch 2 = .ok (.invokevirtual 107, 3) := dk_182 ((dQ_X8_itch_0 2).trans dk_j2) ((dQ_X8_itch_0 3).trans dk_j3) ((dQ_X8_itch_0 4).trans dk_j4) dk_vu2_0_107
theorem dX8_itch_5 : decode cX8_itch 5 = .ok (.ifCond .ne 6, 3) := dk_154 ((dQ_X8_itch_0 5).trans dk_j5) ((dQ_X8_itch_0 6).trans dk_j6) ((dQ_X8_itch_0 7).trans dk_j7) dk_vs2_0_6
theorem dX8_itch_8 : decode cX8_itch 8 = .ok (.bipush (-2), 2) := dk_16 ((dQ_X8_itch_0 8).trans dk_j8) ((dQ_X8_itch_0 9).trans dk_j9) dk_vs1_254
theorem dX8_itch_10 : decode cX8_itch 10 = .ok (.ireturn, 1) := dk_172 ((dQ_X8_itch_0 10).trans dk_j10)
theorem dX8_itch_11 : decode cX8_itch 11 = .ok (.iconst 0, 1) := dk_3 ((dQ_X8_itch_0 11).trans dk_j11)
theorem dX8_itch_12 : decode cX8_itch 12 = .ok (.istore_n 2, 1) := dk_61 ((dQ_X8_itch_0 12).trans dk_j12)
theorem dX8_itch_13 : decode cX8_itch 13 = .ok (.iconst 0, 1) := dk_3 ((dQ_X8_itch_0 13).trans dk_j13)
theorem dX8_itch_14 : decode cX8_itch 14 = .ok (.istore_n 3, 1) := dk_62 ((dQ_X8_itch_0 14).trans dk_j14)
theorem dX8_itch_15 : decode cX8_itch 15 = .ok (.iload_n 3, 1) := dk_29 ((dQ_X8_itch_0 15).trans dk_j15)
theorem dX8_itch_16 : decode cX8_itch 16 = .ok (.aload_n 0, 1) := dk_42 ((dQ_X8_itch_1 0).trans dk_j0)
theorem dX8_itch_17 : decode cX8_itch 17 = .ok (.getfield 44, 3) := dk_180 ((dQ_X8_itch_1 1).trans dk_j1) ((dQ_X8_itch_1 2).trans dk_j2) ((dQ_X8_itch_1 3).trans dk_j3) dk_vu2_0_44
theorem dk_vu2_0_151 : (0x00 : UInt8).toNat * 256 + (0x97 : UInt8).toNat = (151 : Nat) := by decide +kernel
theorem dX8_itch_20 : decode cX8_itch 20 = .ok (.getfield 151, 3) := dk_180 ((dQ_X8_itch_1 4).trans dk_j4) ((dQ_X8_itch_1 5).trans dk_j5) ((dQ_X8_itch_1 6).trans dk_j6) dk_vu2_0_151
theorem dX8_itch_23 : decode cX8_itch 23 = .ok (.if_icmp .ge 23, 3) := dk_162 ((dQ_X8_itch_1 7).trans dk_j7) ((dQ_X8_itch_1 8).trans dk_j8) ((dQ_X8_itch_1 9).trans dk_j9) dk_vs2_0_23
theorem dX8_itch_26 : decode cX8_itch 26 = .ok (.iload_n 2, 1) := dk_28 ((dQ_X8_itch_1 10).trans dk_j10)
theorem dX8_itch_27 : decode cX8_itch 27 = .ok (.aload_n 0, 1) := dk_42 ((dQ_X8_itch_1 11).trans dk_j11)
theorem dX8_itch_28 : decode cX8_itch 28 = .ok (.getfield 44, 3) := dk_180 ((dQ_X8_itch_1 12).trans dk_j12) ((dQ_X8_itch_1 13).trans dk_j13) ((dQ_X8_itch_1 14).trans dk_j14) dk_vu2_0_44
theorem dX8_itch_31 : decode cX8_itch 31 = .ok (.iload_n 1, 1) := dk_27 ((dQ_X8_itch_1 15).trans dk_j15)
theorem dX8_itch_32 : decode cX8_itch 32 = .ok (.iload_n 3, 1) := dk_29 ((dQ_X8_itch_2 0).trans dk_j0)
theorem dX8_itch_33 : decode cX8_itch 33 = .ok (.invokevirtual 148, 3) := dk_182 ((dQ_X8_itch_2 1).trans dk_j1) ((dQ_X8_itch_2 2).trans dk_j2) ((dQ_X8_itch_2 3).trans dk_j3) dk_vu2_0_148
theorem dX8_itch_36 : decode cX8_itch 36 = .ok (.invokestatic 154, 3) := dk_184 ((dQ_X8_itch_2 4).trans dk_j4) ((dQ_X8_itch_2 5).trans dk_j5) ((dQ_X8_itch_2 6).trans dk_j6) dk_vu2_0_154
theorem dX8_itch_39 : decode cX8_itch 39 = .ok (.istore_n 2, 1) := dk_61 ((dQ_X8_itch_2 7).trans dk_j7)
theorem dX8_itch_40 : decode cX8_itch 40 = .ok (.iinc 3 1, 3) := dk_132 ((dQ_X8_itch_2 8).trans dk_j8) ((dQ_X8_itch_2 9).trans dk_j9) ((dQ_X8_itch_2 10).trans dk_j10) dk_vu1_3 dk_vs1_1
theorem dX8_itch_43 : decode cX8_itch 43 = .ok (.goto (-28), 3) := dk_167 ((dQ_X8_itch_2 11).trans dk_j11) ((dQ_X8_itch_2 12).trans dk_j12) ((dQ_X8_itch_2 13).trans dk_j13) dk_vs2_255_228
theorem dX8_itch_46 : decode cX8_itch 46 = .ok (.iload_n 2, 1) := dk_28 ((dQ_X8_itch_2 14).trans dk_j14)
theorem dX8_itch_47 : decode cX8_itch 47 = .ok (.ireturn, 1) := dk_172 ((dQ_X8_itch_2 15).trans dk_j15)
def dT_X8_caught_2 : List UInt8 := (0x1d : UInt8) :: (0xb6 : UInt8) :: (0x00 : UInt8) :: (0x9f : UInt8) :: (0x60 : UInt8) :: (0x3d : UInt8) :: (0x84 : UInt8) :: (0x03 : UInt8) :: (0x01 : UInt8) :: (0xa7 : UInt8) :: (0xff : UInt8) :: (0xe6 : UInt8) :: (0x1c : UInt8) :: (0xac : UInt8) :: []
def dT_X8_caught_1 : List UInt8 := (0x2a : UInt8) :: (0xb4 : UInt8) :: (0x00 : UInt8) :: (0x2c : UInt8) :: (0xb4 : UInt8) :: (0x00 : UInt8) :: (0x97 : UInt8) :: (0xa2 : UInt8) :: (0x00 : UInt8) :: (0x15 : UInt8) :: (0x1c : UInt8) :: (0x2a : UInt8) :: (0xb4 : UInt8) :: (0x00 : UInt8) :: (0x2c : UInt8) :: (0x1b : UInt8) :: dT_X8_caught_2
def dT_X8_caught_0 : List UInt8 := (0x2a : UInt8) :: (0x1b : UInt8) :: (0xb6 : UInt8) :: (0x00 : UInt8) :: (0x6b : UInt8) :: (0x9a : UInt8) :: (0x00 : UInt8) :: (0x06 : UInt8) :: (0x10 : UInt8) :: (0xfe : UInt8) :: (0xac : UInt8) :: (0x03 : UInt8) :: (0x3d : UInt8) :: (0x03 : UInt8) :: (0x3e : UInt8) :: (0x1d : UInt8) :: dT_X8_caught_1
theorem dT_X8_caught : cX8_caught.data.toList = dT_X8_caught_0 := eq_of_beq (show (cX8_caught.data.toList == dT_X8_caught_0) = true by decide +kernel)
theorem dQ_X8_caught_0 : dQ_P cX8_caught 0 dT_X8_caught_0 := fun i => by rw [dT_X8_caught]; rfl
theorem dQ_X8_caught_1 : dQ_P cX8_caught 16 dT_X8_caught_1 := fun i => (dQ_X8_caught_0 (i + 16)).trans dk_t
theorem dQ_X8_caught_2 : dQ_P cX8_caught 32 dT_X8_caught_2 := fun i => (dQ_X8_caught_1 (i + 16)).trans dk_t
theorem dX8_caught_0 : decode cX8_caught 0 = .ok (.aload_n 0, 1) := dk_42 ((dQ_X8_caught_0 0).trans dk_j0)
theorem dX8_caught_1 : decode cX8_caught 1 = .ok (.iload_n 1, 1) := dk_27 ((dQ_X8_caught_0 1).trans dk_j1)
theorem dX8_caught_2 : decode cX8_caught 2 = .ok (.invokevirtual 107, 3) := dk_182 ((dQ_X8_caught_0 2).trans dk_j2) ((dQ_X8_caught_0 3).trans dk_j3) ((dQ_X8_caught_0 4).trans dk_j4) dk_vu2_0_107
theorem dX8_caught_5 : decode cX8_caught 5 = .ok (.ifCond .ne 6, 3) := dk_154 ((dQ_X8_caught_0 5).trans dk_j5) ((dQ_X8_caught_0 6).trans dk_j6) ((dQ_X8_caught_0 7).trans dk_j7) dk_vs2_0_6
theorem dX8_caught_8 : decode cX8_caught 8 = .ok (.bipush (-2), 2) := dk_16 ((dQ_X8_caught_0 8).trans dk_j8) ((dQ_X8_caught_0 9).trans dk_j9) dk_vs1_254
theorem dX8_caught_10 : decode cX8_caught 10 = .ok (.ireturn, 1) := dk_172 ((dQ_X8_caught_0 10).trans dk_j10)
theorem dX8_caught_11 : decode cX8_caught 11 = .ok (.iconst 0, 1) := dk_3 ((dQ_X8_caught_0 11).trans dk_j11)
theorem dX8_caught_12 : decode cX8_caught 12 = .ok (.istore_n 2, 1) := dk_61 ((dQ_X8_caught_0 12).trans dk_j12)
theorem dX8_caught_13 : decode cX8_caught 13 = .ok (.iconst 0, 1) := dk_3 ((dQ_X8_caught_0 13).trans dk_j13)
theorem dX8_caught_14 : decode cX8_caught 14 = .ok (.istore_n 3, 1) := dk_62 ((dQ_X8_caught_0 14).trans dk_j14)
theorem dX8_caught_15 : decode cX8_caught 15 = .ok (.iload_n 3, 1) := dk_29 ((dQ_X8_caught_0 15).trans dk_j15)
theorem dX8_caught_16 : decode cX8_caught 16 = .ok (.aload_n 0, 1) := dk_42 ((dQ_X8_caught_1 0).trans dk_j0)
theorem dX8_caught_17 : decode cX8_caught 17 = .ok (.getfield 44, 3) := dk_180 ((dQ_X8_caught_1 1).trans dk_j1) ((dQ_X8_caught_1 2).trans dk_j2) ((dQ_X8_caught_1 3).trans dk_j3) dk_vu2_0_44
theorem dX8_caught_20 : decode cX8_caught 20 = .ok (.getfield 151, 3) := dk_180 ((dQ_X8_caught_1 4).trans dk_j4) ((dQ_X8_caught_1 5).trans dk_j5) ((dQ_X8_caught_1 6).trans dk_j6) dk_vu2_0_151
theorem dX8_caught_23 : decode cX8_caught 23 = .ok (.if_icmp .ge 21, 3) := dk_162 ((dQ_X8_caught_1 7).trans dk_j7) ((dQ_X8_caught_1 8).trans dk_j8) ((dQ_X8_caught_1 9).trans dk_j9) dk_vs2_0_21
theorem dX8_caught_26 : decode cX8_caught 26 = .ok (.iload_n 2, 1) := dk_28 ((dQ_X8_caught_1 10).trans dk_j10)
theorem dX8_caught_27 : decode cX8_caught 27 = .ok (.aload_n 0, 1) := dk_42 ((dQ_X8_caught_1 11).trans dk_j11)
theorem dX8_caught_28 : decode cX8_caught 28 = .ok (.getfield 44, 3) := dk_180 ((dQ_X8_caught_1 12).trans dk_j12) ((dQ_X8_caught_1 13).trans dk_j13) ((dQ_X8_caught_1 14).trans dk_j14) dk_vu2_0_44
theorem dX8_caught_31 : decode cX8_caught 31 = .ok (.iload_n 1, 1) := dk_27 ((dQ_X8_caught_1 15).trans dk_j15)
theorem dX8_caught_32 : decode cX8_caught 32 = .ok (.iload_n 3, 1) := dk_29 ((dQ_X8_caught_2 0).trans dk_j0)
theorem dk_vu2_0_159 : (0x00 : UInt8).toNat * 256 + (0x9f : UInt8).toNat = (159 : Nat) := by decide +kernel
theorem dX8_caught_33 : decode cX8_caught 33 = .ok (.invokevirtual 159, 3) := dk_182 ((dQ_X8_caught_2 1).trans dk_j1) ((dQ_X8_caught_2 2).trans dk_j2) ((dQ_X8_caught_2 3).trans dk_j3) dk_vu2_0_159
theorem dX8_caught_36 : decode cX8_caught 36 = .ok (.iadd, 1) := dk_96 ((dQ_X8_caught_2 4).trans dk_j4)
theorem dX8_caught_37 : decode cX8_caught 37 = .ok (.istore_n 2, 1) := dk_61 ((dQ_X8_caught_2 5).trans dk_j5)
theorem dX8_caught_38 : decode cX8_caught 38 = .ok (.iinc 3 1, 3) := dk_132 ((dQ_X8_caught_2 6).trans dk_j6) ((dQ_X8_caught_2 7).trans dk_j7) ((dQ_X8_caught_2 8).trans dk_j8) dk_vu1_3 dk_vs1_1
theorem dX8_caught_41 : decode cX8_caught 41 = .ok (.goto (-26), 3) := dk_167 ((dQ_X8_caught_2 9).trans dk_j9) ((dQ_X8_caught_2 10).trans dk_j10) ((dQ_X8_caught_2 11).trans dk_j11) dk_vs2_255_230
theorem dX8_caught_44 : decode cX8_caught 44 = .ok (.iload_n 2, 1) := dk_28 ((dQ_X8_caught_2 12).trans dk_j12)
theorem dX8_caught_45 : decode cX8_caught 45 = .ok (.ireturn, 1) := dk_172 ((dQ_X8_caught_2 13).trans dk_j13)
def dT_X8_gave_3 : List UInt8 := (0x00 : UInt8) :: (0x79 : UInt8) :: (0x7e : UInt8) :: (0xac : UInt8) :: []
def dT_X8_gave_2 : List UInt8 := (0xb4 : UInt8) :: (0x00 : UInt8) :: (0x2c : UInt8) :: (0xb4 : UInt8) :: (0x00 : UInt8) :: (0x91 : UInt8) :: (0x1c : UInt8) :: (0x04 : UInt8) :: (0x64 : UInt8) :: (0x2e : UInt8) :: (0x2a : UInt8) :: (0xb4 : UInt8) :: (0x00 : UInt8) :: (0x0a : UInt8) :: (0x1b : UInt8) :: (0xb6 : UInt8) :: dT_X8_gave_3
def dT_X8_gave_1 : List UInt8 := (0x00 : UInt8) :: (0x83 : UInt8) :: (0x1b : UInt8) :: (0x2e : UInt8) :: (0xb8 : UInt8) :: (0x00 : UInt8) :: (0x86 : UInt8) :: (0x3d : UInt8) :: (0x1c : UInt8) :: (0x04 : UInt8) :: (0xa2 : UInt8) :: (0x00 : UInt8) :: (0x05 : UInt8) :: (0x03 : UInt8) :: (0xac : UInt8) :: (0x2a : UInt8) :: dT_X8_gave_2
def dT_X8_gave_0 : List UInt8 := (0x2a : UInt8) :: (0x1b : UInt8) :: (0xb6 : UInt8) :: (0x00 : UInt8) :: (0x6b : UInt8) :: (0x9a : UInt8) :: (0x00 : UInt8) :: (0x06 : UInt8) :: (0x10 : UInt8) :: (0xfe : UInt8) :: (0xac : UInt8) :: (0x2a : UInt8) :: (0xb4 : UInt8) :: (0x00 : UInt8) :: (0x2c : UInt8) :: (0xb4 : UInt8) :: dT_X8_gave_1
theorem dT_X8_gave : cX8_gave.data.toList = dT_X8_gave_0 := eq_of_beq (show (cX8_gave.data.toList == dT_X8_gave_0) = true by decide +kernel)
theorem dQ_X8_gave_0 : dQ_P cX8_gave 0 dT_X8_gave_0 := fun i => by rw [dT_X8_gave]; rfl
theorem dQ_X8_gave_1 : dQ_P cX8_gave 16 dT_X8_gave_1 := fun i => (dQ_X8_gave_0 (i + 16)).trans dk_t
theorem dQ_X8_gave_2 : dQ_P cX8_gave 32 dT_X8_gave_2 := fun i => (dQ_X8_gave_1 (i + 16)).trans dk_t
theorem dQ_X8_gave_3 : dQ_P cX8_gave 48 dT_X8_gave_3 := fun i => (dQ_X8_gave_2 (i + 16)).trans dk_t
theorem dX8_gave_0 : decode cX8_gave 0 = .ok (.aload_n 0, 1) := dk_42 ((dQ_X8_gave_0 0).trans dk_j0)
theorem dX8_gave_1 : decode cX8_gave 1 = .ok (.iload_n 1, 1) := dk_27 ((dQ_X8_gave_0 1).trans dk_j1)
theorem dX8_gave_2 : decode cX8_gave 2 = .ok (.invokevirtual 107, 3) := dk_182 ((dQ_X8_gave_0 2).trans dk_j2) ((dQ_X8_gave_0 3).trans dk_j3) ((dQ_X8_gave_0 4).trans dk_j4) dk_vu2_0_107
theorem dX8_gave_5 : decode cX8_gave 5 = .ok (.ifCond .ne 6, 3) := dk_154 ((dQ_X8_gave_0 5).trans dk_j5) ((dQ_X8_gave_0 6).trans dk_j6) ((dQ_X8_gave_0 7).trans dk_j7) dk_vs2_0_6
theorem dX8_gave_8 : decode cX8_gave 8 = .ok (.bipush (-2), 2) := dk_16 ((dQ_X8_gave_0 8).trans dk_j8) ((dQ_X8_gave_0 9).trans dk_j9) dk_vs1_254
theorem dX8_gave_10 : decode cX8_gave 10 = .ok (.ireturn, 1) := dk_172 ((dQ_X8_gave_0 10).trans dk_j10)
theorem dX8_gave_11 : decode cX8_gave 11 = .ok (.aload_n 0, 1) := dk_42 ((dQ_X8_gave_0 11).trans dk_j11)
theorem dX8_gave_12 : decode cX8_gave 12 = .ok (.getfield 44, 3) := dk_180 ((dQ_X8_gave_0 12).trans dk_j12) ((dQ_X8_gave_0 13).trans dk_j13) ((dQ_X8_gave_0 14).trans dk_j14) dk_vu2_0_44
theorem dX8_gave_15 : decode cX8_gave 15 = .ok (.getfield 131, 3) := dk_180 ((dQ_X8_gave_0 15).trans dk_j15) ((dQ_X8_gave_1 0).trans dk_j0) ((dQ_X8_gave_1 1).trans dk_j1) dk_vu2_0_131
theorem dX8_gave_18 : decode cX8_gave 18 = .ok (.iload_n 1, 1) := dk_27 ((dQ_X8_gave_1 2).trans dk_j2)
theorem dX8_gave_19 : decode cX8_gave 19 = .ok (.iaload, 1) := dk_46 ((dQ_X8_gave_1 3).trans dk_j3)
theorem dX8_gave_20 : decode cX8_gave 20 = .ok (.invokestatic 134, 3) := dk_184 ((dQ_X8_gave_1 4).trans dk_j4) ((dQ_X8_gave_1 5).trans dk_j5) ((dQ_X8_gave_1 6).trans dk_j6) dk_vu2_0_134
theorem dX8_gave_23 : decode cX8_gave 23 = .ok (.istore_n 2, 1) := dk_61 ((dQ_X8_gave_1 7).trans dk_j7)
theorem dX8_gave_24 : decode cX8_gave 24 = .ok (.iload_n 2, 1) := dk_28 ((dQ_X8_gave_1 8).trans dk_j8)
theorem dX8_gave_25 : decode cX8_gave 25 = .ok (.iconst 1, 1) := dk_4 ((dQ_X8_gave_1 9).trans dk_j9)
theorem dX8_gave_26 : decode cX8_gave 26 = .ok (.if_icmp .ge 5, 3) := dk_162 ((dQ_X8_gave_1 10).trans dk_j10) ((dQ_X8_gave_1 11).trans dk_j11) ((dQ_X8_gave_1 12).trans dk_j12) dk_vs2_0_5
theorem dX8_gave_29 : decode cX8_gave 29 = .ok (.iconst 0, 1) := dk_3 ((dQ_X8_gave_1 13).trans dk_j13)
theorem dX8_gave_30 : decode cX8_gave 30 = .ok (.ireturn, 1) := dk_172 ((dQ_X8_gave_1 14).trans dk_j14)
theorem dX8_gave_31 : decode cX8_gave 31 = .ok (.aload_n 0, 1) := dk_42 ((dQ_X8_gave_1 15).trans dk_j15)
theorem dX8_gave_32 : decode cX8_gave 32 = .ok (.getfield 44, 3) := dk_180 ((dQ_X8_gave_2 0).trans dk_j0) ((dQ_X8_gave_2 1).trans dk_j1) ((dQ_X8_gave_2 2).trans dk_j2) dk_vu2_0_44
theorem dX8_gave_35 : decode cX8_gave 35 = .ok (.getfield 145, 3) := dk_180 ((dQ_X8_gave_2 3).trans dk_j3) ((dQ_X8_gave_2 4).trans dk_j4) ((dQ_X8_gave_2 5).trans dk_j5) dk_vu2_0_145
theorem dX8_gave_38 : decode cX8_gave 38 = .ok (.iload_n 2, 1) := dk_28 ((dQ_X8_gave_2 6).trans dk_j6)
theorem dX8_gave_39 : decode cX8_gave 39 = .ok (.iconst 1, 1) := dk_4 ((dQ_X8_gave_2 7).trans dk_j7)
theorem dX8_gave_40 : decode cX8_gave 40 = .ok (.isub, 1) := dk_100 ((dQ_X8_gave_2 8).trans dk_j8)
theorem dX8_gave_41 : decode cX8_gave 41 = .ok (.iaload, 1) := dk_46 ((dQ_X8_gave_2 9).trans dk_j9)
theorem dX8_gave_42 : decode cX8_gave 42 = .ok (.aload_n 0, 1) := dk_42 ((dQ_X8_gave_2 10).trans dk_j10)
theorem dX8_gave_43 : decode cX8_gave 43 = .ok (.getfield 10, 3) := dk_180 ((dQ_X8_gave_2 11).trans dk_j11) ((dQ_X8_gave_2 12).trans dk_j12) ((dQ_X8_gave_2 13).trans dk_j13) dk_vu2_0_10
theorem dX8_gave_46 : decode cX8_gave 46 = .ok (.iload_n 1, 1) := dk_27 ((dQ_X8_gave_2 14).trans dk_j14)
theorem dX8_gave_47 : decode cX8_gave 47 = .ok (.invokevirtual 121, 3) := dk_182 ((dQ_X8_gave_2 15).trans dk_j15) ((dQ_X8_gave_3 0).trans dk_j0) ((dQ_X8_gave_3 1).trans dk_j1) dk_vu2_0_121
theorem dX8_gave_50 : decode cX8_gave 50 = .ok (.iand, 1) := dk_126 ((dQ_X8_gave_3 2).trans dk_j2)
theorem dX8_gave_51 : decode cX8_gave 51 = .ok (.ireturn, 1) := dk_172 ((dQ_X8_gave_3 3).trans dk_j3)
def dT_X8_worst_3 : List UInt8 := (0x04 : UInt8) :: (0x3d : UInt8) :: (0x1d : UInt8) :: (0x3c : UInt8) :: (0x84 : UInt8) :: (0x03 : UInt8) :: (0x01 : UInt8) :: (0xa7 : UInt8) :: (0xff : UInt8) :: (0xd9 : UInt8) :: (0x1b : UInt8) :: (0xac : UInt8) :: []
def dT_X8_worst_2 : List UInt8 := (0x00 : UInt8) :: (0x83 : UInt8) :: (0x1d : UInt8) :: (0x2e : UInt8) :: (0xb8 : UInt8) :: (0x00 : UInt8) :: (0xa5 : UInt8) :: (0x36 : UInt8) :: (0x04 : UInt8) :: (0x15 : UInt8) :: (0x04 : UInt8) :: (0x1c : UInt8) :: (0xa4 : UInt8) :: (0x00 : UInt8) :: (0x08 : UInt8) :: (0x15 : UInt8) :: dT_X8_worst_3
def dT_X8_worst_1 : List UInt8 := (0x1d : UInt8) :: (0x2a : UInt8) :: (0xb4 : UInt8) :: (0x00 : UInt8) :: (0x2c : UInt8) :: (0xb4 : UInt8) :: (0x00 : UInt8) :: (0xa2 : UInt8) :: (0xa2 : UInt8) :: (0x00 : UInt8) :: (0x22 : UInt8) :: (0x2a : UInt8) :: (0xb4 : UInt8) :: (0x00 : UInt8) :: (0x2c : UInt8) :: (0xb4 : UInt8) :: dT_X8_worst_2
def dT_X8_worst_0 : List UInt8 := (0x2a : UInt8) :: (0xb6 : UInt8) :: (0x00 : UInt8) :: (0x89 : UInt8) :: (0x9a : UInt8) :: (0x00 : UInt8) :: (0x06 : UInt8) :: (0x10 : UInt8) :: (0xfe : UInt8) :: (0xac : UInt8) :: (0x02 : UInt8) :: (0x3c : UInt8) :: (0x03 : UInt8) :: (0x3d : UInt8) :: (0x03 : UInt8) :: (0x3e : UInt8) :: dT_X8_worst_1
theorem dT_X8_worst : cX8_worst.data.toList = dT_X8_worst_0 := eq_of_beq (show (cX8_worst.data.toList == dT_X8_worst_0) = true by decide +kernel)
theorem dQ_X8_worst_0 : dQ_P cX8_worst 0 dT_X8_worst_0 := fun i => by rw [dT_X8_worst]; rfl
theorem dQ_X8_worst_1 : dQ_P cX8_worst 16 dT_X8_worst_1 := fun i => (dQ_X8_worst_0 (i + 16)).trans dk_t
theorem dQ_X8_worst_2 : dQ_P cX8_worst 32 dT_X8_worst_2 := fun i => (dQ_X8_worst_1 (i + 16)).trans dk_t
theorem dQ_X8_worst_3 : dQ_P cX8_worst 48 dT_X8_worst_3 := fun i => (dQ_X8_worst_2 (i + 16)).trans dk_t
theorem dX8_worst_0 : decode cX8_worst 0 = .ok (.aload_n 0, 1) := dk_42 ((dQ_X8_worst_0 0).trans dk_j0)
theorem dX8_worst_1 : decode cX8_worst 1 = .ok (.invokevirtual 137, 3) := dk_182 ((dQ_X8_worst_0 1).trans dk_j1) ((dQ_X8_worst_0 2).trans dk_j2) ((dQ_X8_worst_0 3).trans dk_j3) dk_vu2_0_137
theorem dX8_worst_4 : decode cX8_worst 4 = .ok (.ifCond .ne 6, 3) := dk_154 ((dQ_X8_worst_0 4).trans dk_j4) ((dQ_X8_worst_0 5).trans dk_j5) ((dQ_X8_worst_0 6).trans dk_j6) dk_vs2_0_6
theorem dX8_worst_7 : decode cX8_worst 7 = .ok (.bipush (-2), 2) := dk_16 ((dQ_X8_worst_0 7).trans dk_j7) ((dQ_X8_worst_0 8).trans dk_j8) dk_vs1_254
theorem dX8_worst_9 : decode cX8_worst 9 = .ok (.ireturn, 1) := dk_172 ((dQ_X8_worst_0 9).trans dk_j9)
theorem dX8_worst_10 : decode cX8_worst 10 = .ok (.iconst (-1), 1) := dk_2 ((dQ_X8_worst_0 10).trans dk_j10)
theorem dX8_worst_11 : decode cX8_worst 11 = .ok (.istore_n 1, 1) := dk_60 ((dQ_X8_worst_0 11).trans dk_j11)
theorem dX8_worst_12 : decode cX8_worst 12 = .ok (.iconst 0, 1) := dk_3 ((dQ_X8_worst_0 12).trans dk_j12)
theorem dX8_worst_13 : decode cX8_worst 13 = .ok (.istore_n 2, 1) := dk_61 ((dQ_X8_worst_0 13).trans dk_j13)
theorem dX8_worst_14 : decode cX8_worst 14 = .ok (.iconst 0, 1) := dk_3 ((dQ_X8_worst_0 14).trans dk_j14)
theorem dX8_worst_15 : decode cX8_worst 15 = .ok (.istore_n 3, 1) := dk_62 ((dQ_X8_worst_0 15).trans dk_j15)
theorem dX8_worst_16 : decode cX8_worst 16 = .ok (.iload_n 3, 1) := dk_29 ((dQ_X8_worst_1 0).trans dk_j0)
theorem dX8_worst_17 : decode cX8_worst 17 = .ok (.aload_n 0, 1) := dk_42 ((dQ_X8_worst_1 1).trans dk_j1)
theorem dX8_worst_18 : decode cX8_worst 18 = .ok (.getfield 44, 3) := dk_180 ((dQ_X8_worst_1 2).trans dk_j2) ((dQ_X8_worst_1 3).trans dk_j3) ((dQ_X8_worst_1 4).trans dk_j4) dk_vu2_0_44
theorem dk_vu2_0_162 : (0x00 : UInt8).toNat * 256 + (0xa2 : UInt8).toNat = (162 : Nat) := by decide +kernel
theorem dX8_worst_21 : decode cX8_worst 21 = .ok (.getfield 162, 3) := dk_180 ((dQ_X8_worst_1 5).trans dk_j5) ((dQ_X8_worst_1 6).trans dk_j6) ((dQ_X8_worst_1 7).trans dk_j7) dk_vu2_0_162
theorem dX8_worst_24 : decode cX8_worst 24 = .ok (.if_icmp .ge 34, 3) := dk_162 ((dQ_X8_worst_1 8).trans dk_j8) ((dQ_X8_worst_1 9).trans dk_j9) ((dQ_X8_worst_1 10).trans dk_j10) dk_vs2_0_34
theorem dX8_worst_27 : decode cX8_worst 27 = .ok (.aload_n 0, 1) := dk_42 ((dQ_X8_worst_1 11).trans dk_j11)
theorem dX8_worst_28 : decode cX8_worst 28 = .ok (.getfield 44, 3) := dk_180 ((dQ_X8_worst_1 12).trans dk_j12) ((dQ_X8_worst_1 13).trans dk_j13) ((dQ_X8_worst_1 14).trans dk_j14) dk_vu2_0_44
theorem dX8_worst_31 : decode cX8_worst 31 = .ok (.getfield 131, 3) := dk_180 ((dQ_X8_worst_1 15).trans dk_j15) ((dQ_X8_worst_2 0).trans dk_j0) ((dQ_X8_worst_2 1).trans dk_j1) dk_vu2_0_131
theorem dX8_worst_34 : decode cX8_worst 34 = .ok (.iload_n 3, 1) := dk_29 ((dQ_X8_worst_2 2).trans dk_j2)
theorem dX8_worst_35 : decode cX8_worst 35 = .ok (.iaload, 1) := dk_46 ((dQ_X8_worst_2 3).trans dk_j3)
theorem dk_vu2_0_165 : (0x00 : UInt8).toNat * 256 + (0xa5 : UInt8).toNat = (165 : Nat) := by decide +kernel
theorem dX8_worst_36 : decode cX8_worst 36 = .ok (.invokestatic 165, 3) := dk_184 ((dQ_X8_worst_2 4).trans dk_j4) ((dQ_X8_worst_2 5).trans dk_j5) ((dQ_X8_worst_2 6).trans dk_j6) dk_vu2_0_165
theorem dX8_worst_39 : decode cX8_worst 39 = .ok (.istore 4, 2) := dk_54 ((dQ_X8_worst_2 7).trans dk_j7) ((dQ_X8_worst_2 8).trans dk_j8) dk_vu1_4
theorem dX8_worst_41 : decode cX8_worst 41 = .ok (.iload 4, 2) := dk_21 ((dQ_X8_worst_2 9).trans dk_j9) ((dQ_X8_worst_2 10).trans dk_j10) dk_vu1_4
theorem dX8_worst_43 : decode cX8_worst 43 = .ok (.iload_n 2, 1) := dk_28 ((dQ_X8_worst_2 11).trans dk_j11)
theorem dX8_worst_44 : decode cX8_worst 44 = .ok (.if_icmp .le 8, 3) := dk_164 ((dQ_X8_worst_2 12).trans dk_j12) ((dQ_X8_worst_2 13).trans dk_j13) ((dQ_X8_worst_2 14).trans dk_j14) dk_vs2_0_8
theorem dX8_worst_47 : decode cX8_worst 47 = .ok (.iload 4, 2) := dk_21 ((dQ_X8_worst_2 15).trans dk_j15) ((dQ_X8_worst_3 0).trans dk_j0) dk_vu1_4
theorem dX8_worst_49 : decode cX8_worst 49 = .ok (.istore_n 2, 1) := dk_61 ((dQ_X8_worst_3 1).trans dk_j1)
theorem dX8_worst_50 : decode cX8_worst 50 = .ok (.iload_n 3, 1) := dk_29 ((dQ_X8_worst_3 2).trans dk_j2)
theorem dX8_worst_51 : decode cX8_worst 51 = .ok (.istore_n 1, 1) := dk_60 ((dQ_X8_worst_3 3).trans dk_j3)
theorem dX8_worst_52 : decode cX8_worst 52 = .ok (.iinc 3 1, 3) := dk_132 ((dQ_X8_worst_3 4).trans dk_j4) ((dQ_X8_worst_3 5).trans dk_j5) ((dQ_X8_worst_3 6).trans dk_j6) dk_vu1_3 dk_vs1_1
theorem dX8_worst_55 : decode cX8_worst 55 = .ok (.goto (-39), 3) := dk_167 ((dQ_X8_worst_3 7).trans dk_j7) ((dQ_X8_worst_3 8).trans dk_j8) ((dQ_X8_worst_3 9).trans dk_j9) dk_vs2_255_217
theorem dX8_worst_58 : decode cX8_worst 58 = .ok (.iload_n 1, 1) := dk_27 ((dQ_X8_worst_3 10).trans dk_j10)
theorem dX8_worst_59 : decode cX8_worst 59 = .ok (.ireturn, 1) := dk_172 ((dQ_X8_worst_3 11).trans dk_j11)
def dT_X8_chorus_3 : List UInt8 := (0x1b : UInt8) :: (0xac : UInt8) :: []
def dT_X8_chorus_2 : List UInt8 := (0x91 : UInt8) :: (0x1c : UInt8) :: (0x2e : UInt8) :: (0xb8 : UInt8) :: (0x00 : UInt8) :: (0xa5 : UInt8) :: (0xb8 : UInt8) :: (0x00 : UInt8) :: (0x9a : UInt8) :: (0x3c : UInt8) :: (0x84 : UInt8) :: (0x02 : UInt8) :: (0x01 : UInt8) :: (0xa7 : UInt8) :: (0xff : UInt8) :: (0xe1 : UInt8) :: dT_X8_chorus_3
def dT_X8_chorus_1 : List UInt8 := (0xb4 : UInt8) :: (0x00 : UInt8) :: (0x2c : UInt8) :: (0xb4 : UInt8) :: (0x00 : UInt8) :: (0x97 : UInt8) :: (0xa2 : UInt8) :: (0x00 : UInt8) :: (0x1a : UInt8) :: (0x1b : UInt8) :: (0x2a : UInt8) :: (0xb4 : UInt8) :: (0x00 : UInt8) :: (0x2c : UInt8) :: (0xb4 : UInt8) :: (0x00 : UInt8) :: dT_X8_chorus_2
def dT_X8_chorus_0 : List UInt8 := (0x2a : UInt8) :: (0xb6 : UInt8) :: (0x00 : UInt8) :: (0x89 : UInt8) :: (0x9a : UInt8) :: (0x00 : UInt8) :: (0x06 : UInt8) :: (0x10 : UInt8) :: (0xfe : UInt8) :: (0xac : UInt8) :: (0x03 : UInt8) :: (0x3c : UInt8) :: (0x03 : UInt8) :: (0x3d : UInt8) :: (0x1c : UInt8) :: (0x2a : UInt8) :: dT_X8_chorus_1
theorem dT_X8_chorus : cX8_chorus.data.toList = dT_X8_chorus_0 := eq_of_beq (show (cX8_chorus.data.toList == dT_X8_chorus_0) = true by decide +kernel)
theorem dQ_X8_chorus_0 : dQ_P cX8_chorus 0 dT_X8_chorus_0 := fun i => by rw [dT_X8_chorus]; rfl
theorem dQ_X8_chorus_1 : dQ_P cX8_chorus 16 dT_X8_chorus_1 := fun i => (dQ_X8_chorus_0 (i + 16)).trans dk_t
theorem dQ_X8_chorus_2 : dQ_P cX8_chorus 32 dT_X8_chorus_2 := fun i => (dQ_X8_chorus_1 (i + 16)).trans dk_t
theorem dQ_X8_chorus_3 : dQ_P cX8_chorus 48 dT_X8_chorus_3 := fun i => (dQ_X8_chorus_2 (i + 16)).trans dk_t
theorem dX8_chorus_0 : decode cX8_chorus 0 = .ok (.aload_n 0, 1) := dk_42 ((dQ_X8_chorus_0 0).trans dk_j0)
theorem dX8_chorus_1 : decode cX8_chorus 1 = .ok (.invokevirtual 137, 3) := dk_182 ((dQ_X8_chorus_0 1).trans dk_j1) ((dQ_X8_chorus_0 2).trans dk_j2) ((dQ_X8_chorus_0 3).trans dk_j3) dk_vu2_0_137
theorem dX8_chorus_4 : decode cX8_chorus 4 = .ok (.ifCond .ne 6, 3) := dk_154 ((dQ_X8_chorus_0 4).trans dk_j4) ((dQ_X8_chorus_0 5).trans dk_j5) ((dQ_X8_chorus_0 6).trans dk_j6) dk_vs2_0_6
theorem dX8_chorus_7 : decode cX8_chorus 7 = .ok (.bipush (-2), 2) := dk_16 ((dQ_X8_chorus_0 7).trans dk_j7) ((dQ_X8_chorus_0 8).trans dk_j8) dk_vs1_254
theorem dX8_chorus_9 : decode cX8_chorus 9 = .ok (.ireturn, 1) := dk_172 ((dQ_X8_chorus_0 9).trans dk_j9)
theorem dX8_chorus_10 : decode cX8_chorus 10 = .ok (.iconst 0, 1) := dk_3 ((dQ_X8_chorus_0 10).trans dk_j10)
theorem dX8_chorus_11 : decode cX8_chorus 11 = .ok (.istore_n 1, 1) := dk_60 ((dQ_X8_chorus_0 11).trans dk_j11)
theorem dX8_chorus_12 : decode cX8_chorus 12 = .ok (.iconst 0, 1) := dk_3 ((dQ_X8_chorus_0 12).trans dk_j12)
theorem dX8_chorus_13 : decode cX8_chorus 13 = .ok (.istore_n 2, 1) := dk_61 ((dQ_X8_chorus_0 13).trans dk_j13)
theorem dX8_chorus_14 : decode cX8_chorus 14 = .ok (.iload_n 2, 1) := dk_28 ((dQ_X8_chorus_0 14).trans dk_j14)
theorem dX8_chorus_15 : decode cX8_chorus 15 = .ok (.aload_n 0, 1) := dk_42 ((dQ_X8_chorus_0 15).trans dk_j15)
theorem dX8_chorus_16 : decode cX8_chorus 16 = .ok (.getfield 44, 3) := dk_180 ((dQ_X8_chorus_1 0).trans dk_j0) ((dQ_X8_chorus_1 1).trans dk_j1) ((dQ_X8_chorus_1 2).trans dk_j2) dk_vu2_0_44
theorem dX8_chorus_19 : decode cX8_chorus 19 = .ok (.getfield 151, 3) := dk_180 ((dQ_X8_chorus_1 3).trans dk_j3) ((dQ_X8_chorus_1 4).trans dk_j4) ((dQ_X8_chorus_1 5).trans dk_j5) dk_vu2_0_151
theorem dX8_chorus_22 : decode cX8_chorus 22 = .ok (.if_icmp .ge 26, 3) := dk_162 ((dQ_X8_chorus_1 6).trans dk_j6) ((dQ_X8_chorus_1 7).trans dk_j7) ((dQ_X8_chorus_1 8).trans dk_j8) dk_vs2_0_26
theorem dX8_chorus_25 : decode cX8_chorus 25 = .ok (.iload_n 1, 1) := dk_27 ((dQ_X8_chorus_1 9).trans dk_j9)
theorem dX8_chorus_26 : decode cX8_chorus 26 = .ok (.aload_n 0, 1) := dk_42 ((dQ_X8_chorus_1 10).trans dk_j10)
theorem dX8_chorus_27 : decode cX8_chorus 27 = .ok (.getfield 44, 3) := dk_180 ((dQ_X8_chorus_1 11).trans dk_j11) ((dQ_X8_chorus_1 12).trans dk_j12) ((dQ_X8_chorus_1 13).trans dk_j13) dk_vu2_0_44
theorem dX8_chorus_30 : decode cX8_chorus 30 = .ok (.getfield 145, 3) := dk_180 ((dQ_X8_chorus_1 14).trans dk_j14) ((dQ_X8_chorus_1 15).trans dk_j15) ((dQ_X8_chorus_2 0).trans dk_j0) dk_vu2_0_145
theorem dX8_chorus_33 : decode cX8_chorus 33 = .ok (.iload_n 2, 1) := dk_28 ((dQ_X8_chorus_2 1).trans dk_j1)
theorem dX8_chorus_34 : decode cX8_chorus 34 = .ok (.iaload, 1) := dk_46 ((dQ_X8_chorus_2 2).trans dk_j2)
theorem dX8_chorus_35 : decode cX8_chorus 35 = .ok (.invokestatic 165, 3) := dk_184 ((dQ_X8_chorus_2 3).trans dk_j3) ((dQ_X8_chorus_2 4).trans dk_j4) ((dQ_X8_chorus_2 5).trans dk_j5) dk_vu2_0_165
theorem dX8_chorus_38 : decode cX8_chorus 38 = .ok (.invokestatic 154, 3) := dk_184 ((dQ_X8_chorus_2 6).trans dk_j6) ((dQ_X8_chorus_2 7).trans dk_j7) ((dQ_X8_chorus_2 8).trans dk_j8) dk_vu2_0_154
theorem dX8_chorus_41 : decode cX8_chorus 41 = .ok (.istore_n 1, 1) := dk_60 ((dQ_X8_chorus_2 9).trans dk_j9)
theorem dX8_chorus_42 : decode cX8_chorus 42 = .ok (.iinc 2 1, 3) := dk_132 ((dQ_X8_chorus_2 10).trans dk_j10) ((dQ_X8_chorus_2 11).trans dk_j11) ((dQ_X8_chorus_2 12).trans dk_j12) dk_vu1_2 dk_vs1_1
theorem dX8_chorus_45 : decode cX8_chorus 45 = .ok (.goto (-31), 3) := dk_167 ((dQ_X8_chorus_2 13).trans dk_j13) ((dQ_X8_chorus_2 14).trans dk_j14) ((dQ_X8_chorus_2 15).trans dk_j15) dk_vs2_255_225
theorem dX8_chorus_48 : decode cX8_chorus 48 = .ok (.iload_n 1, 1) := dk_27 ((dQ_X8_chorus_3 0).trans dk_j0)
theorem dX8_chorus_49 : decode cX8_chorus 49 = .ok (.ireturn, 1) := dk_172 ((dQ_X8_chorus_3 1).trans dk_j1)
def dT_X8_calm_3 : List UInt8 := (0x1c : UInt8) :: (0xb8 : UInt8) :: (0x00 : UInt8) :: (0x9a : UInt8) :: (0x3c : UInt8) :: (0x84 : UInt8) :: (0x03 : UInt8) :: (0x01 : UInt8) :: (0xa7 : UInt8) :: (0xff : UInt8) :: (0xd8 : UInt8) :: (0x1b : UInt8) :: (0xac : UInt8) :: []
def dT_X8_calm_2 : List UInt8 := (0x00 : UInt8) :: (0x91 : UInt8) :: (0x1d : UInt8) :: (0x2e : UInt8) :: (0x9a : UInt8) :: (0x00 : UInt8) :: (0x09 : UInt8) :: (0x1c : UInt8) :: (0x04 : UInt8) :: (0x60 : UInt8) :: (0xa7 : UInt8) :: (0x00 : UInt8) :: (0x04 : UInt8) :: (0x03 : UInt8) :: (0x3d : UInt8) :: (0x1b : UInt8) :: dT_X8_calm_3
def dT_X8_calm_1 : List UInt8 := (0x1d : UInt8) :: (0x2a : UInt8) :: (0xb4 : UInt8) :: (0x00 : UInt8) :: (0x2c : UInt8) :: (0xb4 : UInt8) :: (0x00 : UInt8) :: (0x97 : UInt8) :: (0xa2 : UInt8) :: (0x00 : UInt8) :: (0x23 : UInt8) :: (0x2a : UInt8) :: (0xb4 : UInt8) :: (0x00 : UInt8) :: (0x2c : UInt8) :: (0xb4 : UInt8) :: dT_X8_calm_2
def dT_X8_calm_0 : List UInt8 := (0x2a : UInt8) :: (0xb6 : UInt8) :: (0x00 : UInt8) :: (0x89 : UInt8) :: (0x9a : UInt8) :: (0x00 : UInt8) :: (0x06 : UInt8) :: (0x10 : UInt8) :: (0xfe : UInt8) :: (0xac : UInt8) :: (0x03 : UInt8) :: (0x3c : UInt8) :: (0x03 : UInt8) :: (0x3d : UInt8) :: (0x03 : UInt8) :: (0x3e : UInt8) :: dT_X8_calm_1
theorem dT_X8_calm : cX8_calm.data.toList = dT_X8_calm_0 := eq_of_beq (show (cX8_calm.data.toList == dT_X8_calm_0) = true by decide +kernel)
theorem dQ_X8_calm_0 : dQ_P cX8_calm 0 dT_X8_calm_0 := fun i => by rw [dT_X8_calm]; rfl
theorem dQ_X8_calm_1 : dQ_P cX8_calm 16 dT_X8_calm_1 := fun i => (dQ_X8_calm_0 (i + 16)).trans dk_t
theorem dQ_X8_calm_2 : dQ_P cX8_calm 32 dT_X8_calm_2 := fun i => (dQ_X8_calm_1 (i + 16)).trans dk_t
theorem dQ_X8_calm_3 : dQ_P cX8_calm 48 dT_X8_calm_3 := fun i => (dQ_X8_calm_2 (i + 16)).trans dk_t
theorem dX8_calm_0 : decode cX8_calm 0 = .ok (.aload_n 0, 1) := dk_42 ((dQ_X8_calm_0 0).trans dk_j0)
theorem dX8_calm_1 : decode cX8_calm 1 = .ok (.invokevirtual 137, 3) := dk_182 ((dQ_X8_calm_0 1).trans dk_j1) ((dQ_X8_calm_0 2).trans dk_j2) ((dQ_X8_calm_0 3).trans dk_j3) dk_vu2_0_137
theorem dX8_calm_4 : decode cX8_calm 4 = .ok (.ifCond .ne 6, 3) := dk_154 ((dQ_X8_calm_0 4).trans dk_j4) ((dQ_X8_calm_0 5).trans dk_j5) ((dQ_X8_calm_0 6).trans dk_j6) dk_vs2_0_6
theorem dX8_calm_7 : decode cX8_calm 7 = .ok (.bipush (-2), 2) := dk_16 ((dQ_X8_calm_0 7).trans dk_j7) ((dQ_X8_calm_0 8).trans dk_j8) dk_vs1_254
theorem dX8_calm_9 : decode cX8_calm 9 = .ok (.ireturn, 1) := dk_172 ((dQ_X8_calm_0 9).trans dk_j9)
theorem dX8_calm_10 : decode cX8_calm 10 = .ok (.iconst 0, 1) := dk_3 ((dQ_X8_calm_0 10).trans dk_j10)
theorem dX8_calm_11 : decode cX8_calm 11 = .ok (.istore_n 1, 1) := dk_60 ((dQ_X8_calm_0 11).trans dk_j11)
theorem dX8_calm_12 : decode cX8_calm 12 = .ok (.iconst 0, 1) := dk_3 ((dQ_X8_calm_0 12).trans dk_j12)
theorem dX8_calm_13 : decode cX8_calm 13 = .ok (.istore_n 2, 1) := dk_61 ((dQ_X8_calm_0 13).trans dk_j13)
theorem dX8_calm_14 : decode cX8_calm 14 = .ok (.iconst 0, 1) := dk_3 ((dQ_X8_calm_0 14).trans dk_j14)
theorem dX8_calm_15 : decode cX8_calm 15 = .ok (.istore_n 3, 1) := dk_62 ((dQ_X8_calm_0 15).trans dk_j15)
theorem dX8_calm_16 : decode cX8_calm 16 = .ok (.iload_n 3, 1) := dk_29 ((dQ_X8_calm_1 0).trans dk_j0)
theorem dX8_calm_17 : decode cX8_calm 17 = .ok (.aload_n 0, 1) := dk_42 ((dQ_X8_calm_1 1).trans dk_j1)
theorem dX8_calm_18 : decode cX8_calm 18 = .ok (.getfield 44, 3) := dk_180 ((dQ_X8_calm_1 2).trans dk_j2) ((dQ_X8_calm_1 3).trans dk_j3) ((dQ_X8_calm_1 4).trans dk_j4) dk_vu2_0_44
theorem dX8_calm_21 : decode cX8_calm 21 = .ok (.getfield 151, 3) := dk_180 ((dQ_X8_calm_1 5).trans dk_j5) ((dQ_X8_calm_1 6).trans dk_j6) ((dQ_X8_calm_1 7).trans dk_j7) dk_vu2_0_151
theorem dk_vs2_0_35 : Reader.signed 16 ((0x00 : UInt8).toNat * 256 + (0x23 : UInt8).toNat) = (35 : Int) := by decide +kernel
theorem dX8_calm_24 : decode cX8_calm 24 = .ok (.if_icmp .ge 35, 3) := dk_162 ((dQ_X8_calm_1 8).trans dk_j8) ((dQ_X8_calm_1 9).trans dk_j9) ((dQ_X8_calm_1 10).trans dk_j10) dk_vs2_0_35
theorem dX8_calm_27 : decode cX8_calm 27 = .ok (.aload_n 0, 1) := dk_42 ((dQ_X8_calm_1 11).trans dk_j11)
theorem dX8_calm_28 : decode cX8_calm 28 = .ok (.getfield 44, 3) := dk_180 ((dQ_X8_calm_1 12).trans dk_j12) ((dQ_X8_calm_1 13).trans dk_j13) ((dQ_X8_calm_1 14).trans dk_j14) dk_vu2_0_44
theorem dX8_calm_31 : decode cX8_calm 31 = .ok (.getfield 145, 3) := dk_180 ((dQ_X8_calm_1 15).trans dk_j15) ((dQ_X8_calm_2 0).trans dk_j0) ((dQ_X8_calm_2 1).trans dk_j1) dk_vu2_0_145
theorem dX8_calm_34 : decode cX8_calm 34 = .ok (.iload_n 3, 1) := dk_29 ((dQ_X8_calm_2 2).trans dk_j2)
theorem dX8_calm_35 : decode cX8_calm 35 = .ok (.iaload, 1) := dk_46 ((dQ_X8_calm_2 3).trans dk_j3)
theorem dX8_calm_36 : decode cX8_calm 36 = .ok (.ifCond .ne 9, 3) := dk_154 ((dQ_X8_calm_2 4).trans dk_j4) ((dQ_X8_calm_2 5).trans dk_j5) ((dQ_X8_calm_2 6).trans dk_j6) dk_vs2_0_9
theorem dX8_calm_39 : decode cX8_calm 39 = .ok (.iload_n 2, 1) := dk_28 ((dQ_X8_calm_2 7).trans dk_j7)
theorem dX8_calm_40 : decode cX8_calm 40 = .ok (.iconst 1, 1) := dk_4 ((dQ_X8_calm_2 8).trans dk_j8)
theorem dX8_calm_41 : decode cX8_calm 41 = .ok (.iadd, 1) := dk_96 ((dQ_X8_calm_2 9).trans dk_j9)
theorem dX8_calm_42 : decode cX8_calm 42 = .ok (.goto 4, 3) := dk_167 ((dQ_X8_calm_2 10).trans dk_j10) ((dQ_X8_calm_2 11).trans dk_j11) ((dQ_X8_calm_2 12).trans dk_j12) dk_vs2_0_4
theorem dX8_calm_45 : decode cX8_calm 45 = .ok (.iconst 0, 1) := dk_3 ((dQ_X8_calm_2 13).trans dk_j13)
theorem dX8_calm_46 : decode cX8_calm 46 = .ok (.istore_n 2, 1) := dk_61 ((dQ_X8_calm_2 14).trans dk_j14)
theorem dX8_calm_47 : decode cX8_calm 47 = .ok (.iload_n 1, 1) := dk_27 ((dQ_X8_calm_2 15).trans dk_j15)
theorem dX8_calm_48 : decode cX8_calm 48 = .ok (.iload_n 2, 1) := dk_28 ((dQ_X8_calm_3 0).trans dk_j0)
theorem dX8_calm_49 : decode cX8_calm 49 = .ok (.invokestatic 154, 3) := dk_184 ((dQ_X8_calm_3 1).trans dk_j1) ((dQ_X8_calm_3 2).trans dk_j2) ((dQ_X8_calm_3 3).trans dk_j3) dk_vu2_0_154
theorem dX8_calm_52 : decode cX8_calm 52 = .ok (.istore_n 1, 1) := dk_60 ((dQ_X8_calm_3 4).trans dk_j4)
theorem dX8_calm_53 : decode cX8_calm 53 = .ok (.iinc 3 1, 3) := dk_132 ((dQ_X8_calm_3 5).trans dk_j5) ((dQ_X8_calm_3 6).trans dk_j6) ((dQ_X8_calm_3 7).trans dk_j7) dk_vu1_3 dk_vs1_1
theorem dX8_calm_56 : decode cX8_calm 56 = .ok (.goto (-40), 3) := dk_167 ((dQ_X8_calm_3 8).trans dk_j8) ((dQ_X8_calm_3 9).trans dk_j9) ((dQ_X8_calm_3 10).trans dk_j10) dk_vs2_255_216
theorem dX8_calm_59 : decode cX8_calm 59 = .ok (.iload_n 1, 1) := dk_27 ((dQ_X8_calm_3 11).trans dk_j11)
theorem dX8_calm_60 : decode cX8_calm 60 = .ok (.ireturn, 1) := dk_172 ((dQ_X8_calm_3 12).trans dk_j12)
def dT_X8_pause_5 : List UInt8 := (0xac : UInt8) :: []
def dT_X8_pause_4 : List UInt8 := (0x08 : UInt8) :: (0x15 : UInt8) :: (0x04 : UInt8) :: (0x1d : UInt8) :: (0x64 : UInt8) :: (0x3d : UInt8) :: (0x15 : UInt8) :: (0x04 : UInt8) :: (0x3e : UInt8) :: (0x84 : UInt8) :: (0x04 : UInt8) :: (0x01 : UInt8) :: (0xa7 : UInt8) :: (0xff : UInt8) :: (0xc6 : UInt8) :: (0x1c : UInt8) :: dT_X8_pause_5
def dT_X8_pause_3 : List UInt8 := (0x02 : UInt8) :: (0x9f : UInt8) :: (0x00 : UInt8) :: (0x15 : UInt8) :: (0x1c : UInt8) :: (0x02 : UInt8) :: (0x9f : UInt8) :: (0x00 : UInt8) :: (0x0b : UInt8) :: (0x15 : UInt8) :: (0x04 : UInt8) :: (0x1d : UInt8) :: (0x64 : UInt8) :: (0x1c : UInt8) :: (0xa2 : UInt8) :: (0x00 : UInt8) :: dT_X8_pause_4
def dT_X8_pause_2 : List UInt8 := (0x00 : UInt8) :: (0x2c : UInt8) :: (0xb4 : UInt8) :: (0x00 : UInt8) :: (0x83 : UInt8) :: (0x1b : UInt8) :: (0x2e : UInt8) :: (0x15 : UInt8) :: (0x04 : UInt8) :: (0xb8 : UInt8) :: (0x00 : UInt8) :: (0xaa : UInt8) :: (0x99 : UInt8) :: (0x00 : UInt8) :: (0x1d : UInt8) :: (0x1d : UInt8) :: dT_X8_pause_3
def dT_X8_pause_1 : List UInt8 := (0x36 : UInt8) :: (0x04 : UInt8) :: (0x15 : UInt8) :: (0x04 : UInt8) :: (0x2a : UInt8) :: (0xb4 : UInt8) :: (0x00 : UInt8) :: (0x2c : UInt8) :: (0xb4 : UInt8) :: (0x00 : UInt8) :: (0x97 : UInt8) :: (0xa2 : UInt8) :: (0x00 : UInt8) :: (0x34 : UInt8) :: (0x2a : UInt8) :: (0xb4 : UInt8) :: dT_X8_pause_2
def dT_X8_pause_0 : List UInt8 := (0x2a : UInt8) :: (0x1b : UInt8) :: (0xb6 : UInt8) :: (0x00 : UInt8) :: (0x6b : UInt8) :: (0x9a : UInt8) :: (0x00 : UInt8) :: (0x06 : UInt8) :: (0x10 : UInt8) :: (0xfe : UInt8) :: (0xac : UInt8) :: (0x02 : UInt8) :: (0x3d : UInt8) :: (0x02 : UInt8) :: (0x3e : UInt8) :: (0x03 : UInt8) :: dT_X8_pause_1
theorem dT_X8_pause : cX8_pause.data.toList = dT_X8_pause_0 := eq_of_beq (show (cX8_pause.data.toList == dT_X8_pause_0) = true by decide +kernel)
theorem dQ_X8_pause_0 : dQ_P cX8_pause 0 dT_X8_pause_0 := fun i => by rw [dT_X8_pause]; rfl
theorem dQ_X8_pause_1 : dQ_P cX8_pause 16 dT_X8_pause_1 := fun i => (dQ_X8_pause_0 (i + 16)).trans dk_t
theorem dQ_X8_pause_2 : dQ_P cX8_pause 32 dT_X8_pause_2 := fun i => (dQ_X8_pause_1 (i + 16)).trans dk_t
theorem dQ_X8_pause_3 : dQ_P cX8_pause 48 dT_X8_pause_3 := fun i => (dQ_X8_pause_2 (i + 16)).trans dk_t
theorem dQ_X8_pause_4 : dQ_P cX8_pause 64 dT_X8_pause_4 := fun i => (dQ_X8_pause_3 (i + 16)).trans dk_t
theorem dQ_X8_pause_5 : dQ_P cX8_pause 80 dT_X8_pause_5 := fun i => (dQ_X8_pause_4 (i + 16)).trans dk_t
theorem dX8_pause_0 : decode cX8_pause 0 = .ok (.aload_n 0, 1) := dk_42 ((dQ_X8_pause_0 0).trans dk_j0)
theorem dX8_pause_1 : decode cX8_pause 1 = .ok (.iload_n 1, 1) := dk_27 ((dQ_X8_pause_0 1).trans dk_j1)
theorem dX8_pause_2 : decode cX8_pause 2 = .ok (.invokevirtual 107, 3) := dk_182 ((dQ_X8_pause_0 2).trans dk_j2) ((dQ_X8_pause_0 3).trans dk_j3) ((dQ_X8_pause_0 4).trans dk_j4) dk_vu2_0_107
theorem dX8_pause_5 : decode cX8_pause 5 = .ok (.ifCond .ne 6, 3) := dk_154 ((dQ_X8_pause_0 5).trans dk_j5) ((dQ_X8_pause_0 6).trans dk_j6) ((dQ_X8_pause_0 7).trans dk_j7) dk_vs2_0_6
theorem dX8_pause_8 : decode cX8_pause 8 = .ok (.bipush (-2), 2) := dk_16 ((dQ_X8_pause_0 8).trans dk_j8) ((dQ_X8_pause_0 9).trans dk_j9) dk_vs1_254
theorem dX8_pause_10 : decode cX8_pause 10 = .ok (.ireturn, 1) := dk_172 ((dQ_X8_pause_0 10).trans dk_j10)
theorem dX8_pause_11 : decode cX8_pause 11 = .ok (.iconst (-1), 1) := dk_2 ((dQ_X8_pause_0 11).trans dk_j11)
theorem dX8_pause_12 : decode cX8_pause 12 = .ok (.istore_n 2, 1) := dk_61 ((dQ_X8_pause_0 12).trans dk_j12)
theorem dX8_pause_13 : decode cX8_pause 13 = .ok (.iconst (-1), 1) := dk_2 ((dQ_X8_pause_0 13).trans dk_j13)
theorem dX8_pause_14 : decode cX8_pause 14 = .ok (.istore_n 3, 1) := dk_62 ((dQ_X8_pause_0 14).trans dk_j14)
theorem dX8_pause_15 : decode cX8_pause 15 = .ok (.iconst 0, 1) := dk_3 ((dQ_X8_pause_0 15).trans dk_j15)
theorem dX8_pause_16 : decode cX8_pause 16 = .ok (.istore 4, 2) := dk_54 ((dQ_X8_pause_1 0).trans dk_j0) ((dQ_X8_pause_1 1).trans dk_j1) dk_vu1_4
theorem dX8_pause_18 : decode cX8_pause 18 = .ok (.iload 4, 2) := dk_21 ((dQ_X8_pause_1 2).trans dk_j2) ((dQ_X8_pause_1 3).trans dk_j3) dk_vu1_4
theorem dX8_pause_20 : decode cX8_pause 20 = .ok (.aload_n 0, 1) := dk_42 ((dQ_X8_pause_1 4).trans dk_j4)
theorem dX8_pause_21 : decode cX8_pause 21 = .ok (.getfield 44, 3) := dk_180 ((dQ_X8_pause_1 5).trans dk_j5) ((dQ_X8_pause_1 6).trans dk_j6) ((dQ_X8_pause_1 7).trans dk_j7) dk_vu2_0_44
theorem dX8_pause_24 : decode cX8_pause 24 = .ok (.getfield 151, 3) := dk_180 ((dQ_X8_pause_1 8).trans dk_j8) ((dQ_X8_pause_1 9).trans dk_j9) ((dQ_X8_pause_1 10).trans dk_j10) dk_vu2_0_151
theorem dX8_pause_27 : decode cX8_pause 27 = .ok (.if_icmp .ge 52, 3) := dk_162 ((dQ_X8_pause_1 11).trans dk_j11) ((dQ_X8_pause_1 12).trans dk_j12) ((dQ_X8_pause_1 13).trans dk_j13) dk_vs2_0_52
theorem dX8_pause_30 : decode cX8_pause 30 = .ok (.aload_n 0, 1) := dk_42 ((dQ_X8_pause_1 14).trans dk_j14)
theorem dX8_pause_31 : decode cX8_pause 31 = .ok (.getfield 44, 3) := dk_180 ((dQ_X8_pause_1 15).trans dk_j15) ((dQ_X8_pause_2 0).trans dk_j0) ((dQ_X8_pause_2 1).trans dk_j1) dk_vu2_0_44
theorem dX8_pause_34 : decode cX8_pause 34 = .ok (.getfield 131, 3) := dk_180 ((dQ_X8_pause_2 2).trans dk_j2) ((dQ_X8_pause_2 3).trans dk_j3) ((dQ_X8_pause_2 4).trans dk_j4) dk_vu2_0_131
theorem dX8_pause_37 : decode cX8_pause 37 = .ok (.iload_n 1, 1) := dk_27 ((dQ_X8_pause_2 5).trans dk_j5)
theorem dX8_pause_38 : decode cX8_pause 38 = .ok (.iaload, 1) := dk_46 ((dQ_X8_pause_2 6).trans dk_j6)
theorem dX8_pause_39 : decode cX8_pause 39 = .ok (.iload 4, 2) := dk_21 ((dQ_X8_pause_2 7).trans dk_j7) ((dQ_X8_pause_2 8).trans dk_j8) dk_vu1_4
theorem dk_vu2_0_170 : (0x00 : UInt8).toNat * 256 + (0xaa : UInt8).toNat = (170 : Nat) := by decide +kernel
theorem dX8_pause_41 : decode cX8_pause 41 = .ok (.invokestatic 170, 3) := dk_184 ((dQ_X8_pause_2 9).trans dk_j9) ((dQ_X8_pause_2 10).trans dk_j10) ((dQ_X8_pause_2 11).trans dk_j11) dk_vu2_0_170
theorem dX8_pause_44 : decode cX8_pause 44 = .ok (.ifCond .eq 29, 3) := dk_153 ((dQ_X8_pause_2 12).trans dk_j12) ((dQ_X8_pause_2 13).trans dk_j13) ((dQ_X8_pause_2 14).trans dk_j14) dk_vs2_0_29
theorem dX8_pause_47 : decode cX8_pause 47 = .ok (.iload_n 3, 1) := dk_29 ((dQ_X8_pause_2 15).trans dk_j15)
theorem dX8_pause_48 : decode cX8_pause 48 = .ok (.iconst (-1), 1) := dk_2 ((dQ_X8_pause_3 0).trans dk_j0)
theorem dX8_pause_49 : decode cX8_pause 49 = .ok (.if_icmp .eq 21, 3) := dk_159 ((dQ_X8_pause_3 1).trans dk_j1) ((dQ_X8_pause_3 2).trans dk_j2) ((dQ_X8_pause_3 3).trans dk_j3) dk_vs2_0_21
theorem dX8_pause_52 : decode cX8_pause 52 = .ok (.iload_n 2, 1) := dk_28 ((dQ_X8_pause_3 4).trans dk_j4)
theorem dX8_pause_53 : decode cX8_pause 53 = .ok (.iconst (-1), 1) := dk_2 ((dQ_X8_pause_3 5).trans dk_j5)
theorem dX8_pause_54 : decode cX8_pause 54 = .ok (.if_icmp .eq 11, 3) := dk_159 ((dQ_X8_pause_3 6).trans dk_j6) ((dQ_X8_pause_3 7).trans dk_j7) ((dQ_X8_pause_3 8).trans dk_j8) dk_vs2_0_11
theorem dX8_pause_57 : decode cX8_pause 57 = .ok (.iload 4, 2) := dk_21 ((dQ_X8_pause_3 9).trans dk_j9) ((dQ_X8_pause_3 10).trans dk_j10) dk_vu1_4
theorem dX8_pause_59 : decode cX8_pause 59 = .ok (.iload_n 3, 1) := dk_29 ((dQ_X8_pause_3 11).trans dk_j11)
theorem dX8_pause_60 : decode cX8_pause 60 = .ok (.isub, 1) := dk_100 ((dQ_X8_pause_3 12).trans dk_j12)
theorem dX8_pause_61 : decode cX8_pause 61 = .ok (.iload_n 2, 1) := dk_28 ((dQ_X8_pause_3 13).trans dk_j13)
theorem dX8_pause_62 : decode cX8_pause 62 = .ok (.if_icmp .ge 8, 3) := dk_162 ((dQ_X8_pause_3 14).trans dk_j14) ((dQ_X8_pause_3 15).trans dk_j15) ((dQ_X8_pause_4 0).trans dk_j0) dk_vs2_0_8
theorem dX8_pause_65 : decode cX8_pause 65 = .ok (.iload 4, 2) := dk_21 ((dQ_X8_pause_4 1).trans dk_j1) ((dQ_X8_pause_4 2).trans dk_j2) dk_vu1_4
theorem dX8_pause_67 : decode cX8_pause 67 = .ok (.iload_n 3, 1) := dk_29 ((dQ_X8_pause_4 3).trans dk_j3)
theorem dX8_pause_68 : decode cX8_pause 68 = .ok (.isub, 1) := dk_100 ((dQ_X8_pause_4 4).trans dk_j4)
theorem dX8_pause_69 : decode cX8_pause 69 = .ok (.istore_n 2, 1) := dk_61 ((dQ_X8_pause_4 5).trans dk_j5)
theorem dX8_pause_70 : decode cX8_pause 70 = .ok (.iload 4, 2) := dk_21 ((dQ_X8_pause_4 6).trans dk_j6) ((dQ_X8_pause_4 7).trans dk_j7) dk_vu1_4
theorem dX8_pause_72 : decode cX8_pause 72 = .ok (.istore_n 3, 1) := dk_62 ((dQ_X8_pause_4 8).trans dk_j8)
theorem dX8_pause_73 : decode cX8_pause 73 = .ok (.iinc 4 1, 3) := dk_132 ((dQ_X8_pause_4 9).trans dk_j9) ((dQ_X8_pause_4 10).trans dk_j10) ((dQ_X8_pause_4 11).trans dk_j11) dk_vu1_4 dk_vs1_1
theorem dX8_pause_76 : decode cX8_pause 76 = .ok (.goto (-58), 3) := dk_167 ((dQ_X8_pause_4 12).trans dk_j12) ((dQ_X8_pause_4 13).trans dk_j13) ((dQ_X8_pause_4 14).trans dk_j14) dk_vs2_255_198
theorem dX8_pause_79 : decode cX8_pause 79 = .ok (.iload_n 2, 1) := dk_28 ((dQ_X8_pause_4 15).trans dk_j15)
theorem dX8_pause_80 : decode cX8_pause 80 = .ok (.ireturn, 1) := dk_172 ((dQ_X8_pause_5 0).trans dk_j0)
def dT_X8_later_2 : List UInt8 := (0x02 : UInt8) :: (0x82 : UInt8) :: (0x7e : UInt8) :: (0xb8 : UInt8) :: (0x00 : UInt8) :: (0x86 : UInt8) :: (0xac : UInt8) :: []
def dT_X8_later_1 : List UInt8 := (0x10 : UInt8) :: (0xfe : UInt8) :: (0xac : UInt8) :: (0x2a : UInt8) :: (0xb4 : UInt8) :: (0x00 : UInt8) :: (0x2c : UInt8) :: (0xb4 : UInt8) :: (0x00 : UInt8) :: (0x83 : UInt8) :: (0x1b : UInt8) :: (0x2e : UInt8) :: (0x1c : UInt8) :: (0xb8 : UInt8) :: (0x00 : UInt8) :: (0xae : UInt8) :: dT_X8_later_2
def dT_X8_later_0 : List UInt8 := (0x2a : UInt8) :: (0x1b : UInt8) :: (0xb6 : UInt8) :: (0x00 : UInt8) :: (0x6b : UInt8) :: (0x99 : UInt8) :: (0x00 : UInt8) :: (0x0b : UInt8) :: (0x2a : UInt8) :: (0x1c : UInt8) :: (0xb6 : UInt8) :: (0x00 : UInt8) :: (0x7d : UInt8) :: (0x9a : UInt8) :: (0x00 : UInt8) :: (0x06 : UInt8) :: dT_X8_later_1
theorem dT_X8_later : cX8_later.data.toList = dT_X8_later_0 := eq_of_beq (show (cX8_later.data.toList == dT_X8_later_0) = true by decide +kernel)
theorem dQ_X8_later_0 : dQ_P cX8_later 0 dT_X8_later_0 := fun i => by rw [dT_X8_later]; rfl
theorem dQ_X8_later_1 : dQ_P cX8_later 16 dT_X8_later_1 := fun i => (dQ_X8_later_0 (i + 16)).trans dk_t
theorem dQ_X8_later_2 : dQ_P cX8_later 32 dT_X8_later_2 := fun i => (dQ_X8_later_1 (i + 16)).trans dk_t
theorem dX8_later_0 : decode cX8_later 0 = .ok (.aload_n 0, 1) := dk_42 ((dQ_X8_later_0 0).trans dk_j0)
theorem dX8_later_1 : decode cX8_later 1 = .ok (.iload_n 1, 1) := dk_27 ((dQ_X8_later_0 1).trans dk_j1)
theorem dX8_later_2 : decode cX8_later 2 = .ok (.invokevirtual 107, 3) := dk_182 ((dQ_X8_later_0 2).trans dk_j2) ((dQ_X8_later_0 3).trans dk_j3) ((dQ_X8_later_0 4).trans dk_j4) dk_vu2_0_107
theorem dX8_later_5 : decode cX8_later 5 = .ok (.ifCond .eq 11, 3) := dk_153 ((dQ_X8_later_0 5).trans dk_j5) ((dQ_X8_later_0 6).trans dk_j6) ((dQ_X8_later_0 7).trans dk_j7) dk_vs2_0_11
theorem dX8_later_8 : decode cX8_later 8 = .ok (.aload_n 0, 1) := dk_42 ((dQ_X8_later_0 8).trans dk_j8)
theorem dX8_later_9 : decode cX8_later 9 = .ok (.iload_n 2, 1) := dk_28 ((dQ_X8_later_0 9).trans dk_j9)
theorem dX8_later_10 : decode cX8_later 10 = .ok (.invokevirtual 125, 3) := dk_182 ((dQ_X8_later_0 10).trans dk_j10) ((dQ_X8_later_0 11).trans dk_j11) ((dQ_X8_later_0 12).trans dk_j12) dk_vu2_0_125
theorem dX8_later_13 : decode cX8_later 13 = .ok (.ifCond .ne 6, 3) := dk_154 ((dQ_X8_later_0 13).trans dk_j13) ((dQ_X8_later_0 14).trans dk_j14) ((dQ_X8_later_0 15).trans dk_j15) dk_vs2_0_6
theorem dX8_later_16 : decode cX8_later 16 = .ok (.bipush (-2), 2) := dk_16 ((dQ_X8_later_1 0).trans dk_j0) ((dQ_X8_later_1 1).trans dk_j1) dk_vs1_254
theorem dX8_later_18 : decode cX8_later 18 = .ok (.ireturn, 1) := dk_172 ((dQ_X8_later_1 2).trans dk_j2)
theorem dX8_later_19 : decode cX8_later 19 = .ok (.aload_n 0, 1) := dk_42 ((dQ_X8_later_1 3).trans dk_j3)
theorem dX8_later_20 : decode cX8_later 20 = .ok (.getfield 44, 3) := dk_180 ((dQ_X8_later_1 4).trans dk_j4) ((dQ_X8_later_1 5).trans dk_j5) ((dQ_X8_later_1 6).trans dk_j6) dk_vu2_0_44
theorem dX8_later_23 : decode cX8_later 23 = .ok (.getfield 131, 3) := dk_180 ((dQ_X8_later_1 7).trans dk_j7) ((dQ_X8_later_1 8).trans dk_j8) ((dQ_X8_later_1 9).trans dk_j9) dk_vu2_0_131
theorem dX8_later_26 : decode cX8_later 26 = .ok (.iload_n 1, 1) := dk_27 ((dQ_X8_later_1 10).trans dk_j10)
theorem dX8_later_27 : decode cX8_later 27 = .ok (.iaload, 1) := dk_46 ((dQ_X8_later_1 11).trans dk_j11)
theorem dX8_later_28 : decode cX8_later 28 = .ok (.iload_n 2, 1) := dk_28 ((dQ_X8_later_1 12).trans dk_j12)
theorem dk_vu2_0_174 : (0x00 : UInt8).toNat * 256 + (0xae : UInt8).toNat = (174 : Nat) := by decide +kernel
theorem dX8_later_29 : decode cX8_later 29 = .ok (.invokestatic 174, 3) := dk_184 ((dQ_X8_later_1 13).trans dk_j13) ((dQ_X8_later_1 14).trans dk_j14) ((dQ_X8_later_1 15).trans dk_j15) dk_vu2_0_174
theorem dX8_later_32 : decode cX8_later 32 = .ok (.iconst (-1), 1) := dk_2 ((dQ_X8_later_2 0).trans dk_j0)
theorem dX8_later_33 : decode cX8_later 33 = .ok (.ixor, 1) := dk_130 ((dQ_X8_later_2 1).trans dk_j1)
theorem dX8_later_34 : decode cX8_later 34 = .ok (.iand, 1) := dk_126 ((dQ_X8_later_2 2).trans dk_j2)
theorem dX8_later_35 : decode cX8_later 35 = .ok (.invokestatic 134, 3) := dk_184 ((dQ_X8_later_2 3).trans dk_j3) ((dQ_X8_later_2 4).trans dk_j4) ((dQ_X8_later_2 5).trans dk_j5) dk_vu2_0_134
theorem dX8_later_38 : decode cX8_later 38 = .ok (.ireturn, 1) := dk_172 ((dQ_X8_later_2 6).trans dk_j6)
def dT_X8_covered_1 : List UInt8 := (0x10 : UInt8) :: (0xfe : UInt8) :: (0xac : UInt8) :: []
def dT_X8_covered_0 : List UInt8 := (0x2a : UInt8) :: (0x1b : UInt8) :: (0xb6 : UInt8) :: (0x00 : UInt8) :: (0x6b : UInt8) :: (0x99 : UInt8) :: (0x00 : UInt8) :: (0x0b : UInt8) :: (0x2a : UInt8) :: (0x1b : UInt8) :: (0xb6 : UInt8) :: (0x00 : UInt8) :: (0xb1 : UInt8) :: (0xa7 : UInt8) :: (0x00 : UInt8) :: (0x05 : UInt8) :: dT_X8_covered_1
theorem dT_X8_covered : cX8_covered.data.toList = dT_X8_covered_0 := eq_of_beq (show (cX8_covered.data.toList == dT_X8_covered_0) = true by decide +kernel)
theorem dQ_X8_covered_0 : dQ_P cX8_covered 0 dT_X8_covered_0 := fun i => by rw [dT_X8_covered]; rfl
theorem dQ_X8_covered_1 : dQ_P cX8_covered 16 dT_X8_covered_1 := fun i => (dQ_X8_covered_0 (i + 16)).trans dk_t
theorem dX8_covered_0 : decode cX8_covered 0 = .ok (.aload_n 0, 1) := dk_42 ((dQ_X8_covered_0 0).trans dk_j0)
theorem dX8_covered_1 : decode cX8_covered 1 = .ok (.iload_n 1, 1) := dk_27 ((dQ_X8_covered_0 1).trans dk_j1)
theorem dX8_covered_2 : decode cX8_covered 2 = .ok (.invokevirtual 107, 3) := dk_182 ((dQ_X8_covered_0 2).trans dk_j2) ((dQ_X8_covered_0 3).trans dk_j3) ((dQ_X8_covered_0 4).trans dk_j4) dk_vu2_0_107
theorem dX8_covered_5 : decode cX8_covered 5 = .ok (.ifCond .eq 11, 3) := dk_153 ((dQ_X8_covered_0 5).trans dk_j5) ((dQ_X8_covered_0 6).trans dk_j6) ((dQ_X8_covered_0 7).trans dk_j7) dk_vs2_0_11
theorem dX8_covered_8 : decode cX8_covered 8 = .ok (.aload_n 0, 1) := dk_42 ((dQ_X8_covered_0 8).trans dk_j8)
theorem dX8_covered_9 : decode cX8_covered 9 = .ok (.iload_n 1, 1) := dk_27 ((dQ_X8_covered_0 9).trans dk_j9)
theorem dk_vu2_0_177 : (0x00 : UInt8).toNat * 256 + (0xb1 : UInt8).toNat = (177 : Nat) := by decide +kernel
theorem dX8_covered_10 : decode cX8_covered 10 = .ok (.invokevirtual 177, 3) := dk_182 ((dQ_X8_covered_0 10).trans dk_j10) ((dQ_X8_covered_0 11).trans dk_j11) ((dQ_X8_covered_0 12).trans dk_j12) dk_vu2_0_177
theorem dX8_covered_13 : decode cX8_covered 13 = .ok (.goto 5, 3) := dk_167 ((dQ_X8_covered_0 13).trans dk_j13) ((dQ_X8_covered_0 14).trans dk_j14) ((dQ_X8_covered_0 15).trans dk_j15) dk_vs2_0_5
theorem dX8_covered_16 : decode cX8_covered 16 = .ok (.bipush (-2), 2) := dk_16 ((dQ_X8_covered_1 0).trans dk_j0) ((dQ_X8_covered_1 1).trans dk_j1) dk_vs1_254
theorem dX8_covered_18 : decode cX8_covered 18 = .ok (.ireturn, 1) := dk_172 ((dQ_X8_covered_1 2).trans dk_j2)
def dT_X8_naked_3 : List UInt8 := (0x78 : UInt8) :: (0x80 : UInt8) :: (0x3c : UInt8) :: (0x84 : UInt8) :: (0x02 : UInt8) :: (0x01 : UInt8) :: (0xa7 : UInt8) :: (0xff : UInt8) :: (0xd8 : UInt8) :: (0x1b : UInt8) :: (0xac : UInt8) :: []
def dT_X8_naked_2 : List UInt8 := (0x1c : UInt8) :: (0x2e : UInt8) :: (0x2a : UInt8) :: (0x1c : UInt8) :: (0xb6 : UInt8) :: (0x00 : UInt8) :: (0xb1 : UInt8) :: (0x02 : UInt8) :: (0x82 : UInt8) :: (0x7e : UInt8) :: (0x99 : UInt8) :: (0x00 : UInt8) :: (0x09 : UInt8) :: (0x1b : UInt8) :: (0x04 : UInt8) :: (0x1c : UInt8) :: dT_X8_naked_3
def dT_X8_naked_1 : List UInt8 := (0xb4 : UInt8) :: (0x00 : UInt8) :: (0x2c : UInt8) :: (0xb4 : UInt8) :: (0x00 : UInt8) :: (0xa2 : UInt8) :: (0xa2 : UInt8) :: (0x00 : UInt8) :: (0x23 : UInt8) :: (0x2a : UInt8) :: (0xb4 : UInt8) :: (0x00 : UInt8) :: (0x2c : UInt8) :: (0xb4 : UInt8) :: (0x00 : UInt8) :: (0x83 : UInt8) :: dT_X8_naked_2
def dT_X8_naked_0 : List UInt8 := (0x2a : UInt8) :: (0xb6 : UInt8) :: (0x00 : UInt8) :: (0x89 : UInt8) :: (0x9a : UInt8) :: (0x00 : UInt8) :: (0x06 : UInt8) :: (0x10 : UInt8) :: (0xfe : UInt8) :: (0xac : UInt8) :: (0x03 : UInt8) :: (0x3c : UInt8) :: (0x03 : UInt8) :: (0x3d : UInt8) :: (0x1c : UInt8) :: (0x2a : UInt8) :: dT_X8_naked_1
theorem dT_X8_naked : cX8_naked.data.toList = dT_X8_naked_0 := eq_of_beq (show (cX8_naked.data.toList == dT_X8_naked_0) = true by decide +kernel)
theorem dQ_X8_naked_0 : dQ_P cX8_naked 0 dT_X8_naked_0 := fun i => by rw [dT_X8_naked]; rfl
theorem dQ_X8_naked_1 : dQ_P cX8_naked 16 dT_X8_naked_1 := fun i => (dQ_X8_naked_0 (i + 16)).trans dk_t
theorem dQ_X8_naked_2 : dQ_P cX8_naked 32 dT_X8_naked_2 := fun i => (dQ_X8_naked_1 (i + 16)).trans dk_t
theorem dQ_X8_naked_3 : dQ_P cX8_naked 48 dT_X8_naked_3 := fun i => (dQ_X8_naked_2 (i + 16)).trans dk_t
theorem dX8_naked_0 : decode cX8_naked 0 = .ok (.aload_n 0, 1) := dk_42 ((dQ_X8_naked_0 0).trans dk_j0)
theorem dX8_naked_1 : decode cX8_naked 1 = .ok (.invokevirtual 137, 3) := dk_182 ((dQ_X8_naked_0 1).trans dk_j1) ((dQ_X8_naked_0 2).trans dk_j2) ((dQ_X8_naked_0 3).trans dk_j3) dk_vu2_0_137
theorem dX8_naked_4 : decode cX8_naked 4 = .ok (.ifCond .ne 6, 3) := dk_154 ((dQ_X8_naked_0 4).trans dk_j4) ((dQ_X8_naked_0 5).trans dk_j5) ((dQ_X8_naked_0 6).trans dk_j6) dk_vs2_0_6
theorem dX8_naked_7 : decode cX8_naked 7 = .ok (.bipush (-2), 2) := dk_16 ((dQ_X8_naked_0 7).trans dk_j7) ((dQ_X8_naked_0 8).trans dk_j8) dk_vs1_254
theorem dX8_naked_9 : decode cX8_naked 9 = .ok (.ireturn, 1) := dk_172 ((dQ_X8_naked_0 9).trans dk_j9)
theorem dX8_naked_10 : decode cX8_naked 10 = .ok (.iconst 0, 1) := dk_3 ((dQ_X8_naked_0 10).trans dk_j10)
theorem dX8_naked_11 : decode cX8_naked 11 = .ok (.istore_n 1, 1) := dk_60 ((dQ_X8_naked_0 11).trans dk_j11)
theorem dX8_naked_12 : decode cX8_naked 12 = .ok (.iconst 0, 1) := dk_3 ((dQ_X8_naked_0 12).trans dk_j12)
theorem dX8_naked_13 : decode cX8_naked 13 = .ok (.istore_n 2, 1) := dk_61 ((dQ_X8_naked_0 13).trans dk_j13)
theorem dX8_naked_14 : decode cX8_naked 14 = .ok (.iload_n 2, 1) := dk_28 ((dQ_X8_naked_0 14).trans dk_j14)
theorem dX8_naked_15 : decode cX8_naked 15 = .ok (.aload_n 0, 1) := dk_42 ((dQ_X8_naked_0 15).trans dk_j15)
theorem dX8_naked_16 : decode cX8_naked 16 = .ok (.getfield 44, 3) := dk_180 ((dQ_X8_naked_1 0).trans dk_j0) ((dQ_X8_naked_1 1).trans dk_j1) ((dQ_X8_naked_1 2).trans dk_j2) dk_vu2_0_44
theorem dX8_naked_19 : decode cX8_naked 19 = .ok (.getfield 162, 3) := dk_180 ((dQ_X8_naked_1 3).trans dk_j3) ((dQ_X8_naked_1 4).trans dk_j4) ((dQ_X8_naked_1 5).trans dk_j5) dk_vu2_0_162
theorem dX8_naked_22 : decode cX8_naked 22 = .ok (.if_icmp .ge 35, 3) := dk_162 ((dQ_X8_naked_1 6).trans dk_j6) ((dQ_X8_naked_1 7).trans dk_j7) ((dQ_X8_naked_1 8).trans dk_j8) dk_vs2_0_35
theorem dX8_naked_25 : decode cX8_naked 25 = .ok (.aload_n 0, 1) := dk_42 ((dQ_X8_naked_1 9).trans dk_j9)
theorem dX8_naked_26 : decode cX8_naked 26 = .ok (.getfield 44, 3) := dk_180 ((dQ_X8_naked_1 10).trans dk_j10) ((dQ_X8_naked_1 11).trans dk_j11) ((dQ_X8_naked_1 12).trans dk_j12) dk_vu2_0_44
theorem dX8_naked_29 : decode cX8_naked 29 = .ok (.getfield 131, 3) := dk_180 ((dQ_X8_naked_1 13).trans dk_j13) ((dQ_X8_naked_1 14).trans dk_j14) ((dQ_X8_naked_1 15).trans dk_j15) dk_vu2_0_131
theorem dX8_naked_32 : decode cX8_naked 32 = .ok (.iload_n 2, 1) := dk_28 ((dQ_X8_naked_2 0).trans dk_j0)
theorem dX8_naked_33 : decode cX8_naked 33 = .ok (.iaload, 1) := dk_46 ((dQ_X8_naked_2 1).trans dk_j1)
theorem dX8_naked_34 : decode cX8_naked 34 = .ok (.aload_n 0, 1) := dk_42 ((dQ_X8_naked_2 2).trans dk_j2)
theorem dX8_naked_35 : decode cX8_naked 35 = .ok (.iload_n 2, 1) := dk_28 ((dQ_X8_naked_2 3).trans dk_j3)
theorem dX8_naked_36 : decode cX8_naked 36 = .ok (.invokevirtual 177, 3) := dk_182 ((dQ_X8_naked_2 4).trans dk_j4) ((dQ_X8_naked_2 5).trans dk_j5) ((dQ_X8_naked_2 6).trans dk_j6) dk_vu2_0_177
theorem dX8_naked_39 : decode cX8_naked 39 = .ok (.iconst (-1), 1) := dk_2 ((dQ_X8_naked_2 7).trans dk_j7)
theorem dX8_naked_40 : decode cX8_naked 40 = .ok (.ixor, 1) := dk_130 ((dQ_X8_naked_2 8).trans dk_j8)
theorem dX8_naked_41 : decode cX8_naked 41 = .ok (.iand, 1) := dk_126 ((dQ_X8_naked_2 9).trans dk_j9)
theorem dX8_naked_42 : decode cX8_naked 42 = .ok (.ifCond .eq 9, 3) := dk_153 ((dQ_X8_naked_2 10).trans dk_j10) ((dQ_X8_naked_2 11).trans dk_j11) ((dQ_X8_naked_2 12).trans dk_j12) dk_vs2_0_9
theorem dX8_naked_45 : decode cX8_naked 45 = .ok (.iload_n 1, 1) := dk_27 ((dQ_X8_naked_2 13).trans dk_j13)
theorem dX8_naked_46 : decode cX8_naked 46 = .ok (.iconst 1, 1) := dk_4 ((dQ_X8_naked_2 14).trans dk_j14)
theorem dX8_naked_47 : decode cX8_naked 47 = .ok (.iload_n 2, 1) := dk_28 ((dQ_X8_naked_2 15).trans dk_j15)
theorem dX8_naked_48 : decode cX8_naked 48 = .ok (.ishl, 1) := dk_120 ((dQ_X8_naked_3 0).trans dk_j0)
theorem dX8_naked_49 : decode cX8_naked 49 = .ok (.ior, 1) := dk_128 ((dQ_X8_naked_3 1).trans dk_j1)
theorem dX8_naked_50 : decode cX8_naked 50 = .ok (.istore_n 1, 1) := dk_60 ((dQ_X8_naked_3 2).trans dk_j2)
theorem dX8_naked_51 : decode cX8_naked 51 = .ok (.iinc 2 1, 3) := dk_132 ((dQ_X8_naked_3 3).trans dk_j3) ((dQ_X8_naked_3 4).trans dk_j4) ((dQ_X8_naked_3 5).trans dk_j5) dk_vu1_2 dk_vs1_1
theorem dX8_naked_54 : decode cX8_naked 54 = .ok (.goto (-40), 3) := dk_167 ((dQ_X8_naked_3 6).trans dk_j6) ((dQ_X8_naked_3 7).trans dk_j7) ((dQ_X8_naked_3 8).trans dk_j8) dk_vs2_255_216
theorem dX8_naked_57 : decode cX8_naked 57 = .ok (.iload_n 1, 1) := dk_27 ((dQ_X8_naked_3 9).trans dk_j9)
theorem dX8_naked_58 : decode cX8_naked 58 = .ok (.ireturn, 1) := dk_172 ((dQ_X8_naked_3 10).trans dk_j10)
def dT_X8_covers_3 : List UInt8 := (0x80 : UInt8) :: (0x3d : UInt8) :: (0x84 : UInt8) :: (0x03 : UInt8) :: (0x01 : UInt8) :: (0xa7 : UInt8) :: (0xff : UInt8) :: (0xda : UInt8) :: (0x1c : UInt8) :: (0xac : UInt8) :: []
def dT_X8_covers_2 : List UInt8 := (0x0a : UInt8) :: (0x1d : UInt8) :: (0xb6 : UInt8) :: (0x00 : UInt8) :: (0xb4 : UInt8) :: (0x1b : UInt8) :: (0xb8 : UInt8) :: (0x00 : UInt8) :: (0xaa : UInt8) :: (0x99 : UInt8) :: (0x00 : UInt8) :: (0x09 : UInt8) :: (0x1c : UInt8) :: (0x04 : UInt8) :: (0x1d : UInt8) :: (0x78 : UInt8) :: dT_X8_covers_3
def dT_X8_covers_1 : List UInt8 := (0x2a : UInt8) :: (0xb4 : UInt8) :: (0x00 : UInt8) :: (0x0a : UInt8) :: (0xb4 : UInt8) :: (0x00 : UInt8) :: (0x64 : UInt8) :: (0x10 : UInt8) :: (0x08 : UInt8) :: (0x2e : UInt8) :: (0xa2 : UInt8) :: (0x00 : UInt8) :: (0x1e : UInt8) :: (0x2a : UInt8) :: (0xb4 : UInt8) :: (0x00 : UInt8) :: dT_X8_covers_2
def dT_X8_covers_0 : List UInt8 := (0x2a : UInt8) :: (0x1b : UInt8) :: (0xb6 : UInt8) :: (0x00 : UInt8) :: (0x7d : UInt8) :: (0x9a : UInt8) :: (0x00 : UInt8) :: (0x06 : UInt8) :: (0x10 : UInt8) :: (0xfe : UInt8) :: (0xac : UInt8) :: (0x03 : UInt8) :: (0x3d : UInt8) :: (0x03 : UInt8) :: (0x3e : UInt8) :: (0x1d : UInt8) :: dT_X8_covers_1
theorem dT_X8_covers : cX8_covers.data.toList = dT_X8_covers_0 := eq_of_beq (show (cX8_covers.data.toList == dT_X8_covers_0) = true by decide +kernel)
theorem dQ_X8_covers_0 : dQ_P cX8_covers 0 dT_X8_covers_0 := fun i => by rw [dT_X8_covers]; rfl
theorem dQ_X8_covers_1 : dQ_P cX8_covers 16 dT_X8_covers_1 := fun i => (dQ_X8_covers_0 (i + 16)).trans dk_t
theorem dQ_X8_covers_2 : dQ_P cX8_covers 32 dT_X8_covers_2 := fun i => (dQ_X8_covers_1 (i + 16)).trans dk_t
theorem dQ_X8_covers_3 : dQ_P cX8_covers 48 dT_X8_covers_3 := fun i => (dQ_X8_covers_2 (i + 16)).trans dk_t
theorem dX8_covers_0 : decode cX8_covers 0 = .ok (.aload_n 0, 1) := dk_42 ((dQ_X8_covers_0 0).trans dk_j0)
theorem dX8_covers_1 : decode cX8_covers 1 = .ok (.iload_n 1, 1) := dk_27 ((dQ_X8_covers_0 1).trans dk_j1)
theorem dX8_covers_2 : decode cX8_covers 2 = .ok (.invokevirtual 125, 3) := dk_182 ((dQ_X8_covers_0 2).trans dk_j2) ((dQ_X8_covers_0 3).trans dk_j3) ((dQ_X8_covers_0 4).trans dk_j4) dk_vu2_0_125
theorem dX8_covers_5 : decode cX8_covers 5 = .ok (.ifCond .ne 6, 3) := dk_154 ((dQ_X8_covers_0 5).trans dk_j5) ((dQ_X8_covers_0 6).trans dk_j6) ((dQ_X8_covers_0 7).trans dk_j7) dk_vs2_0_6
theorem dX8_covers_8 : decode cX8_covers 8 = .ok (.bipush (-2), 2) := dk_16 ((dQ_X8_covers_0 8).trans dk_j8) ((dQ_X8_covers_0 9).trans dk_j9) dk_vs1_254
theorem dX8_covers_10 : decode cX8_covers 10 = .ok (.ireturn, 1) := dk_172 ((dQ_X8_covers_0 10).trans dk_j10)
theorem dX8_covers_11 : decode cX8_covers 11 = .ok (.iconst 0, 1) := dk_3 ((dQ_X8_covers_0 11).trans dk_j11)
theorem dX8_covers_12 : decode cX8_covers 12 = .ok (.istore_n 2, 1) := dk_61 ((dQ_X8_covers_0 12).trans dk_j12)
theorem dX8_covers_13 : decode cX8_covers 13 = .ok (.iconst 0, 1) := dk_3 ((dQ_X8_covers_0 13).trans dk_j13)
theorem dX8_covers_14 : decode cX8_covers 14 = .ok (.istore_n 3, 1) := dk_62 ((dQ_X8_covers_0 14).trans dk_j14)
theorem dX8_covers_15 : decode cX8_covers 15 = .ok (.iload_n 3, 1) := dk_29 ((dQ_X8_covers_0 15).trans dk_j15)
theorem dX8_covers_16 : decode cX8_covers 16 = .ok (.aload_n 0, 1) := dk_42 ((dQ_X8_covers_1 0).trans dk_j0)
theorem dX8_covers_17 : decode cX8_covers 17 = .ok (.getfield 10, 3) := dk_180 ((dQ_X8_covers_1 1).trans dk_j1) ((dQ_X8_covers_1 2).trans dk_j2) ((dQ_X8_covers_1 3).trans dk_j3) dk_vu2_0_10
theorem dX8_covers_20 : decode cX8_covers 20 = .ok (.getfield 100, 3) := dk_180 ((dQ_X8_covers_1 4).trans dk_j4) ((dQ_X8_covers_1 5).trans dk_j5) ((dQ_X8_covers_1 6).trans dk_j6) dk_vu2_0_100
theorem dX8_covers_23 : decode cX8_covers 23 = .ok (.bipush 8, 2) := dk_16 ((dQ_X8_covers_1 7).trans dk_j7) ((dQ_X8_covers_1 8).trans dk_j8) dk_vs1_8
theorem dX8_covers_25 : decode cX8_covers 25 = .ok (.iaload, 1) := dk_46 ((dQ_X8_covers_1 9).trans dk_j9)
theorem dX8_covers_26 : decode cX8_covers 26 = .ok (.if_icmp .ge 30, 3) := dk_162 ((dQ_X8_covers_1 10).trans dk_j10) ((dQ_X8_covers_1 11).trans dk_j11) ((dQ_X8_covers_1 12).trans dk_j12) dk_vs2_0_30
theorem dX8_covers_29 : decode cX8_covers 29 = .ok (.aload_n 0, 1) := dk_42 ((dQ_X8_covers_1 13).trans dk_j13)
theorem dX8_covers_30 : decode cX8_covers 30 = .ok (.getfield 10, 3) := dk_180 ((dQ_X8_covers_1 14).trans dk_j14) ((dQ_X8_covers_1 15).trans dk_j15) ((dQ_X8_covers_2 0).trans dk_j0) dk_vu2_0_10
theorem dX8_covers_33 : decode cX8_covers 33 = .ok (.iload_n 3, 1) := dk_29 ((dQ_X8_covers_2 1).trans dk_j1)
theorem dk_vu2_0_180 : (0x00 : UInt8).toNat * 256 + (0xb4 : UInt8).toNat = (180 : Nat) := by decide +kernel
theorem dX8_covers_34 : decode cX8_covers 34 = .ok (.invokevirtual 180, 3) := dk_182 ((dQ_X8_covers_2 2).trans dk_j2) ((dQ_X8_covers_2 3).trans dk_j3) ((dQ_X8_covers_2 4).trans dk_j4) dk_vu2_0_180
theorem dX8_covers_37 : decode cX8_covers 37 = .ok (.iload_n 1, 1) := dk_27 ((dQ_X8_covers_2 5).trans dk_j5)
theorem dX8_covers_38 : decode cX8_covers 38 = .ok (.invokestatic 170, 3) := dk_184 ((dQ_X8_covers_2 6).trans dk_j6) ((dQ_X8_covers_2 7).trans dk_j7) ((dQ_X8_covers_2 8).trans dk_j8) dk_vu2_0_170
theorem dX8_covers_41 : decode cX8_covers 41 = .ok (.ifCond .eq 9, 3) := dk_153 ((dQ_X8_covers_2 9).trans dk_j9) ((dQ_X8_covers_2 10).trans dk_j10) ((dQ_X8_covers_2 11).trans dk_j11) dk_vs2_0_9
theorem dX8_covers_44 : decode cX8_covers 44 = .ok (.iload_n 2, 1) := dk_28 ((dQ_X8_covers_2 12).trans dk_j12)
theorem dX8_covers_45 : decode cX8_covers 45 = .ok (.iconst 1, 1) := dk_4 ((dQ_X8_covers_2 13).trans dk_j13)
theorem dX8_covers_46 : decode cX8_covers 46 = .ok (.iload_n 3, 1) := dk_29 ((dQ_X8_covers_2 14).trans dk_j14)
theorem dX8_covers_47 : decode cX8_covers 47 = .ok (.ishl, 1) := dk_120 ((dQ_X8_covers_2 15).trans dk_j15)
theorem dX8_covers_48 : decode cX8_covers 48 = .ok (.ior, 1) := dk_128 ((dQ_X8_covers_3 0).trans dk_j0)
theorem dX8_covers_49 : decode cX8_covers 49 = .ok (.istore_n 2, 1) := dk_61 ((dQ_X8_covers_3 1).trans dk_j1)
theorem dX8_covers_50 : decode cX8_covers 50 = .ok (.iinc 3 1, 3) := dk_132 ((dQ_X8_covers_3 2).trans dk_j2) ((dQ_X8_covers_3 3).trans dk_j3) ((dQ_X8_covers_3 4).trans dk_j4) dk_vu1_3 dk_vs1_1
theorem dX8_covers_53 : decode cX8_covers 53 = .ok (.goto (-38), 3) := dk_167 ((dQ_X8_covers_3 5).trans dk_j5) ((dQ_X8_covers_3 6).trans dk_j6) ((dQ_X8_covers_3 7).trans dk_j7) dk_vs2_255_218
theorem dX8_covers_56 : decode cX8_covers 56 = .ok (.iload_n 2, 1) := dk_28 ((dQ_X8_covers_3 8).trans dk_j8)
theorem dX8_covers_57 : decode cX8_covers 57 = .ok (.ireturn, 1) := dk_172 ((dQ_X8_covers_3 9).trans dk_j9)
def dT_X8_dull_4 : List UInt8 := (0xff : UInt8) :: (0xda : UInt8) :: (0x02 : UInt8) :: (0xac : UInt8) :: []
def dT_X8_dull_3 : List UInt8 := (0x00 : UInt8) :: (0x30 : UInt8) :: (0xb4 : UInt8) :: (0x00 : UInt8) :: (0x83 : UInt8) :: (0x1b : UInt8) :: (0x2e : UInt8) :: (0x9a : UInt8) :: (0x00 : UInt8) :: (0x05 : UInt8) :: (0x1c : UInt8) :: (0xac : UInt8) :: (0x84 : UInt8) :: (0x02 : UInt8) :: (0xff : UInt8) :: (0xa7 : UInt8) :: dT_X8_dull_4
def dT_X8_dull_2 : List UInt8 := (0x30 : UInt8) :: (0xb4 : UInt8) :: (0x00 : UInt8) :: (0xba : UInt8) :: (0x1b : UInt8) :: (0x1c : UInt8) :: (0x4f : UInt8) :: (0x2a : UInt8) :: (0xb4 : UInt8) :: (0x00 : UInt8) :: (0x30 : UInt8) :: (0xb6 : UInt8) :: (0x00 : UInt8) :: (0xbd : UInt8) :: (0x2a : UInt8) :: (0xb4 : UInt8) :: dT_X8_dull_3
def dT_X8_dull_1 : List UInt8 := (0xb4 : UInt8) :: (0x00 : UInt8) :: (0x2c : UInt8) :: (0xb6 : UInt8) :: (0x00 : UInt8) :: (0xb7 : UInt8) :: (0x10 : UInt8) :: (0x09 : UInt8) :: (0x3d : UInt8) :: (0x1c : UInt8) :: (0x9b : UInt8) :: (0x00 : UInt8) :: (0x28 : UInt8) :: (0x2a : UInt8) :: (0xb4 : UInt8) :: (0x00 : UInt8) :: dT_X8_dull_2
def dT_X8_dull_0 : List UInt8 := (0x2a : UInt8) :: (0x1b : UInt8) :: (0xb6 : UInt8) :: (0x00 : UInt8) :: (0x6b : UInt8) :: (0x9a : UInt8) :: (0x00 : UInt8) :: (0x06 : UInt8) :: (0x10 : UInt8) :: (0xfe : UInt8) :: (0xac : UInt8) :: (0x2a : UInt8) :: (0xb4 : UInt8) :: (0x00 : UInt8) :: (0x30 : UInt8) :: (0x2a : UInt8) :: dT_X8_dull_1
theorem dT_X8_dull : cX8_dull.data.toList = dT_X8_dull_0 := eq_of_beq (show (cX8_dull.data.toList == dT_X8_dull_0) = true by decide +kernel)
theorem dQ_X8_dull_0 : dQ_P cX8_dull 0 dT_X8_dull_0 := fun i => by rw [dT_X8_dull]; rfl
theorem dQ_X8_dull_1 : dQ_P cX8_dull 16 dT_X8_dull_1 := fun i => (dQ_X8_dull_0 (i + 16)).trans dk_t
theorem dQ_X8_dull_2 : dQ_P cX8_dull 32 dT_X8_dull_2 := fun i => (dQ_X8_dull_1 (i + 16)).trans dk_t
theorem dQ_X8_dull_3 : dQ_P cX8_dull 48 dT_X8_dull_3 := fun i => (dQ_X8_dull_2 (i + 16)).trans dk_t
theorem dQ_X8_dull_4 : dQ_P cX8_dull 64 dT_X8_dull_4 := fun i => (dQ_X8_dull_3 (i + 16)).trans dk_t
theorem dX8_dull_0 : decode cX8_dull 0 = .ok (.aload_n 0, 1) := dk_42 ((dQ_X8_dull_0 0).trans dk_j0)
theorem dX8_dull_1 : decode cX8_dull 1 = .ok (.iload_n 1, 1) := dk_27 ((dQ_X8_dull_0 1).trans dk_j1)
theorem dX8_dull_2 : decode cX8_dull 2 = .ok (.invokevirtual 107, 3) := dk_182 ((dQ_X8_dull_0 2).trans dk_j2) ((dQ_X8_dull_0 3).trans dk_j3) ((dQ_X8_dull_0 4).trans dk_j4) dk_vu2_0_107
theorem dX8_dull_5 : decode cX8_dull 5 = .ok (.ifCond .ne 6, 3) := dk_154 ((dQ_X8_dull_0 5).trans dk_j5) ((dQ_X8_dull_0 6).trans dk_j6) ((dQ_X8_dull_0 7).trans dk_j7) dk_vs2_0_6
theorem dX8_dull_8 : decode cX8_dull 8 = .ok (.bipush (-2), 2) := dk_16 ((dQ_X8_dull_0 8).trans dk_j8) ((dQ_X8_dull_0 9).trans dk_j9) dk_vs1_254
theorem dX8_dull_10 : decode cX8_dull 10 = .ok (.ireturn, 1) := dk_172 ((dQ_X8_dull_0 10).trans dk_j10)
theorem dX8_dull_11 : decode cX8_dull 11 = .ok (.aload_n 0, 1) := dk_42 ((dQ_X8_dull_0 11).trans dk_j11)
theorem dX8_dull_12 : decode cX8_dull 12 = .ok (.getfield 48, 3) := dk_180 ((dQ_X8_dull_0 12).trans dk_j12) ((dQ_X8_dull_0 13).trans dk_j13) ((dQ_X8_dull_0 14).trans dk_j14) dk_vu2_0_48
theorem dX8_dull_15 : decode cX8_dull 15 = .ok (.aload_n 0, 1) := dk_42 ((dQ_X8_dull_0 15).trans dk_j15)
theorem dX8_dull_16 : decode cX8_dull 16 = .ok (.getfield 44, 3) := dk_180 ((dQ_X8_dull_1 0).trans dk_j0) ((dQ_X8_dull_1 1).trans dk_j1) ((dQ_X8_dull_1 2).trans dk_j2) dk_vu2_0_44
theorem dk_vu2_0_183 : (0x00 : UInt8).toNat * 256 + (0xb7 : UInt8).toNat = (183 : Nat) := by decide +kernel
theorem dX8_dull_19 : decode cX8_dull 19 = .ok (.invokevirtual 183, 3) := dk_182 ((dQ_X8_dull_1 3).trans dk_j3) ((dQ_X8_dull_1 4).trans dk_j4) ((dQ_X8_dull_1 5).trans dk_j5) dk_vu2_0_183
theorem dX8_dull_22 : decode cX8_dull 22 = .ok (.bipush 9, 2) := dk_16 ((dQ_X8_dull_1 6).trans dk_j6) ((dQ_X8_dull_1 7).trans dk_j7) dk_vs1_9
theorem dX8_dull_24 : decode cX8_dull 24 = .ok (.istore_n 2, 1) := dk_61 ((dQ_X8_dull_1 8).trans dk_j8)
theorem dX8_dull_25 : decode cX8_dull 25 = .ok (.iload_n 2, 1) := dk_28 ((dQ_X8_dull_1 9).trans dk_j9)
theorem dX8_dull_26 : decode cX8_dull 26 = .ok (.ifCond .lt 40, 3) := dk_155 ((dQ_X8_dull_1 10).trans dk_j10) ((dQ_X8_dull_1 11).trans dk_j11) ((dQ_X8_dull_1 12).trans dk_j12) dk_vs2_0_40
theorem dX8_dull_29 : decode cX8_dull 29 = .ok (.aload_n 0, 1) := dk_42 ((dQ_X8_dull_1 13).trans dk_j13)
theorem dX8_dull_30 : decode cX8_dull 30 = .ok (.getfield 48, 3) := dk_180 ((dQ_X8_dull_1 14).trans dk_j14) ((dQ_X8_dull_1 15).trans dk_j15) ((dQ_X8_dull_2 0).trans dk_j0) dk_vu2_0_48
theorem dk_vu2_0_186 : (0x00 : UInt8).toNat * 256 + (0xba : UInt8).toNat = (186 : Nat) := by decide +kernel
theorem dX8_dull_33 : decode cX8_dull 33 = .ok (.getfield 186, 3) := dk_180 ((dQ_X8_dull_2 1).trans dk_j1) ((dQ_X8_dull_2 2).trans dk_j2) ((dQ_X8_dull_2 3).trans dk_j3) dk_vu2_0_186
theorem dX8_dull_36 : decode cX8_dull 36 = .ok (.iload_n 1, 1) := dk_27 ((dQ_X8_dull_2 4).trans dk_j4)
theorem dX8_dull_37 : decode cX8_dull 37 = .ok (.iload_n 2, 1) := dk_28 ((dQ_X8_dull_2 5).trans dk_j5)
theorem dX8_dull_38 : decode cX8_dull 38 = .ok (.iastore, 1) := dk_79 ((dQ_X8_dull_2 6).trans dk_j6)
theorem dX8_dull_39 : decode cX8_dull 39 = .ok (.aload_n 0, 1) := dk_42 ((dQ_X8_dull_2 7).trans dk_j7)
theorem dX8_dull_40 : decode cX8_dull 40 = .ok (.getfield 48, 3) := dk_180 ((dQ_X8_dull_2 8).trans dk_j8) ((dQ_X8_dull_2 9).trans dk_j9) ((dQ_X8_dull_2 10).trans dk_j10) dk_vu2_0_48
theorem dk_vu2_0_189 : (0x00 : UInt8).toNat * 256 + (0xbd : UInt8).toNat = (189 : Nat) := by decide +kernel
theorem dX8_dull_43 : decode cX8_dull 43 = .ok (.invokevirtual 189, 3) := dk_182 ((dQ_X8_dull_2 11).trans dk_j11) ((dQ_X8_dull_2 12).trans dk_j12) ((dQ_X8_dull_2 13).trans dk_j13) dk_vu2_0_189
theorem dX8_dull_46 : decode cX8_dull 46 = .ok (.aload_n 0, 1) := dk_42 ((dQ_X8_dull_2 14).trans dk_j14)
theorem dX8_dull_47 : decode cX8_dull 47 = .ok (.getfield 48, 3) := dk_180 ((dQ_X8_dull_2 15).trans dk_j15) ((dQ_X8_dull_3 0).trans dk_j0) ((dQ_X8_dull_3 1).trans dk_j1) dk_vu2_0_48
theorem dX8_dull_50 : decode cX8_dull 50 = .ok (.getfield 131, 3) := dk_180 ((dQ_X8_dull_3 2).trans dk_j2) ((dQ_X8_dull_3 3).trans dk_j3) ((dQ_X8_dull_3 4).trans dk_j4) dk_vu2_0_131
theorem dX8_dull_53 : decode cX8_dull 53 = .ok (.iload_n 1, 1) := dk_27 ((dQ_X8_dull_3 5).trans dk_j5)
theorem dX8_dull_54 : decode cX8_dull 54 = .ok (.iaload, 1) := dk_46 ((dQ_X8_dull_3 6).trans dk_j6)
theorem dX8_dull_55 : decode cX8_dull 55 = .ok (.ifCond .ne 5, 3) := dk_154 ((dQ_X8_dull_3 7).trans dk_j7) ((dQ_X8_dull_3 8).trans dk_j8) ((dQ_X8_dull_3 9).trans dk_j9) dk_vs2_0_5
theorem dX8_dull_58 : decode cX8_dull 58 = .ok (.iload_n 2, 1) := dk_28 ((dQ_X8_dull_3 10).trans dk_j10)
theorem dX8_dull_59 : decode cX8_dull 59 = .ok (.ireturn, 1) := dk_172 ((dQ_X8_dull_3 11).trans dk_j11)
theorem dX8_dull_60 : decode cX8_dull 60 = .ok (.iinc 2 (-1), 3) := dk_132 ((dQ_X8_dull_3 12).trans dk_j12) ((dQ_X8_dull_3 13).trans dk_j13) ((dQ_X8_dull_3 14).trans dk_j14) dk_vu1_2 dk_vs1_255
theorem dX8_dull_63 : decode cX8_dull 63 = .ok (.goto (-38), 3) := dk_167 ((dQ_X8_dull_3 15).trans dk_j15) ((dQ_X8_dull_4 0).trans dk_j0) ((dQ_X8_dull_4 1).trans dk_j1) dk_vs2_255_218
theorem dX8_dull_66 : decode cX8_dull 66 = .ok (.iconst (-1), 1) := dk_2 ((dQ_X8_dull_4 2).trans dk_j2)
theorem dX8_dull_67 : decode cX8_dull 67 = .ok (.ireturn, 1) := dk_172 ((dQ_X8_dull_4 3).trans dk_j3)
def dT_X8_bears_6 : List UInt8 := (0xa4 : UInt8) :: (0x00 : UInt8) :: (0x07 : UInt8) :: (0x02 : UInt8) :: (0xa7 : UInt8) :: (0x00 : UInt8) :: (0x04 : UInt8) :: (0x1c : UInt8) :: (0xac : UInt8) :: []
def dT_X8_bears_5 : List UInt8 := (0x94 : UInt8) :: (0x04 : UInt8) :: (0x60 : UInt8) :: (0xb8 : UInt8) :: (0x00 : UInt8) :: (0x9a : UInt8) :: (0x3d : UInt8) :: (0x84 : UInt8) :: (0x03 : UInt8) :: (0x01 : UInt8) :: (0xa7 : UInt8) :: (0xff : UInt8) :: (0xd2 : UInt8) :: (0x1c : UInt8) :: (0x10 : UInt8) :: (0x63 : UInt8) :: dT_X8_bears_6
def dT_X8_bears_4 : List UInt8 := (0x1d : UInt8) :: (0xb8 : UInt8) :: (0x00 : UInt8) :: (0xaa : UInt8) :: (0x9a : UInt8) :: (0x00 : UInt8) :: (0x13 : UInt8) :: (0x1c : UInt8) :: (0x2a : UInt8) :: (0xb4 : UInt8) :: (0x00 : UInt8) :: (0x30 : UInt8) :: (0x1b : UInt8) :: (0x1d : UInt8) :: (0xb6 : UInt8) :: (0x00 : UInt8) :: dT_X8_bears_5
def dT_X8_bears_3 : List UInt8 := (0x30 : UInt8) :: (0xb4 : UInt8) :: (0x00 : UInt8) :: (0x97 : UInt8) :: (0xa2 : UInt8) :: (0x00 : UInt8) :: (0x29 : UInt8) :: (0x2a : UInt8) :: (0xb4 : UInt8) :: (0x00 : UInt8) :: (0x30 : UInt8) :: (0xb4 : UInt8) :: (0x00 : UInt8) :: (0xc4 : UInt8) :: (0x1b : UInt8) :: (0x2e : UInt8) :: dT_X8_bears_4
def dT_X8_bears_2 : List UInt8 := (0x4f : UInt8) :: (0x2a : UInt8) :: (0xb4 : UInt8) :: (0x00 : UInt8) :: (0x30 : UInt8) :: (0xb6 : UInt8) :: (0x00 : UInt8) :: (0xbd : UInt8) :: (0x04 : UInt8) :: (0x3d : UInt8) :: (0x03 : UInt8) :: (0x3e : UInt8) :: (0x1d : UInt8) :: (0x2a : UInt8) :: (0xb4 : UInt8) :: (0x00 : UInt8) :: dT_X8_bears_3
def dT_X8_bears_1 : List UInt8 := (0xb4 : UInt8) :: (0x00 : UInt8) :: (0x2c : UInt8) :: (0xb6 : UInt8) :: (0x00 : UInt8) :: (0xb7 : UInt8) :: (0x2a : UInt8) :: (0xb4 : UInt8) :: (0x00 : UInt8) :: (0x30 : UInt8) :: (0xb4 : UInt8) :: (0x00 : UInt8) :: (0xc0 : UInt8) :: (0x1b : UInt8) :: (0x12 : UInt8) :: (0xc3 : UInt8) :: dT_X8_bears_2
def dT_X8_bears_0 : List UInt8 := (0x2a : UInt8) :: (0x1b : UInt8) :: (0xb6 : UInt8) :: (0x00 : UInt8) :: (0x6b : UInt8) :: (0x9a : UInt8) :: (0x00 : UInt8) :: (0x06 : UInt8) :: (0x10 : UInt8) :: (0xfe : UInt8) :: (0xac : UInt8) :: (0x2a : UInt8) :: (0xb4 : UInt8) :: (0x00 : UInt8) :: (0x30 : UInt8) :: (0x2a : UInt8) :: dT_X8_bears_1
theorem dT_X8_bears : cX8_bears.data.toList = dT_X8_bears_0 := eq_of_beq (show (cX8_bears.data.toList == dT_X8_bears_0) = true by decide +kernel)
theorem dQ_X8_bears_0 : dQ_P cX8_bears 0 dT_X8_bears_0 := fun i => by rw [dT_X8_bears]; rfl
theorem dQ_X8_bears_1 : dQ_P cX8_bears 16 dT_X8_bears_1 := fun i => (dQ_X8_bears_0 (i + 16)).trans dk_t
theorem dQ_X8_bears_2 : dQ_P cX8_bears 32 dT_X8_bears_2 := fun i => (dQ_X8_bears_1 (i + 16)).trans dk_t
theorem dQ_X8_bears_3 : dQ_P cX8_bears 48 dT_X8_bears_3 := fun i => (dQ_X8_bears_2 (i + 16)).trans dk_t
theorem dQ_X8_bears_4 : dQ_P cX8_bears 64 dT_X8_bears_4 := fun i => (dQ_X8_bears_3 (i + 16)).trans dk_t
theorem dQ_X8_bears_5 : dQ_P cX8_bears 80 dT_X8_bears_5 := fun i => (dQ_X8_bears_4 (i + 16)).trans dk_t
theorem dQ_X8_bears_6 : dQ_P cX8_bears 96 dT_X8_bears_6 := fun i => (dQ_X8_bears_5 (i + 16)).trans dk_t
theorem dX8_bears_0 : decode cX8_bears 0 = .ok (.aload_n 0, 1) := dk_42 ((dQ_X8_bears_0 0).trans dk_j0)
theorem dX8_bears_1 : decode cX8_bears 1 = .ok (.iload_n 1, 1) := dk_27 ((dQ_X8_bears_0 1).trans dk_j1)
theorem dX8_bears_2 : decode cX8_bears 2 = .ok (.invokevirtual 107, 3) := dk_182 ((dQ_X8_bears_0 2).trans dk_j2) ((dQ_X8_bears_0 3).trans dk_j3) ((dQ_X8_bears_0 4).trans dk_j4) dk_vu2_0_107
theorem dX8_bears_5 : decode cX8_bears 5 = .ok (.ifCond .ne 6, 3) := dk_154 ((dQ_X8_bears_0 5).trans dk_j5) ((dQ_X8_bears_0 6).trans dk_j6) ((dQ_X8_bears_0 7).trans dk_j7) dk_vs2_0_6
theorem dX8_bears_8 : decode cX8_bears 8 = .ok (.bipush (-2), 2) := dk_16 ((dQ_X8_bears_0 8).trans dk_j8) ((dQ_X8_bears_0 9).trans dk_j9) dk_vs1_254
theorem dX8_bears_10 : decode cX8_bears 10 = .ok (.ireturn, 1) := dk_172 ((dQ_X8_bears_0 10).trans dk_j10)
theorem dX8_bears_11 : decode cX8_bears 11 = .ok (.aload_n 0, 1) := dk_42 ((dQ_X8_bears_0 11).trans dk_j11)
theorem dX8_bears_12 : decode cX8_bears 12 = .ok (.getfield 48, 3) := dk_180 ((dQ_X8_bears_0 12).trans dk_j12) ((dQ_X8_bears_0 13).trans dk_j13) ((dQ_X8_bears_0 14).trans dk_j14) dk_vu2_0_48
theorem dX8_bears_15 : decode cX8_bears 15 = .ok (.aload_n 0, 1) := dk_42 ((dQ_X8_bears_0 15).trans dk_j15)
theorem dX8_bears_16 : decode cX8_bears 16 = .ok (.getfield 44, 3) := dk_180 ((dQ_X8_bears_1 0).trans dk_j0) ((dQ_X8_bears_1 1).trans dk_j1) ((dQ_X8_bears_1 2).trans dk_j2) dk_vu2_0_44
theorem dX8_bears_19 : decode cX8_bears 19 = .ok (.invokevirtual 183, 3) := dk_182 ((dQ_X8_bears_1 3).trans dk_j3) ((dQ_X8_bears_1 4).trans dk_j4) ((dQ_X8_bears_1 5).trans dk_j5) dk_vu2_0_183
theorem dX8_bears_22 : decode cX8_bears 22 = .ok (.aload_n 0, 1) := dk_42 ((dQ_X8_bears_1 6).trans dk_j6)
theorem dX8_bears_23 : decode cX8_bears 23 = .ok (.getfield 48, 3) := dk_180 ((dQ_X8_bears_1 7).trans dk_j7) ((dQ_X8_bears_1 8).trans dk_j8) ((dQ_X8_bears_1 9).trans dk_j9) dk_vu2_0_48
theorem dk_vu2_0_192 : (0x00 : UInt8).toNat * 256 + (0xc0 : UInt8).toNat = (192 : Nat) := by decide +kernel
theorem dX8_bears_26 : decode cX8_bears 26 = .ok (.getfield 192, 3) := dk_180 ((dQ_X8_bears_1 10).trans dk_j10) ((dQ_X8_bears_1 11).trans dk_j11) ((dQ_X8_bears_1 12).trans dk_j12) dk_vu2_0_192
theorem dX8_bears_29 : decode cX8_bears 29 = .ok (.iload_n 1, 1) := dk_27 ((dQ_X8_bears_1 13).trans dk_j13)
theorem dk_vu1_195 : (0xc3 : UInt8).toNat = (195 : Nat) := by decide +kernel
theorem dX8_bears_30 : decode cX8_bears 30 = .ok (.ldc 195, 2) := dk_18 ((dQ_X8_bears_1 14).trans dk_j14) ((dQ_X8_bears_1 15).trans dk_j15) dk_vu1_195
theorem dX8_bears_32 : decode cX8_bears 32 = .ok (.iastore, 1) := dk_79 ((dQ_X8_bears_2 0).trans dk_j0)
theorem dX8_bears_33 : decode cX8_bears 33 = .ok (.aload_n 0, 1) := dk_42 ((dQ_X8_bears_2 1).trans dk_j1)
theorem dX8_bears_34 : decode cX8_bears 34 = .ok (.getfield 48, 3) := dk_180 ((dQ_X8_bears_2 2).trans dk_j2) ((dQ_X8_bears_2 3).trans dk_j3) ((dQ_X8_bears_2 4).trans dk_j4) dk_vu2_0_48
theorem dX8_bears_37 : decode cX8_bears 37 = .ok (.invokevirtual 189, 3) := dk_182 ((dQ_X8_bears_2 5).trans dk_j5) ((dQ_X8_bears_2 6).trans dk_j6) ((dQ_X8_bears_2 7).trans dk_j7) dk_vu2_0_189
theorem dX8_bears_40 : decode cX8_bears 40 = .ok (.iconst 1, 1) := dk_4 ((dQ_X8_bears_2 8).trans dk_j8)
theorem dX8_bears_41 : decode cX8_bears 41 = .ok (.istore_n 2, 1) := dk_61 ((dQ_X8_bears_2 9).trans dk_j9)
theorem dX8_bears_42 : decode cX8_bears 42 = .ok (.iconst 0, 1) := dk_3 ((dQ_X8_bears_2 10).trans dk_j10)
theorem dX8_bears_43 : decode cX8_bears 43 = .ok (.istore_n 3, 1) := dk_62 ((dQ_X8_bears_2 11).trans dk_j11)
theorem dX8_bears_44 : decode cX8_bears 44 = .ok (.iload_n 3, 1) := dk_29 ((dQ_X8_bears_2 12).trans dk_j12)
theorem dX8_bears_45 : decode cX8_bears 45 = .ok (.aload_n 0, 1) := dk_42 ((dQ_X8_bears_2 13).trans dk_j13)
theorem dX8_bears_46 : decode cX8_bears 46 = .ok (.getfield 48, 3) := dk_180 ((dQ_X8_bears_2 14).trans dk_j14) ((dQ_X8_bears_2 15).trans dk_j15) ((dQ_X8_bears_3 0).trans dk_j0) dk_vu2_0_48
theorem dX8_bears_49 : decode cX8_bears 49 = .ok (.getfield 151, 3) := dk_180 ((dQ_X8_bears_3 1).trans dk_j1) ((dQ_X8_bears_3 2).trans dk_j2) ((dQ_X8_bears_3 3).trans dk_j3) dk_vu2_0_151
theorem dk_vs2_0_41 : Reader.signed 16 ((0x00 : UInt8).toNat * 256 + (0x29 : UInt8).toNat) = (41 : Int) := by decide +kernel
theorem dX8_bears_52 : decode cX8_bears 52 = .ok (.if_icmp .ge 41, 3) := dk_162 ((dQ_X8_bears_3 4).trans dk_j4) ((dQ_X8_bears_3 5).trans dk_j5) ((dQ_X8_bears_3 6).trans dk_j6) dk_vs2_0_41
theorem dX8_bears_55 : decode cX8_bears 55 = .ok (.aload_n 0, 1) := dk_42 ((dQ_X8_bears_3 7).trans dk_j7)
theorem dX8_bears_56 : decode cX8_bears 56 = .ok (.getfield 48, 3) := dk_180 ((dQ_X8_bears_3 8).trans dk_j8) ((dQ_X8_bears_3 9).trans dk_j9) ((dQ_X8_bears_3 10).trans dk_j10) dk_vu2_0_48
theorem dk_vu2_0_196 : (0x00 : UInt8).toNat * 256 + (0xc4 : UInt8).toNat = (196 : Nat) := by decide +kernel
theorem dX8_bears_59 : decode cX8_bears 59 = .ok (.getfield 196, 3) := dk_180 ((dQ_X8_bears_3 11).trans dk_j11) ((dQ_X8_bears_3 12).trans dk_j12) ((dQ_X8_bears_3 13).trans dk_j13) dk_vu2_0_196
theorem dX8_bears_62 : decode cX8_bears 62 = .ok (.iload_n 1, 1) := dk_27 ((dQ_X8_bears_3 14).trans dk_j14)
theorem dX8_bears_63 : decode cX8_bears 63 = .ok (.iaload, 1) := dk_46 ((dQ_X8_bears_3 15).trans dk_j15)
theorem dX8_bears_64 : decode cX8_bears 64 = .ok (.iload_n 3, 1) := dk_29 ((dQ_X8_bears_4 0).trans dk_j0)
theorem dX8_bears_65 : decode cX8_bears 65 = .ok (.invokestatic 170, 3) := dk_184 ((dQ_X8_bears_4 1).trans dk_j1) ((dQ_X8_bears_4 2).trans dk_j2) ((dQ_X8_bears_4 3).trans dk_j3) dk_vu2_0_170
theorem dX8_bears_68 : decode cX8_bears 68 = .ok (.ifCond .ne 19, 3) := dk_154 ((dQ_X8_bears_4 4).trans dk_j4) ((dQ_X8_bears_4 5).trans dk_j5) ((dQ_X8_bears_4 6).trans dk_j6) dk_vs2_0_19
theorem dX8_bears_71 : decode cX8_bears 71 = .ok (.iload_n 2, 1) := dk_28 ((dQ_X8_bears_4 7).trans dk_j7)
theorem dX8_bears_72 : decode cX8_bears 72 = .ok (.aload_n 0, 1) := dk_42 ((dQ_X8_bears_4 8).trans dk_j8)
theorem dX8_bears_73 : decode cX8_bears 73 = .ok (.getfield 48, 3) := dk_180 ((dQ_X8_bears_4 9).trans dk_j9) ((dQ_X8_bears_4 10).trans dk_j10) ((dQ_X8_bears_4 11).trans dk_j11) dk_vu2_0_48
theorem dX8_bears_76 : decode cX8_bears 76 = .ok (.iload_n 1, 1) := dk_27 ((dQ_X8_bears_4 12).trans dk_j12)
theorem dX8_bears_77 : decode cX8_bears 77 = .ok (.iload_n 3, 1) := dk_29 ((dQ_X8_bears_4 13).trans dk_j13)
theorem dX8_bears_78 : decode cX8_bears 78 = .ok (.invokevirtual 148, 3) := dk_182 ((dQ_X8_bears_4 14).trans dk_j14) ((dQ_X8_bears_4 15).trans dk_j15) ((dQ_X8_bears_5 0).trans dk_j0) dk_vu2_0_148
theorem dX8_bears_81 : decode cX8_bears 81 = .ok (.iconst 1, 1) := dk_4 ((dQ_X8_bears_5 1).trans dk_j1)
theorem dX8_bears_82 : decode cX8_bears 82 = .ok (.iadd, 1) := dk_96 ((dQ_X8_bears_5 2).trans dk_j2)
theorem dX8_bears_83 : decode cX8_bears 83 = .ok (.invokestatic 154, 3) := dk_184 ((dQ_X8_bears_5 3).trans dk_j3) ((dQ_X8_bears_5 4).trans dk_j4) ((dQ_X8_bears_5 5).trans dk_j5) dk_vu2_0_154
theorem dX8_bears_86 : decode cX8_bears 86 = .ok (.istore_n 2, 1) := dk_61 ((dQ_X8_bears_5 6).trans dk_j6)
theorem dX8_bears_87 : decode cX8_bears 87 = .ok (.iinc 3 1, 3) := dk_132 ((dQ_X8_bears_5 7).trans dk_j7) ((dQ_X8_bears_5 8).trans dk_j8) ((dQ_X8_bears_5 9).trans dk_j9) dk_vu1_3 dk_vs1_1
theorem dX8_bears_90 : decode cX8_bears 90 = .ok (.goto (-46), 3) := dk_167 ((dQ_X8_bears_5 10).trans dk_j10) ((dQ_X8_bears_5 11).trans dk_j11) ((dQ_X8_bears_5 12).trans dk_j12) dk_vs2_255_210
theorem dX8_bears_93 : decode cX8_bears 93 = .ok (.iload_n 2, 1) := dk_28 ((dQ_X8_bears_5 13).trans dk_j13)
theorem dX8_bears_94 : decode cX8_bears 94 = .ok (.bipush 99, 2) := dk_16 ((dQ_X8_bears_5 14).trans dk_j14) ((dQ_X8_bears_5 15).trans dk_j15) dk_vs1_99
theorem dX8_bears_96 : decode cX8_bears 96 = .ok (.if_icmp .le 7, 3) := dk_164 ((dQ_X8_bears_6 0).trans dk_j0) ((dQ_X8_bears_6 1).trans dk_j1) ((dQ_X8_bears_6 2).trans dk_j2) dk_vs2_0_7
theorem dX8_bears_99 : decode cX8_bears 99 = .ok (.iconst (-1), 1) := dk_2 ((dQ_X8_bears_6 3).trans dk_j3)
theorem dX8_bears_100 : decode cX8_bears 100 = .ok (.goto 4, 3) := dk_167 ((dQ_X8_bears_6 4).trans dk_j4) ((dQ_X8_bears_6 5).trans dk_j5) ((dQ_X8_bears_6 6).trans dk_j6) dk_vs2_0_4
theorem dX8_bears_103 : decode cX8_bears 103 = .ok (.iload_n 2, 1) := dk_28 ((dQ_X8_bears_6 7).trans dk_j7)
theorem dX8_bears_104 : decode cX8_bears 104 = .ok (.ireturn, 1) := dk_172 ((dQ_X8_bears_6 8).trans dk_j8)
def dT_X8_clean_6 : List UInt8 := (0x84 : UInt8) :: (0x01 : UInt8) :: (0xff : UInt8) :: (0xa7 : UInt8) :: (0xff : UInt8) :: (0xb5 : UInt8) :: (0x02 : UInt8) :: (0xac : UInt8) :: []
def dT_X8_clean_5 : List UInt8 := (0x30 : UInt8) :: (0xb6 : UInt8) :: (0x00 : UInt8) :: (0xbd : UInt8) :: (0x2a : UInt8) :: (0xb4 : UInt8) :: (0x00 : UInt8) :: (0x30 : UInt8) :: (0xb6 : UInt8) :: (0x00 : UInt8) :: (0x8d : UInt8) :: (0x9a : UInt8) :: (0x00 : UInt8) :: (0x05 : UInt8) :: (0x1b : UInt8) :: (0xac : UInt8) :: dT_X8_clean_6
def dT_X8_clean_4 : List UInt8 := (0x64 : UInt8) :: (0x04 : UInt8) :: (0x2e : UInt8) :: (0x64 : UInt8) :: (0x1b : UInt8) :: (0x60 : UInt8) :: (0x4f : UInt8) :: (0x84 : UInt8) :: (0x02 : UInt8) :: (0x01 : UInt8) :: (0xa7 : UInt8) :: (0xff : UInt8) :: (0xd4 : UInt8) :: (0x2a : UInt8) :: (0xb4 : UInt8) :: (0x00 : UInt8) :: dT_X8_clean_5
def dT_X8_clean_3 : List UInt8 := (0x1c : UInt8) :: (0x2a : UInt8) :: (0xb4 : UInt8) :: (0x00 : UInt8) :: (0x2c : UInt8) :: (0xb4 : UInt8) :: (0x00 : UInt8) :: (0x80 : UInt8) :: (0x1c : UInt8) :: (0x2e : UInt8) :: (0x2a : UInt8) :: (0xb4 : UInt8) :: (0x00 : UInt8) :: (0x0a : UInt8) :: (0xb4 : UInt8) :: (0x00 : UInt8) :: dT_X8_clean_4
def dT_X8_clean_2 : List UInt8 := (0xb4 : UInt8) :: (0x00 : UInt8) :: (0x2c : UInt8) :: (0xb4 : UInt8) :: (0x00 : UInt8) :: (0x97 : UInt8) :: (0xa2 : UInt8) :: (0x00 : UInt8) :: (0x27 : UInt8) :: (0x2a : UInt8) :: (0xb4 : UInt8) :: (0x00 : UInt8) :: (0x30 : UInt8) :: (0xb4 : UInt8) :: (0x00 : UInt8) :: (0x80 : UInt8) :: dT_X8_clean_3
def dT_X8_clean_1 : List UInt8 := (0x00 : UInt8) :: (0x2c : UInt8) :: (0xb6 : UInt8) :: (0x00 : UInt8) :: (0xb7 : UInt8) :: (0x10 : UInt8) :: (0x09 : UInt8) :: (0x3c : UInt8) :: (0x1b : UInt8) :: (0x9b : UInt8) :: (0x00 : UInt8) :: (0x4d : UInt8) :: (0x03 : UInt8) :: (0x3d : UInt8) :: (0x1c : UInt8) :: (0x2a : UInt8) :: dT_X8_clean_2
def dT_X8_clean_0 : List UInt8 := (0x2a : UInt8) :: (0xb6 : UInt8) :: (0x00 : UInt8) :: (0x89 : UInt8) :: (0x9a : UInt8) :: (0x00 : UInt8) :: (0x06 : UInt8) :: (0x10 : UInt8) :: (0xfe : UInt8) :: (0xac : UInt8) :: (0x2a : UInt8) :: (0xb4 : UInt8) :: (0x00 : UInt8) :: (0x30 : UInt8) :: (0x2a : UInt8) :: (0xb4 : UInt8) :: dT_X8_clean_1
theorem dT_X8_clean : cX8_clean.data.toList = dT_X8_clean_0 := eq_of_beq (show (cX8_clean.data.toList == dT_X8_clean_0) = true by decide +kernel)
theorem dQ_X8_clean_0 : dQ_P cX8_clean 0 dT_X8_clean_0 := fun i => by rw [dT_X8_clean]; rfl
theorem dQ_X8_clean_1 : dQ_P cX8_clean 16 dT_X8_clean_1 := fun i => (dQ_X8_clean_0 (i + 16)).trans dk_t
theorem dQ_X8_clean_2 : dQ_P cX8_clean 32 dT_X8_clean_2 := fun i => (dQ_X8_clean_1 (i + 16)).trans dk_t
theorem dQ_X8_clean_3 : dQ_P cX8_clean 48 dT_X8_clean_3 := fun i => (dQ_X8_clean_2 (i + 16)).trans dk_t
theorem dQ_X8_clean_4 : dQ_P cX8_clean 64 dT_X8_clean_4 := fun i => (dQ_X8_clean_3 (i + 16)).trans dk_t
theorem dQ_X8_clean_5 : dQ_P cX8_clean 80 dT_X8_clean_5 := fun i => (dQ_X8_clean_4 (i + 16)).trans dk_t
theorem dQ_X8_clean_6 : dQ_P cX8_clean 96 dT_X8_clean_6 := fun i => (dQ_X8_clean_5 (i + 16)).trans dk_t
theorem dX8_clean_0 : decode cX8_clean 0 = .ok (.aload_n 0, 1) := dk_42 ((dQ_X8_clean_0 0).trans dk_j0)
theorem dX8_clean_1 : decode cX8_clean 1 = .ok (.invokevirtual 137, 3) := dk_182 ((dQ_X8_clean_0 1).trans dk_j1) ((dQ_X8_clean_0 2).trans dk_j2) ((dQ_X8_clean_0 3).trans dk_j3) dk_vu2_0_137
theorem dX8_clean_4 : decode cX8_clean 4 = .ok (.ifCond .ne 6, 3) := dk_154 ((dQ_X8_clean_0 4).trans dk_j4) ((dQ_X8_clean_0 5).trans dk_j5) ((dQ_X8_clean_0 6).trans dk_j6) dk_vs2_0_6
theorem dX8_clean_7 : decode cX8_clean 7 = .ok (.bipush (-2), 2) := dk_16 ((dQ_X8_clean_0 7).trans dk_j7) ((dQ_X8_clean_0 8).trans dk_j8) dk_vs1_254
theorem dX8_clean_9 : decode cX8_clean 9 = .ok (.ireturn, 1) := dk_172 ((dQ_X8_clean_0 9).trans dk_j9)
theorem dX8_clean_10 : decode cX8_clean 10 = .ok (.aload_n 0, 1) := dk_42 ((dQ_X8_clean_0 10).trans dk_j10)
theorem dX8_clean_11 : decode cX8_clean 11 = .ok (.getfield 48, 3) := dk_180 ((dQ_X8_clean_0 11).trans dk_j11) ((dQ_X8_clean_0 12).trans dk_j12) ((dQ_X8_clean_0 13).trans dk_j13) dk_vu2_0_48
theorem dX8_clean_14 : decode cX8_clean 14 = .ok (.aload_n 0, 1) := dk_42 ((dQ_X8_clean_0 14).trans dk_j14)
theorem dX8_clean_15 : decode cX8_clean 15 = .ok (.getfield 44, 3) := dk_180 ((dQ_X8_clean_0 15).trans dk_j15) ((dQ_X8_clean_1 0).trans dk_j0) ((dQ_X8_clean_1 1).trans dk_j1) dk_vu2_0_44
theorem dX8_clean_18 : decode cX8_clean 18 = .ok (.invokevirtual 183, 3) := dk_182 ((dQ_X8_clean_1 2).trans dk_j2) ((dQ_X8_clean_1 3).trans dk_j3) ((dQ_X8_clean_1 4).trans dk_j4) dk_vu2_0_183
theorem dX8_clean_21 : decode cX8_clean 21 = .ok (.bipush 9, 2) := dk_16 ((dQ_X8_clean_1 5).trans dk_j5) ((dQ_X8_clean_1 6).trans dk_j6) dk_vs1_9
theorem dX8_clean_23 : decode cX8_clean 23 = .ok (.istore_n 1, 1) := dk_60 ((dQ_X8_clean_1 7).trans dk_j7)
theorem dX8_clean_24 : decode cX8_clean 24 = .ok (.iload_n 1, 1) := dk_27 ((dQ_X8_clean_1 8).trans dk_j8)
theorem dX8_clean_25 : decode cX8_clean 25 = .ok (.ifCond .lt 77, 3) := dk_155 ((dQ_X8_clean_1 9).trans dk_j9) ((dQ_X8_clean_1 10).trans dk_j10) ((dQ_X8_clean_1 11).trans dk_j11) dk_vs2_0_77
theorem dX8_clean_28 : decode cX8_clean 28 = .ok (.iconst 0, 1) := dk_3 ((dQ_X8_clean_1 12).trans dk_j12)
theorem dX8_clean_29 : decode cX8_clean 29 = .ok (.istore_n 2, 1) := dk_61 ((dQ_X8_clean_1 13).trans dk_j13)
theorem dX8_clean_30 : decode cX8_clean 30 = .ok (.iload_n 2, 1) := dk_28 ((dQ_X8_clean_1 14).trans dk_j14)
theorem dX8_clean_31 : decode cX8_clean 31 = .ok (.aload_n 0, 1) := dk_42 ((dQ_X8_clean_1 15).trans dk_j15)
theorem dX8_clean_32 : decode cX8_clean 32 = .ok (.getfield 44, 3) := dk_180 ((dQ_X8_clean_2 0).trans dk_j0) ((dQ_X8_clean_2 1).trans dk_j1) ((dQ_X8_clean_2 2).trans dk_j2) dk_vu2_0_44
theorem dX8_clean_35 : decode cX8_clean 35 = .ok (.getfield 151, 3) := dk_180 ((dQ_X8_clean_2 3).trans dk_j3) ((dQ_X8_clean_2 4).trans dk_j4) ((dQ_X8_clean_2 5).trans dk_j5) dk_vu2_0_151
theorem dX8_clean_38 : decode cX8_clean 38 = .ok (.if_icmp .ge 39, 3) := dk_162 ((dQ_X8_clean_2 6).trans dk_j6) ((dQ_X8_clean_2 7).trans dk_j7) ((dQ_X8_clean_2 8).trans dk_j8) dk_vs2_0_39
theorem dX8_clean_41 : decode cX8_clean 41 = .ok (.aload_n 0, 1) := dk_42 ((dQ_X8_clean_2 9).trans dk_j9)
theorem dX8_clean_42 : decode cX8_clean 42 = .ok (.getfield 48, 3) := dk_180 ((dQ_X8_clean_2 10).trans dk_j10) ((dQ_X8_clean_2 11).trans dk_j11) ((dQ_X8_clean_2 12).trans dk_j12) dk_vu2_0_48
theorem dX8_clean_45 : decode cX8_clean 45 = .ok (.getfield 128, 3) := dk_180 ((dQ_X8_clean_2 13).trans dk_j13) ((dQ_X8_clean_2 14).trans dk_j14) ((dQ_X8_clean_2 15).trans dk_j15) dk_vu2_0_128
theorem dX8_clean_48 : decode cX8_clean 48 = .ok (.iload_n 2, 1) := dk_28 ((dQ_X8_clean_3 0).trans dk_j0)
theorem dX8_clean_49 : decode cX8_clean 49 = .ok (.aload_n 0, 1) := dk_42 ((dQ_X8_clean_3 1).trans dk_j1)
theorem dX8_clean_50 : decode cX8_clean 50 = .ok (.getfield 44, 3) := dk_180 ((dQ_X8_clean_3 2).trans dk_j2) ((dQ_X8_clean_3 3).trans dk_j3) ((dQ_X8_clean_3 4).trans dk_j4) dk_vu2_0_44
theorem dX8_clean_53 : decode cX8_clean 53 = .ok (.getfield 128, 3) := dk_180 ((dQ_X8_clean_3 5).trans dk_j5) ((dQ_X8_clean_3 6).trans dk_j6) ((dQ_X8_clean_3 7).trans dk_j7) dk_vu2_0_128
theorem dX8_clean_56 : decode cX8_clean 56 = .ok (.iload_n 2, 1) := dk_28 ((dQ_X8_clean_3 8).trans dk_j8)
theorem dX8_clean_57 : decode cX8_clean 57 = .ok (.iaload, 1) := dk_46 ((dQ_X8_clean_3 9).trans dk_j9)
theorem dX8_clean_58 : decode cX8_clean 58 = .ok (.aload_n 0, 1) := dk_42 ((dQ_X8_clean_3 10).trans dk_j10)
theorem dX8_clean_59 : decode cX8_clean 59 = .ok (.getfield 10, 3) := dk_180 ((dQ_X8_clean_3 11).trans dk_j11) ((dQ_X8_clean_3 12).trans dk_j12) ((dQ_X8_clean_3 13).trans dk_j13) dk_vu2_0_10
theorem dX8_clean_62 : decode cX8_clean 62 = .ok (.getfield 100, 3) := dk_180 ((dQ_X8_clean_3 14).trans dk_j14) ((dQ_X8_clean_3 15).trans dk_j15) ((dQ_X8_clean_4 0).trans dk_j0) dk_vu2_0_100
theorem dX8_clean_65 : decode cX8_clean 65 = .ok (.iconst 1, 1) := dk_4 ((dQ_X8_clean_4 1).trans dk_j1)
theorem dX8_clean_66 : decode cX8_clean 66 = .ok (.iaload, 1) := dk_46 ((dQ_X8_clean_4 2).trans dk_j2)
theorem dX8_clean_67 : decode cX8_clean 67 = .ok (.isub, 1) := dk_100 ((dQ_X8_clean_4 3).trans dk_j3)
theorem dX8_clean_68 : decode cX8_clean 68 = .ok (.iload_n 1, 1) := dk_27 ((dQ_X8_clean_4 4).trans dk_j4)
theorem dX8_clean_69 : decode cX8_clean 69 = .ok (.iadd, 1) := dk_96 ((dQ_X8_clean_4 5).trans dk_j5)
theorem dX8_clean_70 : decode cX8_clean 70 = .ok (.iastore, 1) := dk_79 ((dQ_X8_clean_4 6).trans dk_j6)
theorem dX8_clean_71 : decode cX8_clean 71 = .ok (.iinc 2 1, 3) := dk_132 ((dQ_X8_clean_4 7).trans dk_j7) ((dQ_X8_clean_4 8).trans dk_j8) ((dQ_X8_clean_4 9).trans dk_j9) dk_vu1_2 dk_vs1_1
theorem dX8_clean_74 : decode cX8_clean 74 = .ok (.goto (-44), 3) := dk_167 ((dQ_X8_clean_4 10).trans dk_j10) ((dQ_X8_clean_4 11).trans dk_j11) ((dQ_X8_clean_4 12).trans dk_j12) dk_vs2_255_212
theorem dX8_clean_77 : decode cX8_clean 77 = .ok (.aload_n 0, 1) := dk_42 ((dQ_X8_clean_4 13).trans dk_j13)
theorem dX8_clean_78 : decode cX8_clean 78 = .ok (.getfield 48, 3) := dk_180 ((dQ_X8_clean_4 14).trans dk_j14) ((dQ_X8_clean_4 15).trans dk_j15) ((dQ_X8_clean_5 0).trans dk_j0) dk_vu2_0_48
theorem dX8_clean_81 : decode cX8_clean 81 = .ok (.invokevirtual 189, 3) := dk_182 ((dQ_X8_clean_5 1).trans dk_j1) ((dQ_X8_clean_5 2).trans dk_j2) ((dQ_X8_clean_5 3).trans dk_j3) dk_vu2_0_189
theorem dX8_clean_84 : decode cX8_clean 84 = .ok (.aload_n 0, 1) := dk_42 ((dQ_X8_clean_5 4).trans dk_j4)
theorem dX8_clean_85 : decode cX8_clean 85 = .ok (.getfield 48, 3) := dk_180 ((dQ_X8_clean_5 5).trans dk_j5) ((dQ_X8_clean_5 6).trans dk_j6) ((dQ_X8_clean_5 7).trans dk_j7) dk_vu2_0_48
theorem dX8_clean_88 : decode cX8_clean 88 = .ok (.invokevirtual 141, 3) := dk_182 ((dQ_X8_clean_5 8).trans dk_j8) ((dQ_X8_clean_5 9).trans dk_j9) ((dQ_X8_clean_5 10).trans dk_j10) dk_vu2_0_141
theorem dX8_clean_91 : decode cX8_clean 91 = .ok (.ifCond .ne 5, 3) := dk_154 ((dQ_X8_clean_5 11).trans dk_j11) ((dQ_X8_clean_5 12).trans dk_j12) ((dQ_X8_clean_5 13).trans dk_j13) dk_vs2_0_5
theorem dX8_clean_94 : decode cX8_clean 94 = .ok (.iload_n 1, 1) := dk_27 ((dQ_X8_clean_5 14).trans dk_j14)
theorem dX8_clean_95 : decode cX8_clean 95 = .ok (.ireturn, 1) := dk_172 ((dQ_X8_clean_5 15).trans dk_j15)
theorem dX8_clean_96 : decode cX8_clean 96 = .ok (.iinc 1 (-1), 3) := dk_132 ((dQ_X8_clean_6 0).trans dk_j0) ((dQ_X8_clean_6 1).trans dk_j1) ((dQ_X8_clean_6 2).trans dk_j2) dk_vu1_1 dk_vs1_255
theorem dk_vs2_255_181 : Reader.signed 16 ((0xff : UInt8).toNat * 256 + (0xb5 : UInt8).toNat) = (-75 : Int) := by decide +kernel
theorem dX8_clean_99 : decode cX8_clean 99 = .ok (.goto (-75), 3) := dk_167 ((dQ_X8_clean_6 3).trans dk_j3) ((dQ_X8_clean_6 4).trans dk_j4) ((dQ_X8_clean_6 5).trans dk_j5) dk_vs2_255_181
theorem dX8_clean_102 : decode cX8_clean 102 = .ok (.iconst (-1), 1) := dk_2 ((dQ_X8_clean_6 6).trans dk_j6)
theorem dX8_clean_103 : decode cX8_clean 103 = .ok (.ireturn, 1) := dk_172 ((dQ_X8_clean_6 7).trans dk_j7)
def dT_X8_spreads_6 : List UInt8 := (0x04 : UInt8) :: (0x1d : UInt8) :: (0x78 : UInt8) :: (0x80 : UInt8) :: (0x3d : UInt8) :: (0x84 : UInt8) :: (0x03 : UInt8) :: (0x01 : UInt8) :: (0xa7 : UInt8) :: (0xff : UInt8) :: (0xcc : UInt8) :: (0x1c : UInt8) :: (0xac : UInt8) :: []
def dT_X8_spreads_5 : List UInt8 := (0x2a : UInt8) :: (0xb4 : UInt8) :: (0x00 : UInt8) :: (0x2c : UInt8) :: (0xb4 : UInt8) :: (0x00 : UInt8) :: (0x83 : UInt8) :: (0x1d : UInt8) :: (0x2e : UInt8) :: (0xb8 : UInt8) :: (0x00 : UInt8) :: (0xa5 : UInt8) :: (0xa2 : UInt8) :: (0x00 : UInt8) :: (0x09 : UInt8) :: (0x1c : UInt8) :: dT_X8_spreads_6
def dT_X8_spreads_4 : List UInt8 := (0x1b : UInt8) :: (0x9f : UInt8) :: (0x00 : UInt8) :: (0x24 : UInt8) :: (0x2a : UInt8) :: (0xb4 : UInt8) :: (0x00 : UInt8) :: (0x30 : UInt8) :: (0xb4 : UInt8) :: (0x00 : UInt8) :: (0x83 : UInt8) :: (0x1d : UInt8) :: (0x2e : UInt8) :: (0xb8 : UInt8) :: (0x00 : UInt8) :: (0xa5 : UInt8) :: dT_X8_spreads_5
def dT_X8_spreads_3 : List UInt8 := (0x03 : UInt8) :: (0x3d : UInt8) :: (0x03 : UInt8) :: (0x3e : UInt8) :: (0x1d : UInt8) :: (0x2a : UInt8) :: (0xb4 : UInt8) :: (0x00 : UInt8) :: (0x2c : UInt8) :: (0xb4 : UInt8) :: (0x00 : UInt8) :: (0xa2 : UInt8) :: (0xa2 : UInt8) :: (0x00 : UInt8) :: (0x2f : UInt8) :: (0x1d : UInt8) :: dT_X8_spreads_4
def dT_X8_spreads_2 : List UInt8 := (0x00 : UInt8) :: (0x2c : UInt8) :: (0xb4 : UInt8) :: (0x00 : UInt8) :: (0x97 : UInt8) :: (0xb8 : UInt8) :: (0x00 : UInt8) :: (0xae : UInt8) :: (0x4f : UInt8) :: (0x2a : UInt8) :: (0xb4 : UInt8) :: (0x00 : UInt8) :: (0x30 : UInt8) :: (0xb6 : UInt8) :: (0x00 : UInt8) :: (0xbd : UInt8) :: dT_X8_spreads_3
def dT_X8_spreads_1 : List UInt8 := (0xb4 : UInt8) :: (0x00 : UInt8) :: (0x2c : UInt8) :: (0xb6 : UInt8) :: (0x00 : UInt8) :: (0xb7 : UInt8) :: (0x2a : UInt8) :: (0xb4 : UInt8) :: (0x00 : UInt8) :: (0x30 : UInt8) :: (0xb4 : UInt8) :: (0x00 : UInt8) :: (0xc4 : UInt8) :: (0x1b : UInt8) :: (0x2a : UInt8) :: (0xb4 : UInt8) :: dT_X8_spreads_2
def dT_X8_spreads_0 : List UInt8 := (0x2a : UInt8) :: (0x1b : UInt8) :: (0xb6 : UInt8) :: (0x00 : UInt8) :: (0x6b : UInt8) :: (0x9a : UInt8) :: (0x00 : UInt8) :: (0x06 : UInt8) :: (0x10 : UInt8) :: (0xfe : UInt8) :: (0xac : UInt8) :: (0x2a : UInt8) :: (0xb4 : UInt8) :: (0x00 : UInt8) :: (0x30 : UInt8) :: (0x2a : UInt8) :: dT_X8_spreads_1
theorem dT_X8_spreads : cX8_spreads.data.toList = dT_X8_spreads_0 := eq_of_beq (show (cX8_spreads.data.toList == dT_X8_spreads_0) = true by decide +kernel)
theorem dQ_X8_spreads_0 : dQ_P cX8_spreads 0 dT_X8_spreads_0 := fun i => by rw [dT_X8_spreads]; rfl
theorem dQ_X8_spreads_1 : dQ_P cX8_spreads 16 dT_X8_spreads_1 := fun i => (dQ_X8_spreads_0 (i + 16)).trans dk_t
theorem dQ_X8_spreads_2 : dQ_P cX8_spreads 32 dT_X8_spreads_2 := fun i => (dQ_X8_spreads_1 (i + 16)).trans dk_t
theorem dQ_X8_spreads_3 : dQ_P cX8_spreads 48 dT_X8_spreads_3 := fun i => (dQ_X8_spreads_2 (i + 16)).trans dk_t
theorem dQ_X8_spreads_4 : dQ_P cX8_spreads 64 dT_X8_spreads_4 := fun i => (dQ_X8_spreads_3 (i + 16)).trans dk_t
theorem dQ_X8_spreads_5 : dQ_P cX8_spreads 80 dT_X8_spreads_5 := fun i => (dQ_X8_spreads_4 (i + 16)).trans dk_t
theorem dQ_X8_spreads_6 : dQ_P cX8_spreads 96 dT_X8_spreads_6 := fun i => (dQ_X8_spreads_5 (i + 16)).trans dk_t
theorem dX8_spreads_0 : decode cX8_spreads 0 = .ok (.aload_n 0, 1) := dk_42 ((dQ_X8_spreads_0 0).trans dk_j0)
theorem dX8_spreads_1 : decode cX8_spreads 1 = .ok (.iload_n 1, 1) := dk_27 ((dQ_X8_spreads_0 1).trans dk_j1)
theorem dX8_spreads_2 : decode cX8_spreads 2 = .ok (.invokevirtual 107, 3) := dk_182 ((dQ_X8_spreads_0 2).trans dk_j2) ((dQ_X8_spreads_0 3).trans dk_j3) ((dQ_X8_spreads_0 4).trans dk_j4) dk_vu2_0_107
theorem dX8_spreads_5 : decode cX8_spreads 5 = .ok (.ifCond .ne 6, 3) := dk_154 ((dQ_X8_spreads_0 5).trans dk_j5) ((dQ_X8_spreads_0 6).trans dk_j6) ((dQ_X8_spreads_0 7).trans dk_j7) dk_vs2_0_6
theorem dX8_spreads_8 : decode cX8_spreads 8 = .ok (.bipush (-2), 2) := dk_16 ((dQ_X8_spreads_0 8).trans dk_j8) ((dQ_X8_spreads_0 9).trans dk_j9) dk_vs1_254
theorem dX8_spreads_10 : decode cX8_spreads 10 = .ok (.ireturn, 1) := dk_172 ((dQ_X8_spreads_0 10).trans dk_j10)
theorem dX8_spreads_11 : decode cX8_spreads 11 = .ok (.aload_n 0, 1) := dk_42 ((dQ_X8_spreads_0 11).trans dk_j11)
theorem dX8_spreads_12 : decode cX8_spreads 12 = .ok (.getfield 48, 3) := dk_180 ((dQ_X8_spreads_0 12).trans dk_j12) ((dQ_X8_spreads_0 13).trans dk_j13) ((dQ_X8_spreads_0 14).trans dk_j14) dk_vu2_0_48
theorem dX8_spreads_15 : decode cX8_spreads 15 = .ok (.aload_n 0, 1) := dk_42 ((dQ_X8_spreads_0 15).trans dk_j15)
theorem dX8_spreads_16 : decode cX8_spreads 16 = .ok (.getfield 44, 3) := dk_180 ((dQ_X8_spreads_1 0).trans dk_j0) ((dQ_X8_spreads_1 1).trans dk_j1) ((dQ_X8_spreads_1 2).trans dk_j2) dk_vu2_0_44
theorem dX8_spreads_19 : decode cX8_spreads 19 = .ok (.invokevirtual 183, 3) := dk_182 ((dQ_X8_spreads_1 3).trans dk_j3) ((dQ_X8_spreads_1 4).trans dk_j4) ((dQ_X8_spreads_1 5).trans dk_j5) dk_vu2_0_183
theorem dX8_spreads_22 : decode cX8_spreads 22 = .ok (.aload_n 0, 1) := dk_42 ((dQ_X8_spreads_1 6).trans dk_j6)
theorem dX8_spreads_23 : decode cX8_spreads 23 = .ok (.getfield 48, 3) := dk_180 ((dQ_X8_spreads_1 7).trans dk_j7) ((dQ_X8_spreads_1 8).trans dk_j8) ((dQ_X8_spreads_1 9).trans dk_j9) dk_vu2_0_48
theorem dX8_spreads_26 : decode cX8_spreads 26 = .ok (.getfield 196, 3) := dk_180 ((dQ_X8_spreads_1 10).trans dk_j10) ((dQ_X8_spreads_1 11).trans dk_j11) ((dQ_X8_spreads_1 12).trans dk_j12) dk_vu2_0_196
theorem dX8_spreads_29 : decode cX8_spreads 29 = .ok (.iload_n 1, 1) := dk_27 ((dQ_X8_spreads_1 13).trans dk_j13)
theorem dX8_spreads_30 : decode cX8_spreads 30 = .ok (.aload_n 0, 1) := dk_42 ((dQ_X8_spreads_1 14).trans dk_j14)
theorem dX8_spreads_31 : decode cX8_spreads 31 = .ok (.getfield 44, 3) := dk_180 ((dQ_X8_spreads_1 15).trans dk_j15) ((dQ_X8_spreads_2 0).trans dk_j0) ((dQ_X8_spreads_2 1).trans dk_j1) dk_vu2_0_44
theorem dX8_spreads_34 : decode cX8_spreads 34 = .ok (.getfield 151, 3) := dk_180 ((dQ_X8_spreads_2 2).trans dk_j2) ((dQ_X8_spreads_2 3).trans dk_j3) ((dQ_X8_spreads_2 4).trans dk_j4) dk_vu2_0_151
theorem dX8_spreads_37 : decode cX8_spreads 37 = .ok (.invokestatic 174, 3) := dk_184 ((dQ_X8_spreads_2 5).trans dk_j5) ((dQ_X8_spreads_2 6).trans dk_j6) ((dQ_X8_spreads_2 7).trans dk_j7) dk_vu2_0_174
theorem dX8_spreads_40 : decode cX8_spreads 40 = .ok (.iastore, 1) := dk_79 ((dQ_X8_spreads_2 8).trans dk_j8)
theorem dX8_spreads_41 : decode cX8_spreads 41 = .ok (.aload_n 0, 1) := dk_42 ((dQ_X8_spreads_2 9).trans dk_j9)
theorem dX8_spreads_42 : decode cX8_spreads 42 = .ok (.getfield 48, 3) := dk_180 ((dQ_X8_spreads_2 10).trans dk_j10) ((dQ_X8_spreads_2 11).trans dk_j11) ((dQ_X8_spreads_2 12).trans dk_j12) dk_vu2_0_48
theorem dX8_spreads_45 : decode cX8_spreads 45 = .ok (.invokevirtual 189, 3) := dk_182 ((dQ_X8_spreads_2 13).trans dk_j13) ((dQ_X8_spreads_2 14).trans dk_j14) ((dQ_X8_spreads_2 15).trans dk_j15) dk_vu2_0_189
theorem dX8_spreads_48 : decode cX8_spreads 48 = .ok (.iconst 0, 1) := dk_3 ((dQ_X8_spreads_3 0).trans dk_j0)
theorem dX8_spreads_49 : decode cX8_spreads 49 = .ok (.istore_n 2, 1) := dk_61 ((dQ_X8_spreads_3 1).trans dk_j1)
theorem dX8_spreads_50 : decode cX8_spreads 50 = .ok (.iconst 0, 1) := dk_3 ((dQ_X8_spreads_3 2).trans dk_j2)
theorem dX8_spreads_51 : decode cX8_spreads 51 = .ok (.istore_n 3, 1) := dk_62 ((dQ_X8_spreads_3 3).trans dk_j3)
theorem dX8_spreads_52 : decode cX8_spreads 52 = .ok (.iload_n 3, 1) := dk_29 ((dQ_X8_spreads_3 4).trans dk_j4)
theorem dX8_spreads_53 : decode cX8_spreads 53 = .ok (.aload_n 0, 1) := dk_42 ((dQ_X8_spreads_3 5).trans dk_j5)
theorem dX8_spreads_54 : decode cX8_spreads 54 = .ok (.getfield 44, 3) := dk_180 ((dQ_X8_spreads_3 6).trans dk_j6) ((dQ_X8_spreads_3 7).trans dk_j7) ((dQ_X8_spreads_3 8).trans dk_j8) dk_vu2_0_44
theorem dX8_spreads_57 : decode cX8_spreads 57 = .ok (.getfield 162, 3) := dk_180 ((dQ_X8_spreads_3 9).trans dk_j9) ((dQ_X8_spreads_3 10).trans dk_j10) ((dQ_X8_spreads_3 11).trans dk_j11) dk_vu2_0_162
theorem dk_vs2_0_47 : Reader.signed 16 ((0x00 : UInt8).toNat * 256 + (0x2f : UInt8).toNat) = (47 : Int) := by decide +kernel
theorem dX8_spreads_60 : decode cX8_spreads 60 = .ok (.if_icmp .ge 47, 3) := dk_162 ((dQ_X8_spreads_3 12).trans dk_j12) ((dQ_X8_spreads_3 13).trans dk_j13) ((dQ_X8_spreads_3 14).trans dk_j14) dk_vs2_0_47
theorem dX8_spreads_63 : decode cX8_spreads 63 = .ok (.iload_n 3, 1) := dk_29 ((dQ_X8_spreads_3 15).trans dk_j15)
theorem dX8_spreads_64 : decode cX8_spreads 64 = .ok (.iload_n 1, 1) := dk_27 ((dQ_X8_spreads_4 0).trans dk_j0)
theorem dX8_spreads_65 : decode cX8_spreads 65 = .ok (.if_icmp .eq 36, 3) := dk_159 ((dQ_X8_spreads_4 1).trans dk_j1) ((dQ_X8_spreads_4 2).trans dk_j2) ((dQ_X8_spreads_4 3).trans dk_j3) dk_vs2_0_36
theorem dX8_spreads_68 : decode cX8_spreads 68 = .ok (.aload_n 0, 1) := dk_42 ((dQ_X8_spreads_4 4).trans dk_j4)
theorem dX8_spreads_69 : decode cX8_spreads 69 = .ok (.getfield 48, 3) := dk_180 ((dQ_X8_spreads_4 5).trans dk_j5) ((dQ_X8_spreads_4 6).trans dk_j6) ((dQ_X8_spreads_4 7).trans dk_j7) dk_vu2_0_48
theorem dX8_spreads_72 : decode cX8_spreads 72 = .ok (.getfield 131, 3) := dk_180 ((dQ_X8_spreads_4 8).trans dk_j8) ((dQ_X8_spreads_4 9).trans dk_j9) ((dQ_X8_spreads_4 10).trans dk_j10) dk_vu2_0_131
theorem dX8_spreads_75 : decode cX8_spreads 75 = .ok (.iload_n 3, 1) := dk_29 ((dQ_X8_spreads_4 11).trans dk_j11)
theorem dX8_spreads_76 : decode cX8_spreads 76 = .ok (.iaload, 1) := dk_46 ((dQ_X8_spreads_4 12).trans dk_j12)
theorem dX8_spreads_77 : decode cX8_spreads 77 = .ok (.invokestatic 165, 3) := dk_184 ((dQ_X8_spreads_4 13).trans dk_j13) ((dQ_X8_spreads_4 14).trans dk_j14) ((dQ_X8_spreads_4 15).trans dk_j15) dk_vu2_0_165
theorem dX8_spreads_80 : decode cX8_spreads 80 = .ok (.aload_n 0, 1) := dk_42 ((dQ_X8_spreads_5 0).trans dk_j0)
theorem dX8_spreads_81 : decode cX8_spreads 81 = .ok (.getfield 44, 3) := dk_180 ((dQ_X8_spreads_5 1).trans dk_j1) ((dQ_X8_spreads_5 2).trans dk_j2) ((dQ_X8_spreads_5 3).trans dk_j3) dk_vu2_0_44
theorem dX8_spreads_84 : decode cX8_spreads 84 = .ok (.getfield 131, 3) := dk_180 ((dQ_X8_spreads_5 4).trans dk_j4) ((dQ_X8_spreads_5 5).trans dk_j5) ((dQ_X8_spreads_5 6).trans dk_j6) dk_vu2_0_131
theorem dX8_spreads_87 : decode cX8_spreads 87 = .ok (.iload_n 3, 1) := dk_29 ((dQ_X8_spreads_5 7).trans dk_j7)
theorem dX8_spreads_88 : decode cX8_spreads 88 = .ok (.iaload, 1) := dk_46 ((dQ_X8_spreads_5 8).trans dk_j8)
theorem dX8_spreads_89 : decode cX8_spreads 89 = .ok (.invokestatic 165, 3) := dk_184 ((dQ_X8_spreads_5 9).trans dk_j9) ((dQ_X8_spreads_5 10).trans dk_j10) ((dQ_X8_spreads_5 11).trans dk_j11) dk_vu2_0_165
theorem dX8_spreads_92 : decode cX8_spreads 92 = .ok (.if_icmp .ge 9, 3) := dk_162 ((dQ_X8_spreads_5 12).trans dk_j12) ((dQ_X8_spreads_5 13).trans dk_j13) ((dQ_X8_spreads_5 14).trans dk_j14) dk_vs2_0_9
theorem dX8_spreads_95 : decode cX8_spreads 95 = .ok (.iload_n 2, 1) := dk_28 ((dQ_X8_spreads_5 15).trans dk_j15)
theorem dX8_spreads_96 : decode cX8_spreads 96 = .ok (.iconst 1, 1) := dk_4 ((dQ_X8_spreads_6 0).trans dk_j0)
theorem dX8_spreads_97 : decode cX8_spreads 97 = .ok (.iload_n 3, 1) := dk_29 ((dQ_X8_spreads_6 1).trans dk_j1)
theorem dX8_spreads_98 : decode cX8_spreads 98 = .ok (.ishl, 1) := dk_120 ((dQ_X8_spreads_6 2).trans dk_j2)
theorem dX8_spreads_99 : decode cX8_spreads 99 = .ok (.ior, 1) := dk_128 ((dQ_X8_spreads_6 3).trans dk_j3)
theorem dX8_spreads_100 : decode cX8_spreads 100 = .ok (.istore_n 2, 1) := dk_61 ((dQ_X8_spreads_6 4).trans dk_j4)
theorem dX8_spreads_101 : decode cX8_spreads 101 = .ok (.iinc 3 1, 3) := dk_132 ((dQ_X8_spreads_6 5).trans dk_j5) ((dQ_X8_spreads_6 6).trans dk_j6) ((dQ_X8_spreads_6 7).trans dk_j7) dk_vu1_3 dk_vs1_1
theorem dk_vs2_255_204 : Reader.signed 16 ((0xff : UInt8).toNat * 256 + (0xcc : UInt8).toNat) = (-52 : Int) := by decide +kernel
theorem dX8_spreads_104 : decode cX8_spreads 104 = .ok (.goto (-52), 3) := dk_167 ((dQ_X8_spreads_6 8).trans dk_j8) ((dQ_X8_spreads_6 9).trans dk_j9) ((dQ_X8_spreads_6 10).trans dk_j10) dk_vs2_255_204
theorem dX8_spreads_107 : decode cX8_spreads 107 = .ok (.iload_n 2, 1) := dk_28 ((dQ_X8_spreads_6 11).trans dk_j11)
theorem dX8_spreads_108 : decode cX8_spreads 108 = .ok (.ireturn, 1) := dk_172 ((dQ_X8_spreads_6 12).trans dk_j12)
def dT_X8_web_5 : List UInt8 := (0xac : UInt8) :: []
def dT_X8_web_4 : List UInt8 := (0x84 : UInt8) :: (0x05 : UInt8) :: (0x01 : UInt8) :: (0xa7 : UInt8) :: (0xff : UInt8) :: (0xda : UInt8) :: (0x15 : UInt8) :: (0x04 : UInt8) :: (0x3d : UInt8) :: (0x84 : UInt8) :: (0x03 : UInt8) :: (0x01 : UInt8) :: (0xa7 : UInt8) :: (0xff : UInt8) :: (0xc5 : UInt8) :: (0x1c : UInt8) :: dT_X8_web_5
def dT_X8_web_3 : List UInt8 := (0x00 : UInt8) :: (0x11 : UInt8) :: (0x15 : UInt8) :: (0x04 : UInt8) :: (0x2a : UInt8) :: (0xb4 : UInt8) :: (0x00 : UInt8) :: (0x0a : UInt8) :: (0x15 : UInt8) :: (0x05 : UInt8) :: (0xb6 : UInt8) :: (0x00 : UInt8) :: (0x79 : UInt8) :: (0x80 : UInt8) :: (0x36 : UInt8) :: (0x04 : UInt8) :: dT_X8_web_4
def dT_X8_web_2 : List UInt8 := (0xb4 : UInt8) :: (0x00 : UInt8) :: (0x2c : UInt8) :: (0xb4 : UInt8) :: (0x00 : UInt8) :: (0xa2 : UInt8) :: (0xa2 : UInt8) :: (0x00 : UInt8) :: (0x20 : UInt8) :: (0x1c : UInt8) :: (0x15 : UInt8) :: (0x05 : UInt8) :: (0xb8 : UInt8) :: (0x00 : UInt8) :: (0xaa : UInt8) :: (0x99 : UInt8) :: dT_X8_web_3
def dT_X8_web_1 : List UInt8 := (0x3e : UInt8) :: (0x1d : UInt8) :: (0x10 : UInt8) :: (0x06 : UInt8) :: (0xa2 : UInt8) :: (0x00 : UInt8) :: (0x3b : UInt8) :: (0x1c : UInt8) :: (0x36 : UInt8) :: (0x04 : UInt8) :: (0x03 : UInt8) :: (0x36 : UInt8) :: (0x05 : UInt8) :: (0x15 : UInt8) :: (0x05 : UInt8) :: (0x2a : UInt8) :: dT_X8_web_2
def dT_X8_web_0 : List UInt8 := (0x2a : UInt8) :: (0x1b : UInt8) :: (0xb6 : UInt8) :: (0x00 : UInt8) :: (0x6b : UInt8) :: (0x9a : UInt8) :: (0x00 : UInt8) :: (0x06 : UInt8) :: (0x10 : UInt8) :: (0xfe : UInt8) :: (0xac : UInt8) :: (0x04 : UInt8) :: (0x1b : UInt8) :: (0x78 : UInt8) :: (0x3d : UInt8) :: (0x04 : UInt8) :: dT_X8_web_1
theorem dT_X8_web : cX8_web.data.toList = dT_X8_web_0 := eq_of_beq (show (cX8_web.data.toList == dT_X8_web_0) = true by decide +kernel)
theorem dQ_X8_web_0 : dQ_P cX8_web 0 dT_X8_web_0 := fun i => by rw [dT_X8_web]; rfl
theorem dQ_X8_web_1 : dQ_P cX8_web 16 dT_X8_web_1 := fun i => (dQ_X8_web_0 (i + 16)).trans dk_t
theorem dQ_X8_web_2 : dQ_P cX8_web 32 dT_X8_web_2 := fun i => (dQ_X8_web_1 (i + 16)).trans dk_t
theorem dQ_X8_web_3 : dQ_P cX8_web 48 dT_X8_web_3 := fun i => (dQ_X8_web_2 (i + 16)).trans dk_t
theorem dQ_X8_web_4 : dQ_P cX8_web 64 dT_X8_web_4 := fun i => (dQ_X8_web_3 (i + 16)).trans dk_t
theorem dQ_X8_web_5 : dQ_P cX8_web 80 dT_X8_web_5 := fun i => (dQ_X8_web_4 (i + 16)).trans dk_t
theorem dX8_web_0 : decode cX8_web 0 = .ok (.aload_n 0, 1) := dk_42 ((dQ_X8_web_0 0).trans dk_j0)
theorem dX8_web_1 : decode cX8_web 1 = .ok (.iload_n 1, 1) := dk_27 ((dQ_X8_web_0 1).trans dk_j1)
theorem dX8_web_2 : decode cX8_web 2 = .ok (.invokevirtual 107, 3) := dk_182 ((dQ_X8_web_0 2).trans dk_j2) ((dQ_X8_web_0 3).trans dk_j3) ((dQ_X8_web_0 4).trans dk_j4) dk_vu2_0_107
theorem dX8_web_5 : decode cX8_web 5 = .ok (.ifCond .ne 6, 3) := dk_154 ((dQ_X8_web_0 5).trans dk_j5) ((dQ_X8_web_0 6).trans dk_j6) ((dQ_X8_web_0 7).trans dk_j7) dk_vs2_0_6
theorem dX8_web_8 : decode cX8_web 8 = .ok (.bipush (-2), 2) := dk_16 ((dQ_X8_web_0 8).trans dk_j8) ((dQ_X8_web_0 9).trans dk_j9) dk_vs1_254
theorem dX8_web_10 : decode cX8_web 10 = .ok (.ireturn, 1) := dk_172 ((dQ_X8_web_0 10).trans dk_j10)
theorem dX8_web_11 : decode cX8_web 11 = .ok (.iconst 1, 1) := dk_4 ((dQ_X8_web_0 11).trans dk_j11)
theorem dX8_web_12 : decode cX8_web 12 = .ok (.iload_n 1, 1) := dk_27 ((dQ_X8_web_0 12).trans dk_j12)
theorem dX8_web_13 : decode cX8_web 13 = .ok (.ishl, 1) := dk_120 ((dQ_X8_web_0 13).trans dk_j13)
theorem dX8_web_14 : decode cX8_web 14 = .ok (.istore_n 2, 1) := dk_61 ((dQ_X8_web_0 14).trans dk_j14)
theorem dX8_web_15 : decode cX8_web 15 = .ok (.iconst 1, 1) := dk_4 ((dQ_X8_web_0 15).trans dk_j15)
theorem dX8_web_16 : decode cX8_web 16 = .ok (.istore_n 3, 1) := dk_62 ((dQ_X8_web_1 0).trans dk_j0)
theorem dX8_web_17 : decode cX8_web 17 = .ok (.iload_n 3, 1) := dk_29 ((dQ_X8_web_1 1).trans dk_j1)
theorem dX8_web_18 : decode cX8_web 18 = .ok (.bipush 6, 2) := dk_16 ((dQ_X8_web_1 2).trans dk_j2) ((dQ_X8_web_1 3).trans dk_j3) dk_vs1_6
theorem dX8_web_20 : decode cX8_web 20 = .ok (.if_icmp .ge 59, 3) := dk_162 ((dQ_X8_web_1 4).trans dk_j4) ((dQ_X8_web_1 5).trans dk_j5) ((dQ_X8_web_1 6).trans dk_j6) dk_vs2_0_59
theorem dX8_web_23 : decode cX8_web 23 = .ok (.iload_n 2, 1) := dk_28 ((dQ_X8_web_1 7).trans dk_j7)
theorem dX8_web_24 : decode cX8_web 24 = .ok (.istore 4, 2) := dk_54 ((dQ_X8_web_1 8).trans dk_j8) ((dQ_X8_web_1 9).trans dk_j9) dk_vu1_4
theorem dX8_web_26 : decode cX8_web 26 = .ok (.iconst 0, 1) := dk_3 ((dQ_X8_web_1 10).trans dk_j10)
theorem dX8_web_27 : decode cX8_web 27 = .ok (.istore 5, 2) := dk_54 ((dQ_X8_web_1 11).trans dk_j11) ((dQ_X8_web_1 12).trans dk_j12) dk_vu1_5
theorem dX8_web_29 : decode cX8_web 29 = .ok (.iload 5, 2) := dk_21 ((dQ_X8_web_1 13).trans dk_j13) ((dQ_X8_web_1 14).trans dk_j14) dk_vu1_5
theorem dX8_web_31 : decode cX8_web 31 = .ok (.aload_n 0, 1) := dk_42 ((dQ_X8_web_1 15).trans dk_j15)
theorem dX8_web_32 : decode cX8_web 32 = .ok (.getfield 44, 3) := dk_180 ((dQ_X8_web_2 0).trans dk_j0) ((dQ_X8_web_2 1).trans dk_j1) ((dQ_X8_web_2 2).trans dk_j2) dk_vu2_0_44
theorem dX8_web_35 : decode cX8_web 35 = .ok (.getfield 162, 3) := dk_180 ((dQ_X8_web_2 3).trans dk_j3) ((dQ_X8_web_2 4).trans dk_j4) ((dQ_X8_web_2 5).trans dk_j5) dk_vu2_0_162
theorem dX8_web_38 : decode cX8_web 38 = .ok (.if_icmp .ge 32, 3) := dk_162 ((dQ_X8_web_2 6).trans dk_j6) ((dQ_X8_web_2 7).trans dk_j7) ((dQ_X8_web_2 8).trans dk_j8) dk_vs2_0_32
theorem dX8_web_41 : decode cX8_web 41 = .ok (.iload_n 2, 1) := dk_28 ((dQ_X8_web_2 9).trans dk_j9)
theorem dX8_web_42 : decode cX8_web 42 = .ok (.iload 5, 2) := dk_21 ((dQ_X8_web_2 10).trans dk_j10) ((dQ_X8_web_2 11).trans dk_j11) dk_vu1_5
theorem dX8_web_44 : decode cX8_web 44 = .ok (.invokestatic 170, 3) := dk_184 ((dQ_X8_web_2 12).trans dk_j12) ((dQ_X8_web_2 13).trans dk_j13) ((dQ_X8_web_2 14).trans dk_j14) dk_vu2_0_170
theorem dX8_web_47 : decode cX8_web 47 = .ok (.ifCond .eq 17, 3) := dk_153 ((dQ_X8_web_2 15).trans dk_j15) ((dQ_X8_web_3 0).trans dk_j0) ((dQ_X8_web_3 1).trans dk_j1) dk_vs2_0_17
theorem dX8_web_50 : decode cX8_web 50 = .ok (.iload 4, 2) := dk_21 ((dQ_X8_web_3 2).trans dk_j2) ((dQ_X8_web_3 3).trans dk_j3) dk_vu1_4
theorem dX8_web_52 : decode cX8_web 52 = .ok (.aload_n 0, 1) := dk_42 ((dQ_X8_web_3 4).trans dk_j4)
theorem dX8_web_53 : decode cX8_web 53 = .ok (.getfield 10, 3) := dk_180 ((dQ_X8_web_3 5).trans dk_j5) ((dQ_X8_web_3 6).trans dk_j6) ((dQ_X8_web_3 7).trans dk_j7) dk_vu2_0_10
theorem dX8_web_56 : decode cX8_web 56 = .ok (.iload 5, 2) := dk_21 ((dQ_X8_web_3 8).trans dk_j8) ((dQ_X8_web_3 9).trans dk_j9) dk_vu1_5
theorem dX8_web_58 : decode cX8_web 58 = .ok (.invokevirtual 121, 3) := dk_182 ((dQ_X8_web_3 10).trans dk_j10) ((dQ_X8_web_3 11).trans dk_j11) ((dQ_X8_web_3 12).trans dk_j12) dk_vu2_0_121
theorem dX8_web_61 : decode cX8_web 61 = .ok (.ior, 1) := dk_128 ((dQ_X8_web_3 13).trans dk_j13)
theorem dX8_web_62 : decode cX8_web 62 = .ok (.istore 4, 2) := dk_54 ((dQ_X8_web_3 14).trans dk_j14) ((dQ_X8_web_3 15).trans dk_j15) dk_vu1_4
theorem dX8_web_64 : decode cX8_web 64 = .ok (.iinc 5 1, 3) := dk_132 ((dQ_X8_web_4 0).trans dk_j0) ((dQ_X8_web_4 1).trans dk_j1) ((dQ_X8_web_4 2).trans dk_j2) dk_vu1_5 dk_vs1_1
theorem dX8_web_67 : decode cX8_web 67 = .ok (.goto (-38), 3) := dk_167 ((dQ_X8_web_4 3).trans dk_j3) ((dQ_X8_web_4 4).trans dk_j4) ((dQ_X8_web_4 5).trans dk_j5) dk_vs2_255_218
theorem dX8_web_70 : decode cX8_web 70 = .ok (.iload 4, 2) := dk_21 ((dQ_X8_web_4 6).trans dk_j6) ((dQ_X8_web_4 7).trans dk_j7) dk_vu1_4
theorem dX8_web_72 : decode cX8_web 72 = .ok (.istore_n 2, 1) := dk_61 ((dQ_X8_web_4 8).trans dk_j8)
theorem dX8_web_73 : decode cX8_web 73 = .ok (.iinc 3 1, 3) := dk_132 ((dQ_X8_web_4 9).trans dk_j9) ((dQ_X8_web_4 10).trans dk_j10) ((dQ_X8_web_4 11).trans dk_j11) dk_vu1_3 dk_vs1_1
theorem dX8_web_76 : decode cX8_web 76 = .ok (.goto (-59), 3) := dk_167 ((dQ_X8_web_4 12).trans dk_j12) ((dQ_X8_web_4 13).trans dk_j13) ((dQ_X8_web_4 14).trans dk_j14) dk_vs2_255_197
theorem dX8_web_79 : decode cX8_web 79 = .ok (.iload_n 2, 1) := dk_28 ((dQ_X8_web_4 15).trans dk_j15)
theorem dX8_web_80 : decode cX8_web 80 = .ok (.ireturn, 1) := dk_172 ((dQ_X8_web_5 0).trans dk_j0)
def dT_X8_cut_1 : List UInt8 := (0x10 : UInt8) :: (0xfe : UInt8) :: (0xac : UInt8) :: []
def dT_X8_cut_0 : List UInt8 := (0x2a : UInt8) :: (0x1b : UInt8) :: (0xb6 : UInt8) :: (0x00 : UInt8) :: (0xc7 : UInt8) :: (0x99 : UInt8) :: (0x00 : UInt8) :: (0x0b : UInt8) :: (0x2a : UInt8) :: (0x1b : UInt8) :: (0xb6 : UInt8) :: (0x00 : UInt8) :: (0xca : UInt8) :: (0xa7 : UInt8) :: (0x00 : UInt8) :: (0x05 : UInt8) :: dT_X8_cut_1
theorem dT_X8_cut : cX8_cut.data.toList = dT_X8_cut_0 := eq_of_beq (show (cX8_cut.data.toList == dT_X8_cut_0) = true by decide +kernel)
theorem dQ_X8_cut_0 : dQ_P cX8_cut 0 dT_X8_cut_0 := fun i => by rw [dT_X8_cut]; rfl
theorem dQ_X8_cut_1 : dQ_P cX8_cut 16 dT_X8_cut_1 := fun i => (dQ_X8_cut_0 (i + 16)).trans dk_t
theorem dX8_cut_0 : decode cX8_cut 0 = .ok (.aload_n 0, 1) := dk_42 ((dQ_X8_cut_0 0).trans dk_j0)
theorem dX8_cut_1 : decode cX8_cut 1 = .ok (.iload_n 1, 1) := dk_27 ((dQ_X8_cut_0 1).trans dk_j1)
theorem dk_vu2_0_199 : (0x00 : UInt8).toNat * 256 + (0xc7 : UInt8).toNat = (199 : Nat) := by decide +kernel
theorem dX8_cut_2 : decode cX8_cut 2 = .ok (.invokevirtual 199, 3) := dk_182 ((dQ_X8_cut_0 2).trans dk_j2) ((dQ_X8_cut_0 3).trans dk_j3) ((dQ_X8_cut_0 4).trans dk_j4) dk_vu2_0_199
theorem dX8_cut_5 : decode cX8_cut 5 = .ok (.ifCond .eq 11, 3) := dk_153 ((dQ_X8_cut_0 5).trans dk_j5) ((dQ_X8_cut_0 6).trans dk_j6) ((dQ_X8_cut_0 7).trans dk_j7) dk_vs2_0_11
theorem dX8_cut_8 : decode cX8_cut 8 = .ok (.aload_n 0, 1) := dk_42 ((dQ_X8_cut_0 8).trans dk_j8)
theorem dX8_cut_9 : decode cX8_cut 9 = .ok (.iload_n 1, 1) := dk_27 ((dQ_X8_cut_0 9).trans dk_j9)
theorem dk_vu2_0_202 : (0x00 : UInt8).toNat * 256 + (0xca : UInt8).toNat = (202 : Nat) := by decide +kernel
theorem dX8_cut_10 : decode cX8_cut 10 = .ok (.invokevirtual 202, 3) := dk_182 ((dQ_X8_cut_0 10).trans dk_j10) ((dQ_X8_cut_0 11).trans dk_j11) ((dQ_X8_cut_0 12).trans dk_j12) dk_vu2_0_202
theorem dX8_cut_13 : decode cX8_cut 13 = .ok (.goto 5, 3) := dk_167 ((dQ_X8_cut_0 13).trans dk_j13) ((dQ_X8_cut_0 14).trans dk_j14) ((dQ_X8_cut_0 15).trans dk_j15) dk_vs2_0_5
theorem dX8_cut_16 : decode cX8_cut 16 = .ok (.bipush (-2), 2) := dk_16 ((dQ_X8_cut_1 0).trans dk_j0) ((dQ_X8_cut_1 1).trans dk_j1) dk_vs1_254
theorem dX8_cut_18 : decode cX8_cut 18 = .ok (.ireturn, 1) := dk_172 ((dQ_X8_cut_1 2).trans dk_j2)
def dT_X8_cuts_3 : List UInt8 := (0x08 : UInt8) :: (0x15 : UInt8) :: (0x04 : UInt8) :: (0x3d : UInt8) :: (0x1d : UInt8) :: (0x3c : UInt8) :: (0x84 : UInt8) :: (0x03 : UInt8) :: (0x01 : UInt8) :: (0xa7 : UInt8) :: (0xff : UInt8) :: (0xdd : UInt8) :: (0x1b : UInt8) :: (0xac : UInt8) :: []
def dT_X8_cuts_2 : List UInt8 := (0x2e : UInt8) :: (0xa2 : UInt8) :: (0x00 : UInt8) :: (0x1b : UInt8) :: (0x2a : UInt8) :: (0x1d : UInt8) :: (0xb6 : UInt8) :: (0x00 : UInt8) :: (0xca : UInt8) :: (0x36 : UInt8) :: (0x04 : UInt8) :: (0x15 : UInt8) :: (0x04 : UInt8) :: (0x1c : UInt8) :: (0xa2 : UInt8) :: (0x00 : UInt8) :: dT_X8_cuts_3
def dT_X8_cuts_1 : List UInt8 := (0xb6 : UInt8) :: (0x00 : UInt8) :: (0x8d : UInt8) :: (0x3d : UInt8) :: (0x03 : UInt8) :: (0x3e : UInt8) :: (0x1d : UInt8) :: (0x2a : UInt8) :: (0xb4 : UInt8) :: (0x00 : UInt8) :: (0x0a : UInt8) :: (0xb4 : UInt8) :: (0x00 : UInt8) :: (0x64 : UInt8) :: (0x10 : UInt8) :: (0x07 : UInt8) :: dT_X8_cuts_2
def dT_X8_cuts_0 : List UInt8 := (0x2a : UInt8) :: (0xb6 : UInt8) :: (0x00 : UInt8) :: (0x89 : UInt8) :: (0x9a : UInt8) :: (0x00 : UInt8) :: (0x06 : UInt8) :: (0x10 : UInt8) :: (0xfe : UInt8) :: (0xac : UInt8) :: (0x02 : UInt8) :: (0x3c : UInt8) :: (0x2a : UInt8) :: (0xb4 : UInt8) :: (0x00 : UInt8) :: (0x2c : UInt8) :: dT_X8_cuts_1
theorem dT_X8_cuts : cX8_cuts.data.toList = dT_X8_cuts_0 := eq_of_beq (show (cX8_cuts.data.toList == dT_X8_cuts_0) = true by decide +kernel)
theorem dQ_X8_cuts_0 : dQ_P cX8_cuts 0 dT_X8_cuts_0 := fun i => by rw [dT_X8_cuts]; rfl
theorem dQ_X8_cuts_1 : dQ_P cX8_cuts 16 dT_X8_cuts_1 := fun i => (dQ_X8_cuts_0 (i + 16)).trans dk_t
theorem dQ_X8_cuts_2 : dQ_P cX8_cuts 32 dT_X8_cuts_2 := fun i => (dQ_X8_cuts_1 (i + 16)).trans dk_t
theorem dQ_X8_cuts_3 : dQ_P cX8_cuts 48 dT_X8_cuts_3 := fun i => (dQ_X8_cuts_2 (i + 16)).trans dk_t
theorem dX8_cuts_0 : decode cX8_cuts 0 = .ok (.aload_n 0, 1) := dk_42 ((dQ_X8_cuts_0 0).trans dk_j0)
theorem dX8_cuts_1 : decode cX8_cuts 1 = .ok (.invokevirtual 137, 3) := dk_182 ((dQ_X8_cuts_0 1).trans dk_j1) ((dQ_X8_cuts_0 2).trans dk_j2) ((dQ_X8_cuts_0 3).trans dk_j3) dk_vu2_0_137
theorem dX8_cuts_4 : decode cX8_cuts 4 = .ok (.ifCond .ne 6, 3) := dk_154 ((dQ_X8_cuts_0 4).trans dk_j4) ((dQ_X8_cuts_0 5).trans dk_j5) ((dQ_X8_cuts_0 6).trans dk_j6) dk_vs2_0_6
theorem dX8_cuts_7 : decode cX8_cuts 7 = .ok (.bipush (-2), 2) := dk_16 ((dQ_X8_cuts_0 7).trans dk_j7) ((dQ_X8_cuts_0 8).trans dk_j8) dk_vs1_254
theorem dX8_cuts_9 : decode cX8_cuts 9 = .ok (.ireturn, 1) := dk_172 ((dQ_X8_cuts_0 9).trans dk_j9)
theorem dX8_cuts_10 : decode cX8_cuts 10 = .ok (.iconst (-1), 1) := dk_2 ((dQ_X8_cuts_0 10).trans dk_j10)
theorem dX8_cuts_11 : decode cX8_cuts 11 = .ok (.istore_n 1, 1) := dk_60 ((dQ_X8_cuts_0 11).trans dk_j11)
theorem dX8_cuts_12 : decode cX8_cuts 12 = .ok (.aload_n 0, 1) := dk_42 ((dQ_X8_cuts_0 12).trans dk_j12)
theorem dX8_cuts_13 : decode cX8_cuts 13 = .ok (.getfield 44, 3) := dk_180 ((dQ_X8_cuts_0 13).trans dk_j13) ((dQ_X8_cuts_0 14).trans dk_j14) ((dQ_X8_cuts_0 15).trans dk_j15) dk_vu2_0_44
theorem dX8_cuts_16 : decode cX8_cuts 16 = .ok (.invokevirtual 141, 3) := dk_182 ((dQ_X8_cuts_1 0).trans dk_j0) ((dQ_X8_cuts_1 1).trans dk_j1) ((dQ_X8_cuts_1 2).trans dk_j2) dk_vu2_0_141
theorem dX8_cuts_19 : decode cX8_cuts 19 = .ok (.istore_n 2, 1) := dk_61 ((dQ_X8_cuts_1 3).trans dk_j3)
theorem dX8_cuts_20 : decode cX8_cuts 20 = .ok (.iconst 0, 1) := dk_3 ((dQ_X8_cuts_1 4).trans dk_j4)
theorem dX8_cuts_21 : decode cX8_cuts 21 = .ok (.istore_n 3, 1) := dk_62 ((dQ_X8_cuts_1 5).trans dk_j5)
theorem dX8_cuts_22 : decode cX8_cuts 22 = .ok (.iload_n 3, 1) := dk_29 ((dQ_X8_cuts_1 6).trans dk_j6)
theorem dX8_cuts_23 : decode cX8_cuts 23 = .ok (.aload_n 0, 1) := dk_42 ((dQ_X8_cuts_1 7).trans dk_j7)
theorem dX8_cuts_24 : decode cX8_cuts 24 = .ok (.getfield 10, 3) := dk_180 ((dQ_X8_cuts_1 8).trans dk_j8) ((dQ_X8_cuts_1 9).trans dk_j9) ((dQ_X8_cuts_1 10).trans dk_j10) dk_vu2_0_10
theorem dX8_cuts_27 : decode cX8_cuts 27 = .ok (.getfield 100, 3) := dk_180 ((dQ_X8_cuts_1 11).trans dk_j11) ((dQ_X8_cuts_1 12).trans dk_j12) ((dQ_X8_cuts_1 13).trans dk_j13) dk_vu2_0_100
theorem dX8_cuts_30 : decode cX8_cuts 30 = .ok (.bipush 7, 2) := dk_16 ((dQ_X8_cuts_1 14).trans dk_j14) ((dQ_X8_cuts_1 15).trans dk_j15) dk_vs1_7
theorem dX8_cuts_32 : decode cX8_cuts 32 = .ok (.iaload, 1) := dk_46 ((dQ_X8_cuts_2 0).trans dk_j0)
theorem dX8_cuts_33 : decode cX8_cuts 33 = .ok (.if_icmp .ge 27, 3) := dk_162 ((dQ_X8_cuts_2 1).trans dk_j1) ((dQ_X8_cuts_2 2).trans dk_j2) ((dQ_X8_cuts_2 3).trans dk_j3) dk_vs2_0_27
theorem dX8_cuts_36 : decode cX8_cuts 36 = .ok (.aload_n 0, 1) := dk_42 ((dQ_X8_cuts_2 4).trans dk_j4)
theorem dX8_cuts_37 : decode cX8_cuts 37 = .ok (.iload_n 3, 1) := dk_29 ((dQ_X8_cuts_2 5).trans dk_j5)
theorem dX8_cuts_38 : decode cX8_cuts 38 = .ok (.invokevirtual 202, 3) := dk_182 ((dQ_X8_cuts_2 6).trans dk_j6) ((dQ_X8_cuts_2 7).trans dk_j7) ((dQ_X8_cuts_2 8).trans dk_j8) dk_vu2_0_202
theorem dX8_cuts_41 : decode cX8_cuts 41 = .ok (.istore 4, 2) := dk_54 ((dQ_X8_cuts_2 9).trans dk_j9) ((dQ_X8_cuts_2 10).trans dk_j10) dk_vu1_4
theorem dX8_cuts_43 : decode cX8_cuts 43 = .ok (.iload 4, 2) := dk_21 ((dQ_X8_cuts_2 11).trans dk_j11) ((dQ_X8_cuts_2 12).trans dk_j12) dk_vu1_4
theorem dX8_cuts_45 : decode cX8_cuts 45 = .ok (.iload_n 2, 1) := dk_28 ((dQ_X8_cuts_2 13).trans dk_j13)
theorem dX8_cuts_46 : decode cX8_cuts 46 = .ok (.if_icmp .ge 8, 3) := dk_162 ((dQ_X8_cuts_2 14).trans dk_j14) ((dQ_X8_cuts_2 15).trans dk_j15) ((dQ_X8_cuts_3 0).trans dk_j0) dk_vs2_0_8
theorem dX8_cuts_49 : decode cX8_cuts 49 = .ok (.iload 4, 2) := dk_21 ((dQ_X8_cuts_3 1).trans dk_j1) ((dQ_X8_cuts_3 2).trans dk_j2) dk_vu1_4
theorem dX8_cuts_51 : decode cX8_cuts 51 = .ok (.istore_n 2, 1) := dk_61 ((dQ_X8_cuts_3 3).trans dk_j3)
theorem dX8_cuts_52 : decode cX8_cuts 52 = .ok (.iload_n 3, 1) := dk_29 ((dQ_X8_cuts_3 4).trans dk_j4)
theorem dX8_cuts_53 : decode cX8_cuts 53 = .ok (.istore_n 1, 1) := dk_60 ((dQ_X8_cuts_3 5).trans dk_j5)
theorem dX8_cuts_54 : decode cX8_cuts 54 = .ok (.iinc 3 1, 3) := dk_132 ((dQ_X8_cuts_3 6).trans dk_j6) ((dQ_X8_cuts_3 7).trans dk_j7) ((dQ_X8_cuts_3 8).trans dk_j8) dk_vu1_3 dk_vs1_1
theorem dX8_cuts_57 : decode cX8_cuts 57 = .ok (.goto (-35), 3) := dk_167 ((dQ_X8_cuts_3 9).trans dk_j9) ((dQ_X8_cuts_3 10).trans dk_j10) ((dQ_X8_cuts_3 11).trans dk_j11) dk_vs2_255_221
theorem dX8_cuts_60 : decode cX8_cuts 60 = .ok (.iload_n 1, 1) := dk_27 ((dQ_X8_cuts_3 12).trans dk_j12)
theorem dX8_cuts_61 : decode cX8_cuts 61 = .ok (.ireturn, 1) := dk_172 ((dQ_X8_cuts_3 13).trans dk_j13)
def dT_X8_totalWithout_2 : List UInt8 := (0x8d : UInt8) :: (0xac : UInt8) :: []
def dT_X8_totalWithout_1 : List UInt8 := (0xb5 : UInt8) :: (0x00 : UInt8) :: (0xcd : UInt8) :: (0x2a : UInt8) :: (0xb4 : UInt8) :: (0x00 : UInt8) :: (0x30 : UInt8) :: (0xb6 : UInt8) :: (0x00 : UInt8) :: (0xbd : UInt8) :: (0x2a : UInt8) :: (0xb4 : UInt8) :: (0x00 : UInt8) :: (0x30 : UInt8) :: (0xb6 : UInt8) :: (0x00 : UInt8) :: dT_X8_totalWithout_2
def dT_X8_totalWithout_0 : List UInt8 := (0x2a : UInt8) :: (0xb4 : UInt8) :: (0x00 : UInt8) :: (0x30 : UInt8) :: (0x2a : UInt8) :: (0xb4 : UInt8) :: (0x00 : UInt8) :: (0x2c : UInt8) :: (0xb6 : UInt8) :: (0x00 : UInt8) :: (0xb7 : UInt8) :: (0x2a : UInt8) :: (0xb4 : UInt8) :: (0x00 : UInt8) :: (0x30 : UInt8) :: (0x1b : UInt8) :: dT_X8_totalWithout_1
theorem dT_X8_totalWithout : cX8_totalWithout.data.toList = dT_X8_totalWithout_0 := eq_of_beq (show (cX8_totalWithout.data.toList == dT_X8_totalWithout_0) = true by decide +kernel)
theorem dQ_X8_totalWithout_0 : dQ_P cX8_totalWithout 0 dT_X8_totalWithout_0 := fun i => by rw [dT_X8_totalWithout]; rfl
theorem dQ_X8_totalWithout_1 : dQ_P cX8_totalWithout 16 dT_X8_totalWithout_1 := fun i => (dQ_X8_totalWithout_0 (i + 16)).trans dk_t
theorem dQ_X8_totalWithout_2 : dQ_P cX8_totalWithout 32 dT_X8_totalWithout_2 := fun i => (dQ_X8_totalWithout_1 (i + 16)).trans dk_t
theorem dX8_totalWithout_0 : decode cX8_totalWithout 0 = .ok (.aload_n 0, 1) := dk_42 ((dQ_X8_totalWithout_0 0).trans dk_j0)
theorem dX8_totalWithout_1 : decode cX8_totalWithout 1 = .ok (.getfield 48, 3) := dk_180 ((dQ_X8_totalWithout_0 1).trans dk_j1) ((dQ_X8_totalWithout_0 2).trans dk_j2) ((dQ_X8_totalWithout_0 3).trans dk_j3) dk_vu2_0_48
theorem dX8_totalWithout_4 : decode cX8_totalWithout 4 = .ok (.aload_n 0, 1) := dk_42 ((dQ_X8_totalWithout_0 4).trans dk_j4)
theorem dX8_totalWithout_5 : decode cX8_totalWithout 5 = .ok (.getfield 44, 3) := dk_180 ((dQ_X8_totalWithout_0 5).trans dk_j5) ((dQ_X8_totalWithout_0 6).trans dk_j6) ((dQ_X8_totalWithout_0 7).trans dk_j7) dk_vu2_0_44
theorem dX8_totalWithout_8 : decode cX8_totalWithout 8 = .ok (.invokevirtual 183, 3) := dk_182 ((dQ_X8_totalWithout_0 8).trans dk_j8) ((dQ_X8_totalWithout_0 9).trans dk_j9) ((dQ_X8_totalWithout_0 10).trans dk_j10) dk_vu2_0_183
theorem dX8_totalWithout_11 : decode cX8_totalWithout 11 = .ok (.aload_n 0, 1) := dk_42 ((dQ_X8_totalWithout_0 11).trans dk_j11)
theorem dX8_totalWithout_12 : decode cX8_totalWithout 12 = .ok (.getfield 48, 3) := dk_180 ((dQ_X8_totalWithout_0 12).trans dk_j12) ((dQ_X8_totalWithout_0 13).trans dk_j13) ((dQ_X8_totalWithout_0 14).trans dk_j14) dk_vu2_0_48
theorem dX8_totalWithout_15 : decode cX8_totalWithout 15 = .ok (.iload_n 1, 1) := dk_27 ((dQ_X8_totalWithout_0 15).trans dk_j15)
theorem dk_vu2_0_205 : (0x00 : UInt8).toNat * 256 + (0xcd : UInt8).toNat = (205 : Nat) := by decide +kernel
theorem dX8_totalWithout_16 : decode cX8_totalWithout 16 = .ok (.putfield 205, 3) := dk_181 ((dQ_X8_totalWithout_1 0).trans dk_j0) ((dQ_X8_totalWithout_1 1).trans dk_j1) ((dQ_X8_totalWithout_1 2).trans dk_j2) dk_vu2_0_205
theorem dX8_totalWithout_19 : decode cX8_totalWithout 19 = .ok (.aload_n 0, 1) := dk_42 ((dQ_X8_totalWithout_1 3).trans dk_j3)
theorem dX8_totalWithout_20 : decode cX8_totalWithout 20 = .ok (.getfield 48, 3) := dk_180 ((dQ_X8_totalWithout_1 4).trans dk_j4) ((dQ_X8_totalWithout_1 5).trans dk_j5) ((dQ_X8_totalWithout_1 6).trans dk_j6) dk_vu2_0_48
theorem dX8_totalWithout_23 : decode cX8_totalWithout 23 = .ok (.invokevirtual 189, 3) := dk_182 ((dQ_X8_totalWithout_1 7).trans dk_j7) ((dQ_X8_totalWithout_1 8).trans dk_j8) ((dQ_X8_totalWithout_1 9).trans dk_j9) dk_vu2_0_189
theorem dX8_totalWithout_26 : decode cX8_totalWithout 26 = .ok (.aload_n 0, 1) := dk_42 ((dQ_X8_totalWithout_1 10).trans dk_j10)
theorem dX8_totalWithout_27 : decode cX8_totalWithout 27 = .ok (.getfield 48, 3) := dk_180 ((dQ_X8_totalWithout_1 11).trans dk_j11) ((dQ_X8_totalWithout_1 12).trans dk_j12) ((dQ_X8_totalWithout_1 13).trans dk_j13) dk_vu2_0_48
theorem dX8_totalWithout_30 : decode cX8_totalWithout 30 = .ok (.invokevirtual 141, 3) := dk_182 ((dQ_X8_totalWithout_1 14).trans dk_j14) ((dQ_X8_totalWithout_1 15).trans dk_j15) ((dQ_X8_totalWithout_2 0).trans dk_j0) dk_vu2_0_141
theorem dX8_totalWithout_33 : decode cX8_totalWithout 33 = .ok (.ireturn, 1) := dk_172 ((dQ_X8_totalWithout_2 1).trans dk_j1)
def dT_X8_claim_1 : List UInt8 := (0x2e : UInt8) :: (0xa7 : UInt8) :: (0x00 : UInt8) :: (0x05 : UInt8) :: (0x10 : UInt8) :: (0xfe : UInt8) :: (0xac : UInt8) :: []
def dT_X8_claim_0 : List UInt8 := (0x2a : UInt8) :: (0x1b : UInt8) :: (0xb6 : UInt8) :: (0x00 : UInt8) :: (0x72 : UInt8) :: (0x99 : UInt8) :: (0x00 : UInt8) :: (0x0f : UInt8) :: (0x2a : UInt8) :: (0xb6 : UInt8) :: (0x00 : UInt8) :: (0xd0 : UInt8) :: (0xb4 : UInt8) :: (0x00 : UInt8) :: (0xd4 : UInt8) :: (0x1b : UInt8) :: dT_X8_claim_1
theorem dT_X8_claim : cX8_claim.data.toList = dT_X8_claim_0 := eq_of_beq (show (cX8_claim.data.toList == dT_X8_claim_0) = true by decide +kernel)
theorem dQ_X8_claim_0 : dQ_P cX8_claim 0 dT_X8_claim_0 := fun i => by rw [dT_X8_claim]; rfl
theorem dQ_X8_claim_1 : dQ_P cX8_claim 16 dT_X8_claim_1 := fun i => (dQ_X8_claim_0 (i + 16)).trans dk_t
theorem dX8_claim_0 : decode cX8_claim 0 = .ok (.aload_n 0, 1) := dk_42 ((dQ_X8_claim_0 0).trans dk_j0)
theorem dX8_claim_1 : decode cX8_claim 1 = .ok (.iload_n 1, 1) := dk_27 ((dQ_X8_claim_0 1).trans dk_j1)
theorem dX8_claim_2 : decode cX8_claim 2 = .ok (.invokevirtual 114, 3) := dk_182 ((dQ_X8_claim_0 2).trans dk_j2) ((dQ_X8_claim_0 3).trans dk_j3) ((dQ_X8_claim_0 4).trans dk_j4) dk_vu2_0_114
theorem dX8_claim_5 : decode cX8_claim 5 = .ok (.ifCond .eq 15, 3) := dk_153 ((dQ_X8_claim_0 5).trans dk_j5) ((dQ_X8_claim_0 6).trans dk_j6) ((dQ_X8_claim_0 7).trans dk_j7) dk_vs2_0_15
theorem dX8_claim_8 : decode cX8_claim 8 = .ok (.aload_n 0, 1) := dk_42 ((dQ_X8_claim_0 8).trans dk_j8)
theorem dk_vu2_0_208 : (0x00 : UInt8).toNat * 256 + (0xd0 : UInt8).toNat = (208 : Nat) := by decide +kernel
theorem dX8_claim_9 : decode cX8_claim 9 = .ok (.invokevirtual 208, 3) := dk_182 ((dQ_X8_claim_0 9).trans dk_j9) ((dQ_X8_claim_0 10).trans dk_j10) ((dQ_X8_claim_0 11).trans dk_j11) dk_vu2_0_208
theorem dX8_claim_12 : decode cX8_claim 12 = .ok (.getfield 212, 3) := dk_180 ((dQ_X8_claim_0 12).trans dk_j12) ((dQ_X8_claim_0 13).trans dk_j13) ((dQ_X8_claim_0 14).trans dk_j14) dk_vu2_0_212
theorem dX8_claim_15 : decode cX8_claim 15 = .ok (.iload_n 1, 1) := dk_27 ((dQ_X8_claim_0 15).trans dk_j15)
theorem dX8_claim_16 : decode cX8_claim 16 = .ok (.iaload, 1) := dk_46 ((dQ_X8_claim_1 0).trans dk_j0)
theorem dX8_claim_17 : decode cX8_claim 17 = .ok (.goto 5, 3) := dk_167 ((dQ_X8_claim_1 1).trans dk_j1) ((dQ_X8_claim_1 2).trans dk_j2) ((dQ_X8_claim_1 3).trans dk_j3) dk_vs2_0_5
theorem dX8_claim_20 : decode cX8_claim 20 = .ok (.bipush (-2), 2) := dk_16 ((dQ_X8_claim_1 4).trans dk_j4) ((dQ_X8_claim_1 5).trans dk_j5) dk_vs1_254
theorem dX8_claim_22 : decode cX8_claim 22 = .ok (.ireturn, 1) := dk_172 ((dQ_X8_claim_1 6).trans dk_j6)
def dT_X8_paid_1 : List UInt8 := (0x2e : UInt8) :: (0xa7 : UInt8) :: (0x00 : UInt8) :: (0x05 : UInt8) :: (0x10 : UInt8) :: (0xfe : UInt8) :: (0xac : UInt8) :: []
def dT_X8_paid_0 : List UInt8 := (0x2a : UInt8) :: (0x1b : UInt8) :: (0xb6 : UInt8) :: (0x00 : UInt8) :: (0x72 : UInt8) :: (0x99 : UInt8) :: (0x00 : UInt8) :: (0x0f : UInt8) :: (0x2a : UInt8) :: (0xb6 : UInt8) :: (0x00 : UInt8) :: (0xd0 : UInt8) :: (0xb4 : UInt8) :: (0x00 : UInt8) :: (0xd7 : UInt8) :: (0x1b : UInt8) :: dT_X8_paid_1
theorem dT_X8_paid : cX8_paid.data.toList = dT_X8_paid_0 := eq_of_beq (show (cX8_paid.data.toList == dT_X8_paid_0) = true by decide +kernel)
theorem dQ_X8_paid_0 : dQ_P cX8_paid 0 dT_X8_paid_0 := fun i => by rw [dT_X8_paid]; rfl
theorem dQ_X8_paid_1 : dQ_P cX8_paid 16 dT_X8_paid_1 := fun i => (dQ_X8_paid_0 (i + 16)).trans dk_t
theorem dX8_paid_0 : decode cX8_paid 0 = .ok (.aload_n 0, 1) := dk_42 ((dQ_X8_paid_0 0).trans dk_j0)
theorem dX8_paid_1 : decode cX8_paid 1 = .ok (.iload_n 1, 1) := dk_27 ((dQ_X8_paid_0 1).trans dk_j1)
theorem dX8_paid_2 : decode cX8_paid 2 = .ok (.invokevirtual 114, 3) := dk_182 ((dQ_X8_paid_0 2).trans dk_j2) ((dQ_X8_paid_0 3).trans dk_j3) ((dQ_X8_paid_0 4).trans dk_j4) dk_vu2_0_114
theorem dX8_paid_5 : decode cX8_paid 5 = .ok (.ifCond .eq 15, 3) := dk_153 ((dQ_X8_paid_0 5).trans dk_j5) ((dQ_X8_paid_0 6).trans dk_j6) ((dQ_X8_paid_0 7).trans dk_j7) dk_vs2_0_15
theorem dX8_paid_8 : decode cX8_paid 8 = .ok (.aload_n 0, 1) := dk_42 ((dQ_X8_paid_0 8).trans dk_j8)
theorem dX8_paid_9 : decode cX8_paid 9 = .ok (.invokevirtual 208, 3) := dk_182 ((dQ_X8_paid_0 9).trans dk_j9) ((dQ_X8_paid_0 10).trans dk_j10) ((dQ_X8_paid_0 11).trans dk_j11) dk_vu2_0_208
theorem dX8_paid_12 : decode cX8_paid 12 = .ok (.getfield 215, 3) := dk_180 ((dQ_X8_paid_0 12).trans dk_j12) ((dQ_X8_paid_0 13).trans dk_j13) ((dQ_X8_paid_0 14).trans dk_j14) dk_vu2_0_215
theorem dX8_paid_15 : decode cX8_paid 15 = .ok (.iload_n 1, 1) := dk_27 ((dQ_X8_paid_0 15).trans dk_j15)
theorem dX8_paid_16 : decode cX8_paid 16 = .ok (.iaload, 1) := dk_46 ((dQ_X8_paid_1 0).trans dk_j0)
theorem dX8_paid_17 : decode cX8_paid 17 = .ok (.goto 5, 3) := dk_167 ((dQ_X8_paid_1 1).trans dk_j1) ((dQ_X8_paid_1 2).trans dk_j2) ((dQ_X8_paid_1 3).trans dk_j3) dk_vs2_0_5
theorem dX8_paid_20 : decode cX8_paid 20 = .ok (.bipush (-2), 2) := dk_16 ((dQ_X8_paid_1 4).trans dk_j4) ((dQ_X8_paid_1 5).trans dk_j5) dk_vs1_254
theorem dX8_paid_22 : decode cX8_paid 22 = .ok (.ireturn, 1) := dk_172 ((dQ_X8_paid_1 6).trans dk_j6)
def dT_X8_claims_3 : List UInt8 := (0x1c : UInt8) :: (0xac : UInt8) :: []
def dT_X8_claims_2 : List UInt8 := (0x2e : UInt8) :: (0x9e : UInt8) :: (0x00 : UInt8) :: (0x09 : UInt8) :: (0x1c : UInt8) :: (0x04 : UInt8) :: (0x1d : UInt8) :: (0x78 : UInt8) :: (0x80 : UInt8) :: (0x3d : UInt8) :: (0x84 : UInt8) :: (0x03 : UInt8) :: (0x01 : UInt8) :: (0xa7 : UInt8) :: (0xff : UInt8) :: (0xe6 : UInt8) :: dT_X8_claims_3
def dT_X8_claims_1 : List UInt8 := (0x3d : UInt8) :: (0x03 : UInt8) :: (0x3e : UInt8) :: (0x1d : UInt8) :: (0x2b : UInt8) :: (0xb4 : UInt8) :: (0x00 : UInt8) :: (0xda : UInt8) :: (0xa2 : UInt8) :: (0x00 : UInt8) :: (0x18 : UInt8) :: (0x2b : UInt8) :: (0xb4 : UInt8) :: (0x00 : UInt8) :: (0xd4 : UInt8) :: (0x1d : UInt8) :: dT_X8_claims_2
def dT_X8_claims_0 : List UInt8 := (0x2a : UInt8) :: (0xb6 : UInt8) :: (0x00 : UInt8) :: (0x89 : UInt8) :: (0x9a : UInt8) :: (0x00 : UInt8) :: (0x06 : UInt8) :: (0x10 : UInt8) :: (0xfe : UInt8) :: (0xac : UInt8) :: (0x2a : UInt8) :: (0xb6 : UInt8) :: (0x00 : UInt8) :: (0xd0 : UInt8) :: (0x4c : UInt8) :: (0x03 : UInt8) :: dT_X8_claims_1
theorem dT_X8_claims : cX8_claims.data.toList = dT_X8_claims_0 := eq_of_beq (show (cX8_claims.data.toList == dT_X8_claims_0) = true by decide +kernel)
theorem dQ_X8_claims_0 : dQ_P cX8_claims 0 dT_X8_claims_0 := fun i => by rw [dT_X8_claims]; rfl
theorem dQ_X8_claims_1 : dQ_P cX8_claims 16 dT_X8_claims_1 := fun i => (dQ_X8_claims_0 (i + 16)).trans dk_t
theorem dQ_X8_claims_2 : dQ_P cX8_claims 32 dT_X8_claims_2 := fun i => (dQ_X8_claims_1 (i + 16)).trans dk_t
theorem dQ_X8_claims_3 : dQ_P cX8_claims 48 dT_X8_claims_3 := fun i => (dQ_X8_claims_2 (i + 16)).trans dk_t
theorem dX8_claims_0 : decode cX8_claims 0 = .ok (.aload_n 0, 1) := dk_42 ((dQ_X8_claims_0 0).trans dk_j0)
theorem dX8_claims_1 : decode cX8_claims 1 = .ok (.invokevirtual 137, 3) := dk_182 ((dQ_X8_claims_0 1).trans dk_j1) ((dQ_X8_claims_0 2).trans dk_j2) ((dQ_X8_claims_0 3).trans dk_j3) dk_vu2_0_137
theorem dX8_claims_4 : decode cX8_claims 4 = .ok (.ifCond .ne 6, 3) := dk_154 ((dQ_X8_claims_0 4).trans dk_j4) ((dQ_X8_claims_0 5).trans dk_j5) ((dQ_X8_claims_0 6).trans dk_j6) dk_vs2_0_6
theorem dX8_claims_7 : decode cX8_claims 7 = .ok (.bipush (-2), 2) := dk_16 ((dQ_X8_claims_0 7).trans dk_j7) ((dQ_X8_claims_0 8).trans dk_j8) dk_vs1_254
theorem dX8_claims_9 : decode cX8_claims 9 = .ok (.ireturn, 1) := dk_172 ((dQ_X8_claims_0 9).trans dk_j9)
theorem dX8_claims_10 : decode cX8_claims 10 = .ok (.aload_n 0, 1) := dk_42 ((dQ_X8_claims_0 10).trans dk_j10)
theorem dX8_claims_11 : decode cX8_claims 11 = .ok (.invokevirtual 208, 3) := dk_182 ((dQ_X8_claims_0 11).trans dk_j11) ((dQ_X8_claims_0 12).trans dk_j12) ((dQ_X8_claims_0 13).trans dk_j13) dk_vu2_0_208
theorem dX8_claims_14 : decode cX8_claims 14 = .ok (.astore_n 1, 1) := dk_76 ((dQ_X8_claims_0 14).trans dk_j14)
theorem dX8_claims_15 : decode cX8_claims 15 = .ok (.iconst 0, 1) := dk_3 ((dQ_X8_claims_0 15).trans dk_j15)
theorem dX8_claims_16 : decode cX8_claims 16 = .ok (.istore_n 2, 1) := dk_61 ((dQ_X8_claims_1 0).trans dk_j0)
theorem dX8_claims_17 : decode cX8_claims 17 = .ok (.iconst 0, 1) := dk_3 ((dQ_X8_claims_1 1).trans dk_j1)
theorem dX8_claims_18 : decode cX8_claims 18 = .ok (.istore_n 3, 1) := dk_62 ((dQ_X8_claims_1 2).trans dk_j2)
theorem dX8_claims_19 : decode cX8_claims 19 = .ok (.iload_n 3, 1) := dk_29 ((dQ_X8_claims_1 3).trans dk_j3)
theorem dX8_claims_20 : decode cX8_claims 20 = .ok (.aload_n 1, 1) := dk_43 ((dQ_X8_claims_1 4).trans dk_j4)
theorem dX8_claims_21 : decode cX8_claims 21 = .ok (.getfield 218, 3) := dk_180 ((dQ_X8_claims_1 5).trans dk_j5) ((dQ_X8_claims_1 6).trans dk_j6) ((dQ_X8_claims_1 7).trans dk_j7) dk_vu2_0_218
theorem dX8_claims_24 : decode cX8_claims 24 = .ok (.if_icmp .ge 24, 3) := dk_162 ((dQ_X8_claims_1 8).trans dk_j8) ((dQ_X8_claims_1 9).trans dk_j9) ((dQ_X8_claims_1 10).trans dk_j10) dk_vs2_0_24
theorem dX8_claims_27 : decode cX8_claims 27 = .ok (.aload_n 1, 1) := dk_43 ((dQ_X8_claims_1 11).trans dk_j11)
theorem dX8_claims_28 : decode cX8_claims 28 = .ok (.getfield 212, 3) := dk_180 ((dQ_X8_claims_1 12).trans dk_j12) ((dQ_X8_claims_1 13).trans dk_j13) ((dQ_X8_claims_1 14).trans dk_j14) dk_vu2_0_212
theorem dX8_claims_31 : decode cX8_claims 31 = .ok (.iload_n 3, 1) := dk_29 ((dQ_X8_claims_1 15).trans dk_j15)
theorem dX8_claims_32 : decode cX8_claims 32 = .ok (.iaload, 1) := dk_46 ((dQ_X8_claims_2 0).trans dk_j0)
theorem dX8_claims_33 : decode cX8_claims 33 = .ok (.ifCond .le 9, 3) := dk_158 ((dQ_X8_claims_2 1).trans dk_j1) ((dQ_X8_claims_2 2).trans dk_j2) ((dQ_X8_claims_2 3).trans dk_j3) dk_vs2_0_9
theorem dX8_claims_36 : decode cX8_claims 36 = .ok (.iload_n 2, 1) := dk_28 ((dQ_X8_claims_2 4).trans dk_j4)
theorem dX8_claims_37 : decode cX8_claims 37 = .ok (.iconst 1, 1) := dk_4 ((dQ_X8_claims_2 5).trans dk_j5)
theorem dX8_claims_38 : decode cX8_claims 38 = .ok (.iload_n 3, 1) := dk_29 ((dQ_X8_claims_2 6).trans dk_j6)
theorem dX8_claims_39 : decode cX8_claims 39 = .ok (.ishl, 1) := dk_120 ((dQ_X8_claims_2 7).trans dk_j7)
theorem dX8_claims_40 : decode cX8_claims 40 = .ok (.ior, 1) := dk_128 ((dQ_X8_claims_2 8).trans dk_j8)
theorem dX8_claims_41 : decode cX8_claims 41 = .ok (.istore_n 2, 1) := dk_61 ((dQ_X8_claims_2 9).trans dk_j9)
theorem dX8_claims_42 : decode cX8_claims 42 = .ok (.iinc 3 1, 3) := dk_132 ((dQ_X8_claims_2 10).trans dk_j10) ((dQ_X8_claims_2 11).trans dk_j11) ((dQ_X8_claims_2 12).trans dk_j12) dk_vu1_3 dk_vs1_1
theorem dX8_claims_45 : decode cX8_claims 45 = .ok (.goto (-26), 3) := dk_167 ((dQ_X8_claims_2 13).trans dk_j13) ((dQ_X8_claims_2 14).trans dk_j14) ((dQ_X8_claims_2 15).trans dk_j15) dk_vs2_255_230
theorem dX8_claims_48 : decode cX8_claims 48 = .ok (.iload_n 2, 1) := dk_28 ((dQ_X8_claims_3 0).trans dk_j0)
theorem dX8_claims_49 : decode cX8_claims 49 = .ok (.ireturn, 1) := dk_172 ((dQ_X8_claims_3 1).trans dk_j1)
def dT_X8_profit_1 : List UInt8 := (0x07 : UInt8) :: (0xb6 : UInt8) :: (0x00 : UInt8) :: (0x75 : UInt8) :: (0x2a : UInt8) :: (0xb6 : UInt8) :: (0x00 : UInt8) :: (0xd0 : UInt8) :: (0xb4 : UInt8) :: (0x00 : UInt8) :: (0xd4 : UInt8) :: (0x1b : UInt8) :: (0x2e : UInt8) :: (0x64 : UInt8) :: (0xac : UInt8) :: []
def dT_X8_profit_0 : List UInt8 := (0x2a : UInt8) :: (0x1b : UInt8) :: (0xb6 : UInt8) :: (0x00 : UInt8) :: (0x72 : UInt8) :: (0x9a : UInt8) :: (0x00 : UInt8) :: (0x06 : UInt8) :: (0x12 : UInt8) :: (0xdd : UInt8) :: (0xac : UInt8) :: (0x2a : UInt8) :: (0xb4 : UInt8) :: (0x00 : UInt8) :: (0x0a : UInt8) :: (0x1b : UInt8) :: dT_X8_profit_1
theorem dT_X8_profit : cX8_profit.data.toList = dT_X8_profit_0 := eq_of_beq (show (cX8_profit.data.toList == dT_X8_profit_0) = true by decide +kernel)
theorem dQ_X8_profit_0 : dQ_P cX8_profit 0 dT_X8_profit_0 := fun i => by rw [dT_X8_profit]; rfl
theorem dQ_X8_profit_1 : dQ_P cX8_profit 16 dT_X8_profit_1 := fun i => (dQ_X8_profit_0 (i + 16)).trans dk_t
theorem dX8_profit_0 : decode cX8_profit 0 = .ok (.aload_n 0, 1) := dk_42 ((dQ_X8_profit_0 0).trans dk_j0)
theorem dX8_profit_1 : decode cX8_profit 1 = .ok (.iload_n 1, 1) := dk_27 ((dQ_X8_profit_0 1).trans dk_j1)
theorem dX8_profit_2 : decode cX8_profit 2 = .ok (.invokevirtual 114, 3) := dk_182 ((dQ_X8_profit_0 2).trans dk_j2) ((dQ_X8_profit_0 3).trans dk_j3) ((dQ_X8_profit_0 4).trans dk_j4) dk_vu2_0_114
theorem dX8_profit_5 : decode cX8_profit 5 = .ok (.ifCond .ne 6, 3) := dk_154 ((dQ_X8_profit_0 5).trans dk_j5) ((dQ_X8_profit_0 6).trans dk_j6) ((dQ_X8_profit_0 7).trans dk_j7) dk_vs2_0_6
theorem dk_vu1_221 : (0xdd : UInt8).toNat = (221 : Nat) := by decide +kernel
theorem dX8_profit_8 : decode cX8_profit 8 = .ok (.ldc 221, 2) := dk_18 ((dQ_X8_profit_0 8).trans dk_j8) ((dQ_X8_profit_0 9).trans dk_j9) dk_vu1_221
theorem dX8_profit_10 : decode cX8_profit 10 = .ok (.ireturn, 1) := dk_172 ((dQ_X8_profit_0 10).trans dk_j10)
theorem dX8_profit_11 : decode cX8_profit 11 = .ok (.aload_n 0, 1) := dk_42 ((dQ_X8_profit_0 11).trans dk_j11)
theorem dX8_profit_12 : decode cX8_profit 12 = .ok (.getfield 10, 3) := dk_180 ((dQ_X8_profit_0 12).trans dk_j12) ((dQ_X8_profit_0 13).trans dk_j13) ((dQ_X8_profit_0 14).trans dk_j14) dk_vu2_0_10
theorem dX8_profit_15 : decode cX8_profit 15 = .ok (.iload_n 1, 1) := dk_27 ((dQ_X8_profit_0 15).trans dk_j15)
theorem dX8_profit_16 : decode cX8_profit 16 = .ok (.iconst 4, 1) := dk_7 ((dQ_X8_profit_1 0).trans dk_j0)
theorem dX8_profit_17 : decode cX8_profit 17 = .ok (.invokevirtual 117, 3) := dk_182 ((dQ_X8_profit_1 1).trans dk_j1) ((dQ_X8_profit_1 2).trans dk_j2) ((dQ_X8_profit_1 3).trans dk_j3) dk_vu2_0_117
theorem dX8_profit_20 : decode cX8_profit 20 = .ok (.aload_n 0, 1) := dk_42 ((dQ_X8_profit_1 4).trans dk_j4)
theorem dX8_profit_21 : decode cX8_profit 21 = .ok (.invokevirtual 208, 3) := dk_182 ((dQ_X8_profit_1 5).trans dk_j5) ((dQ_X8_profit_1 6).trans dk_j6) ((dQ_X8_profit_1 7).trans dk_j7) dk_vu2_0_208
theorem dX8_profit_24 : decode cX8_profit 24 = .ok (.getfield 212, 3) := dk_180 ((dQ_X8_profit_1 8).trans dk_j8) ((dQ_X8_profit_1 9).trans dk_j9) ((dQ_X8_profit_1 10).trans dk_j10) dk_vu2_0_212
theorem dX8_profit_27 : decode cX8_profit 27 = .ok (.iload_n 1, 1) := dk_27 ((dQ_X8_profit_1 11).trans dk_j11)
theorem dX8_profit_28 : decode cX8_profit 28 = .ok (.iaload, 1) := dk_46 ((dQ_X8_profit_1 12).trans dk_j12)
theorem dX8_profit_29 : decode cX8_profit 29 = .ok (.isub, 1) := dk_100 ((dQ_X8_profit_1 13).trans dk_j13)
theorem dX8_profit_30 : decode cX8_profit 30 = .ok (.ireturn, 1) := dk_172 ((dQ_X8_profit_1 14).trans dk_j14)
def dT_X8_money_1 : List UInt8 := (0xa7 : UInt8) :: (0x00 : UInt8) :: (0x05 : UInt8) :: (0x12 : UInt8) :: (0xdd : UInt8) :: (0xac : UInt8) :: []
def dT_X8_money_0 : List UInt8 := (0x2a : UInt8) :: (0x1b : UInt8) :: (0xb6 : UInt8) :: (0x00 : UInt8) :: (0x7d : UInt8) :: (0x99 : UInt8) :: (0x00 : UInt8) :: (0x0e : UInt8) :: (0x2a : UInt8) :: (0xb6 : UInt8) :: (0x00 : UInt8) :: (0xd0 : UInt8) :: (0x1b : UInt8) :: (0xb6 : UInt8) :: (0x00 : UInt8) :: (0xde : UInt8) :: dT_X8_money_1
theorem dT_X8_money : cX8_money.data.toList = dT_X8_money_0 := eq_of_beq (show (cX8_money.data.toList == dT_X8_money_0) = true by decide +kernel)
theorem dQ_X8_money_0 : dQ_P cX8_money 0 dT_X8_money_0 := fun i => by rw [dT_X8_money]; rfl
theorem dQ_X8_money_1 : dQ_P cX8_money 16 dT_X8_money_1 := fun i => (dQ_X8_money_0 (i + 16)).trans dk_t
theorem dX8_money_0 : decode cX8_money 0 = .ok (.aload_n 0, 1) := dk_42 ((dQ_X8_money_0 0).trans dk_j0)
theorem dX8_money_1 : decode cX8_money 1 = .ok (.iload_n 1, 1) := dk_27 ((dQ_X8_money_0 1).trans dk_j1)
theorem dX8_money_2 : decode cX8_money 2 = .ok (.invokevirtual 125, 3) := dk_182 ((dQ_X8_money_0 2).trans dk_j2) ((dQ_X8_money_0 3).trans dk_j3) ((dQ_X8_money_0 4).trans dk_j4) dk_vu2_0_125
theorem dX8_money_5 : decode cX8_money 5 = .ok (.ifCond .eq 14, 3) := dk_153 ((dQ_X8_money_0 5).trans dk_j5) ((dQ_X8_money_0 6).trans dk_j6) ((dQ_X8_money_0 7).trans dk_j7) dk_vs2_0_14
theorem dX8_money_8 : decode cX8_money 8 = .ok (.aload_n 0, 1) := dk_42 ((dQ_X8_money_0 8).trans dk_j8)
theorem dX8_money_9 : decode cX8_money 9 = .ok (.invokevirtual 208, 3) := dk_182 ((dQ_X8_money_0 9).trans dk_j9) ((dQ_X8_money_0 10).trans dk_j10) ((dQ_X8_money_0 11).trans dk_j11) dk_vu2_0_208
theorem dX8_money_12 : decode cX8_money 12 = .ok (.iload_n 1, 1) := dk_27 ((dQ_X8_money_0 12).trans dk_j12)
theorem dk_vu2_0_222 : (0x00 : UInt8).toNat * 256 + (0xde : UInt8).toNat = (222 : Nat) := by decide +kernel
theorem dX8_money_13 : decode cX8_money 13 = .ok (.invokevirtual 222, 3) := dk_182 ((dQ_X8_money_0 13).trans dk_j13) ((dQ_X8_money_0 14).trans dk_j14) ((dQ_X8_money_0 15).trans dk_j15) dk_vu2_0_222
theorem dX8_money_16 : decode cX8_money 16 = .ok (.goto 5, 3) := dk_167 ((dQ_X8_money_1 0).trans dk_j0) ((dQ_X8_money_1 1).trans dk_j1) ((dQ_X8_money_1 2).trans dk_j2) dk_vs2_0_5
theorem dX8_money_19 : decode cX8_money 19 = .ok (.ldc 221, 2) := dk_18 ((dQ_X8_money_1 3).trans dk_j3) ((dQ_X8_money_1 4).trans dk_j4) dk_vu1_221
theorem dX8_money_21 : decode cX8_money 21 = .ok (.ireturn, 1) := dk_172 ((dQ_X8_money_1 5).trans dk_j5)
def dT_X8_lowest_1 : List UInt8 := (0x00 : UInt8) :: (0x97 : UInt8) :: (0xb6 : UInt8) :: (0x00 : UInt8) :: (0xe1 : UInt8) :: (0xa7 : UInt8) :: (0x00 : UInt8) :: (0x05 : UInt8) :: (0x10 : UInt8) :: (0xfe : UInt8) :: (0xac : UInt8) :: []
def dT_X8_lowest_0 : List UInt8 := (0x2a : UInt8) :: (0xb6 : UInt8) :: (0x00 : UInt8) :: (0x89 : UInt8) :: (0x99 : UInt8) :: (0x00 : UInt8) :: (0x14 : UInt8) :: (0x2a : UInt8) :: (0xb6 : UInt8) :: (0x00 : UInt8) :: (0xd0 : UInt8) :: (0x2a : UInt8) :: (0xb4 : UInt8) :: (0x00 : UInt8) :: (0x2c : UInt8) :: (0xb4 : UInt8) :: dT_X8_lowest_1
theorem dT_X8_lowest : cX8_lowest.data.toList = dT_X8_lowest_0 := eq_of_beq (show (cX8_lowest.data.toList == dT_X8_lowest_0) = true by decide +kernel)
theorem dQ_X8_lowest_0 : dQ_P cX8_lowest 0 dT_X8_lowest_0 := fun i => by rw [dT_X8_lowest]; rfl
theorem dQ_X8_lowest_1 : dQ_P cX8_lowest 16 dT_X8_lowest_1 := fun i => (dQ_X8_lowest_0 (i + 16)).trans dk_t
theorem dX8_lowest_0 : decode cX8_lowest 0 = .ok (.aload_n 0, 1) := dk_42 ((dQ_X8_lowest_0 0).trans dk_j0)
theorem dX8_lowest_1 : decode cX8_lowest 1 = .ok (.invokevirtual 137, 3) := dk_182 ((dQ_X8_lowest_0 1).trans dk_j1) ((dQ_X8_lowest_0 2).trans dk_j2) ((dQ_X8_lowest_0 3).trans dk_j3) dk_vu2_0_137
theorem dX8_lowest_4 : decode cX8_lowest 4 = .ok (.ifCond .eq 20, 3) := dk_153 ((dQ_X8_lowest_0 4).trans dk_j4) ((dQ_X8_lowest_0 5).trans dk_j5) ((dQ_X8_lowest_0 6).trans dk_j6) dk_vs2_0_20
theorem dX8_lowest_7 : decode cX8_lowest 7 = .ok (.aload_n 0, 1) := dk_42 ((dQ_X8_lowest_0 7).trans dk_j7)
theorem dX8_lowest_8 : decode cX8_lowest 8 = .ok (.invokevirtual 208, 3) := dk_182 ((dQ_X8_lowest_0 8).trans dk_j8) ((dQ_X8_lowest_0 9).trans dk_j9) ((dQ_X8_lowest_0 10).trans dk_j10) dk_vu2_0_208
theorem dX8_lowest_11 : decode cX8_lowest 11 = .ok (.aload_n 0, 1) := dk_42 ((dQ_X8_lowest_0 11).trans dk_j11)
theorem dX8_lowest_12 : decode cX8_lowest 12 = .ok (.getfield 44, 3) := dk_180 ((dQ_X8_lowest_0 12).trans dk_j12) ((dQ_X8_lowest_0 13).trans dk_j13) ((dQ_X8_lowest_0 14).trans dk_j14) dk_vu2_0_44
theorem dX8_lowest_15 : decode cX8_lowest 15 = .ok (.getfield 151, 3) := dk_180 ((dQ_X8_lowest_0 15).trans dk_j15) ((dQ_X8_lowest_1 0).trans dk_j0) ((dQ_X8_lowest_1 1).trans dk_j1) dk_vu2_0_151
theorem dk_vu2_0_225 : (0x00 : UInt8).toNat * 256 + (0xe1 : UInt8).toNat = (225 : Nat) := by decide +kernel
theorem dX8_lowest_18 : decode cX8_lowest 18 = .ok (.invokevirtual 225, 3) := dk_182 ((dQ_X8_lowest_1 2).trans dk_j2) ((dQ_X8_lowest_1 3).trans dk_j3) ((dQ_X8_lowest_1 4).trans dk_j4) dk_vu2_0_225
theorem dX8_lowest_21 : decode cX8_lowest 21 = .ok (.goto 5, 3) := dk_167 ((dQ_X8_lowest_1 5).trans dk_j5) ((dQ_X8_lowest_1 6).trans dk_j6) ((dQ_X8_lowest_1 7).trans dk_j7) dk_vs2_0_5
theorem dX8_lowest_24 : decode cX8_lowest 24 = .ok (.bipush (-2), 2) := dk_16 ((dQ_X8_lowest_1 8).trans dk_j8) ((dQ_X8_lowest_1 9).trans dk_j9) dk_vs1_254
theorem dX8_lowest_26 : decode cX8_lowest 26 = .ok (.ireturn, 1) := dk_172 ((dQ_X8_lowest_1 10).trans dk_j10)
def dT_X8_ruin_1 : List UInt8 := (0x00 : UInt8) :: (0x97 : UInt8) :: (0xb6 : UInt8) :: (0x00 : UInt8) :: (0xe4 : UInt8) :: (0xa7 : UInt8) :: (0x00 : UInt8) :: (0x05 : UInt8) :: (0x10 : UInt8) :: (0xfe : UInt8) :: (0xac : UInt8) :: []
def dT_X8_ruin_0 : List UInt8 := (0x2a : UInt8) :: (0xb6 : UInt8) :: (0x00 : UInt8) :: (0x89 : UInt8) :: (0x99 : UInt8) :: (0x00 : UInt8) :: (0x14 : UInt8) :: (0x2a : UInt8) :: (0xb6 : UInt8) :: (0x00 : UInt8) :: (0xd0 : UInt8) :: (0x2a : UInt8) :: (0xb4 : UInt8) :: (0x00 : UInt8) :: (0x2c : UInt8) :: (0xb4 : UInt8) :: dT_X8_ruin_1
theorem dT_X8_ruin : cX8_ruin.data.toList = dT_X8_ruin_0 := eq_of_beq (show (cX8_ruin.data.toList == dT_X8_ruin_0) = true by decide +kernel)
theorem dQ_X8_ruin_0 : dQ_P cX8_ruin 0 dT_X8_ruin_0 := fun i => by rw [dT_X8_ruin]; rfl
theorem dQ_X8_ruin_1 : dQ_P cX8_ruin 16 dT_X8_ruin_1 := fun i => (dQ_X8_ruin_0 (i + 16)).trans dk_t
theorem dX8_ruin_0 : decode cX8_ruin 0 = .ok (.aload_n 0, 1) := dk_42 ((dQ_X8_ruin_0 0).trans dk_j0)
theorem dX8_ruin_1 : decode cX8_ruin 1 = .ok (.invokevirtual 137, 3) := dk_182 ((dQ_X8_ruin_0 1).trans dk_j1) ((dQ_X8_ruin_0 2).trans dk_j2) ((dQ_X8_ruin_0 3).trans dk_j3) dk_vu2_0_137
theorem dX8_ruin_4 : decode cX8_ruin 4 = .ok (.ifCond .eq 20, 3) := dk_153 ((dQ_X8_ruin_0 4).trans dk_j4) ((dQ_X8_ruin_0 5).trans dk_j5) ((dQ_X8_ruin_0 6).trans dk_j6) dk_vs2_0_20
theorem dX8_ruin_7 : decode cX8_ruin 7 = .ok (.aload_n 0, 1) := dk_42 ((dQ_X8_ruin_0 7).trans dk_j7)
theorem dX8_ruin_8 : decode cX8_ruin 8 = .ok (.invokevirtual 208, 3) := dk_182 ((dQ_X8_ruin_0 8).trans dk_j8) ((dQ_X8_ruin_0 9).trans dk_j9) ((dQ_X8_ruin_0 10).trans dk_j10) dk_vu2_0_208
theorem dX8_ruin_11 : decode cX8_ruin 11 = .ok (.aload_n 0, 1) := dk_42 ((dQ_X8_ruin_0 11).trans dk_j11)
theorem dX8_ruin_12 : decode cX8_ruin 12 = .ok (.getfield 44, 3) := dk_180 ((dQ_X8_ruin_0 12).trans dk_j12) ((dQ_X8_ruin_0 13).trans dk_j13) ((dQ_X8_ruin_0 14).trans dk_j14) dk_vu2_0_44
theorem dX8_ruin_15 : decode cX8_ruin 15 = .ok (.getfield 151, 3) := dk_180 ((dQ_X8_ruin_0 15).trans dk_j15) ((dQ_X8_ruin_1 0).trans dk_j0) ((dQ_X8_ruin_1 1).trans dk_j1) dk_vu2_0_151
theorem dX8_ruin_18 : decode cX8_ruin 18 = .ok (.invokevirtual 228, 3) := dk_182 ((dQ_X8_ruin_1 2).trans dk_j2) ((dQ_X8_ruin_1 3).trans dk_j3) ((dQ_X8_ruin_1 4).trans dk_j4) dk_vu2_0_228
theorem dX8_ruin_21 : decode cX8_ruin 21 = .ok (.goto 5, 3) := dk_167 ((dQ_X8_ruin_1 5).trans dk_j5) ((dQ_X8_ruin_1 6).trans dk_j6) ((dQ_X8_ruin_1 7).trans dk_j7) dk_vs2_0_5
theorem dX8_ruin_24 : decode cX8_ruin 24 = .ok (.bipush (-2), 2) := dk_16 ((dQ_X8_ruin_1 8).trans dk_j8) ((dQ_X8_ruin_1 9).trans dk_j9) dk_vs1_254
theorem dX8_ruin_26 : decode cX8_ruin 26 = .ok (.ireturn, 1) := dk_172 ((dQ_X8_ruin_1 10).trans dk_j10)
def dT_X8_dear_4 : List UInt8 := (0x04 : UInt8) :: (0x01 : UInt8) :: (0xa7 : UInt8) :: (0xff : UInt8) :: (0xd4 : UInt8) :: (0x1c : UInt8) :: (0xac : UInt8) :: []
def dT_X8_dear_3 : List UInt8 := (0x64 : UInt8) :: (0x36 : UInt8) :: (0x05 : UInt8) :: (0x15 : UInt8) :: (0x05 : UInt8) :: (0x1d : UInt8) :: (0xa4 : UInt8) :: (0x00 : UInt8) :: (0x09 : UInt8) :: (0x15 : UInt8) :: (0x05 : UInt8) :: (0x3e : UInt8) :: (0x15 : UInt8) :: (0x04 : UInt8) :: (0x3d : UInt8) :: (0x84 : UInt8) :: dT_X8_dear_4
def dT_X8_dear_2 : List UInt8 := (0xb4 : UInt8) :: (0x00 : UInt8) :: (0xd4 : UInt8) :: (0x15 : UInt8) :: (0x04 : UInt8) :: (0x2e : UInt8) :: (0x2a : UInt8) :: (0xb4 : UInt8) :: (0x00 : UInt8) :: (0x0a : UInt8) :: (0x15 : UInt8) :: (0x04 : UInt8) :: (0x07 : UInt8) :: (0xb6 : UInt8) :: (0x00 : UInt8) :: (0x75 : UInt8) :: dT_X8_dear_3
def dT_X8_dear_1 : List UInt8 := (0x3d : UInt8) :: (0x03 : UInt8) :: (0x3e : UInt8) :: (0x03 : UInt8) :: (0x36 : UInt8) :: (0x04 : UInt8) :: (0x15 : UInt8) :: (0x04 : UInt8) :: (0x2b : UInt8) :: (0xb4 : UInt8) :: (0x00 : UInt8) :: (0xda : UInt8) :: (0xa2 : UInt8) :: (0x00 : UInt8) :: (0x29 : UInt8) :: (0x2b : UInt8) :: dT_X8_dear_2
def dT_X8_dear_0 : List UInt8 := (0x2a : UInt8) :: (0xb6 : UInt8) :: (0x00 : UInt8) :: (0x89 : UInt8) :: (0x9a : UInt8) :: (0x00 : UInt8) :: (0x06 : UInt8) :: (0x10 : UInt8) :: (0xfe : UInt8) :: (0xac : UInt8) :: (0x2a : UInt8) :: (0xb6 : UInt8) :: (0x00 : UInt8) :: (0xd0 : UInt8) :: (0x4c : UInt8) :: (0x02 : UInt8) :: dT_X8_dear_1
theorem dT_X8_dear : cX8_dear.data.toList = dT_X8_dear_0 := eq_of_beq (show (cX8_dear.data.toList == dT_X8_dear_0) = true by decide +kernel)
theorem dQ_X8_dear_0 : dQ_P cX8_dear 0 dT_X8_dear_0 := fun i => by rw [dT_X8_dear]; rfl
theorem dQ_X8_dear_1 : dQ_P cX8_dear 16 dT_X8_dear_1 := fun i => (dQ_X8_dear_0 (i + 16)).trans dk_t
theorem dQ_X8_dear_2 : dQ_P cX8_dear 32 dT_X8_dear_2 := fun i => (dQ_X8_dear_1 (i + 16)).trans dk_t
theorem dQ_X8_dear_3 : dQ_P cX8_dear 48 dT_X8_dear_3 := fun i => (dQ_X8_dear_2 (i + 16)).trans dk_t
theorem dQ_X8_dear_4 : dQ_P cX8_dear 64 dT_X8_dear_4 := fun i => (dQ_X8_dear_3 (i + 16)).trans dk_t
theorem dX8_dear_0 : decode cX8_dear 0 = .ok (.aload_n 0, 1) := dk_42 ((dQ_X8_dear_0 0).trans dk_j0)
theorem dX8_dear_1 : decode cX8_dear 1 = .ok (.invokevirtual 137, 3) := dk_182 ((dQ_X8_dear_0 1).trans dk_j1) ((dQ_X8_dear_0 2).trans dk_j2) ((dQ_X8_dear_0 3).trans dk_j3) dk_vu2_0_137
theorem dX8_dear_4 : decode cX8_dear 4 = .ok (.ifCond .ne 6, 3) := dk_154 ((dQ_X8_dear_0 4).trans dk_j4) ((dQ_X8_dear_0 5).trans dk_j5) ((dQ_X8_dear_0 6).trans dk_j6) dk_vs2_0_6
theorem dX8_dear_7 : decode cX8_dear 7 = .ok (.bipush (-2), 2) := dk_16 ((dQ_X8_dear_0 7).trans dk_j7) ((dQ_X8_dear_0 8).trans dk_j8) dk_vs1_254
theorem dX8_dear_9 : decode cX8_dear 9 = .ok (.ireturn, 1) := dk_172 ((dQ_X8_dear_0 9).trans dk_j9)
theorem dX8_dear_10 : decode cX8_dear 10 = .ok (.aload_n 0, 1) := dk_42 ((dQ_X8_dear_0 10).trans dk_j10)
theorem dX8_dear_11 : decode cX8_dear 11 = .ok (.invokevirtual 208, 3) := dk_182 ((dQ_X8_dear_0 11).trans dk_j11) ((dQ_X8_dear_0 12).trans dk_j12) ((dQ_X8_dear_0 13).trans dk_j13) dk_vu2_0_208
theorem dX8_dear_14 : decode cX8_dear 14 = .ok (.astore_n 1, 1) := dk_76 ((dQ_X8_dear_0 14).trans dk_j14)
theorem dX8_dear_15 : decode cX8_dear 15 = .ok (.iconst (-1), 1) := dk_2 ((dQ_X8_dear_0 15).trans dk_j15)
theorem dX8_dear_16 : decode cX8_dear 16 = .ok (.istore_n 2, 1) := dk_61 ((dQ_X8_dear_1 0).trans dk_j0)
theorem dX8_dear_17 : decode cX8_dear 17 = .ok (.iconst 0, 1) := dk_3 ((dQ_X8_dear_1 1).trans dk_j1)
theorem dX8_dear_18 : decode cX8_dear 18 = .ok (.istore_n 3, 1) := dk_62 ((dQ_X8_dear_1 2).trans dk_j2)
theorem dX8_dear_19 : decode cX8_dear 19 = .ok (.iconst 0, 1) := dk_3 ((dQ_X8_dear_1 3).trans dk_j3)
theorem dX8_dear_20 : decode cX8_dear 20 = .ok (.istore 4, 2) := dk_54 ((dQ_X8_dear_1 4).trans dk_j4) ((dQ_X8_dear_1 5).trans dk_j5) dk_vu1_4
theorem dX8_dear_22 : decode cX8_dear 22 = .ok (.iload 4, 2) := dk_21 ((dQ_X8_dear_1 6).trans dk_j6) ((dQ_X8_dear_1 7).trans dk_j7) dk_vu1_4
theorem dX8_dear_24 : decode cX8_dear 24 = .ok (.aload_n 1, 1) := dk_43 ((dQ_X8_dear_1 8).trans dk_j8)
theorem dX8_dear_25 : decode cX8_dear 25 = .ok (.getfield 218, 3) := dk_180 ((dQ_X8_dear_1 9).trans dk_j9) ((dQ_X8_dear_1 10).trans dk_j10) ((dQ_X8_dear_1 11).trans dk_j11) dk_vu2_0_218
theorem dX8_dear_28 : decode cX8_dear 28 = .ok (.if_icmp .ge 41, 3) := dk_162 ((dQ_X8_dear_1 12).trans dk_j12) ((dQ_X8_dear_1 13).trans dk_j13) ((dQ_X8_dear_1 14).trans dk_j14) dk_vs2_0_41
theorem dX8_dear_31 : decode cX8_dear 31 = .ok (.aload_n 1, 1) := dk_43 ((dQ_X8_dear_1 15).trans dk_j15)
theorem dX8_dear_32 : decode cX8_dear 32 = .ok (.getfield 212, 3) := dk_180 ((dQ_X8_dear_2 0).trans dk_j0) ((dQ_X8_dear_2 1).trans dk_j1) ((dQ_X8_dear_2 2).trans dk_j2) dk_vu2_0_212
theorem dX8_dear_35 : decode cX8_dear 35 = .ok (.iload 4, 2) := dk_21 ((dQ_X8_dear_2 3).trans dk_j3) ((dQ_X8_dear_2 4).trans dk_j4) dk_vu1_4
theorem dX8_dear_37 : decode cX8_dear 37 = .ok (.iaload, 1) := dk_46 ((dQ_X8_dear_2 5).trans dk_j5)
theorem dX8_dear_38 : decode cX8_dear 38 = .ok (.aload_n 0, 1) := dk_42 ((dQ_X8_dear_2 6).trans dk_j6)
theorem dX8_dear_39 : decode cX8_dear 39 = .ok (.getfield 10, 3) := dk_180 ((dQ_X8_dear_2 7).trans dk_j7) ((dQ_X8_dear_2 8).trans dk_j8) ((dQ_X8_dear_2 9).trans dk_j9) dk_vu2_0_10
theorem dX8_dear_42 : decode cX8_dear 42 = .ok (.iload 4, 2) := dk_21 ((dQ_X8_dear_2 10).trans dk_j10) ((dQ_X8_dear_2 11).trans dk_j11) dk_vu1_4
theorem dX8_dear_44 : decode cX8_dear 44 = .ok (.iconst 4, 1) := dk_7 ((dQ_X8_dear_2 12).trans dk_j12)
theorem dX8_dear_45 : decode cX8_dear 45 = .ok (.invokevirtual 117, 3) := dk_182 ((dQ_X8_dear_2 13).trans dk_j13) ((dQ_X8_dear_2 14).trans dk_j14) ((dQ_X8_dear_2 15).trans dk_j15) dk_vu2_0_117
theorem dX8_dear_48 : decode cX8_dear 48 = .ok (.isub, 1) := dk_100 ((dQ_X8_dear_3 0).trans dk_j0)
theorem dX8_dear_49 : decode cX8_dear 49 = .ok (.istore 5, 2) := dk_54 ((dQ_X8_dear_3 1).trans dk_j1) ((dQ_X8_dear_3 2).trans dk_j2) dk_vu1_5
theorem dX8_dear_51 : decode cX8_dear 51 = .ok (.iload 5, 2) := dk_21 ((dQ_X8_dear_3 3).trans dk_j3) ((dQ_X8_dear_3 4).trans dk_j4) dk_vu1_5
theorem dX8_dear_53 : decode cX8_dear 53 = .ok (.iload_n 3, 1) := dk_29 ((dQ_X8_dear_3 5).trans dk_j5)
theorem dX8_dear_54 : decode cX8_dear 54 = .ok (.if_icmp .le 9, 3) := dk_164 ((dQ_X8_dear_3 6).trans dk_j6) ((dQ_X8_dear_3 7).trans dk_j7) ((dQ_X8_dear_3 8).trans dk_j8) dk_vs2_0_9
theorem dX8_dear_57 : decode cX8_dear 57 = .ok (.iload 5, 2) := dk_21 ((dQ_X8_dear_3 9).trans dk_j9) ((dQ_X8_dear_3 10).trans dk_j10) dk_vu1_5
theorem dX8_dear_59 : decode cX8_dear 59 = .ok (.istore_n 3, 1) := dk_62 ((dQ_X8_dear_3 11).trans dk_j11)
theorem dX8_dear_60 : decode cX8_dear 60 = .ok (.iload 4, 2) := dk_21 ((dQ_X8_dear_3 12).trans dk_j12) ((dQ_X8_dear_3 13).trans dk_j13) dk_vu1_4
theorem dX8_dear_62 : decode cX8_dear 62 = .ok (.istore_n 2, 1) := dk_61 ((dQ_X8_dear_3 14).trans dk_j14)
theorem dX8_dear_63 : decode cX8_dear 63 = .ok (.iinc 4 1, 3) := dk_132 ((dQ_X8_dear_3 15).trans dk_j15) ((dQ_X8_dear_4 0).trans dk_j0) ((dQ_X8_dear_4 1).trans dk_j1) dk_vu1_4 dk_vs1_1
theorem dX8_dear_66 : decode cX8_dear 66 = .ok (.goto (-44), 3) := dk_167 ((dQ_X8_dear_4 2).trans dk_j2) ((dQ_X8_dear_4 3).trans dk_j3) ((dQ_X8_dear_4 4).trans dk_j4) dk_vs2_255_212
theorem dX8_dear_69 : decode cX8_dear 69 = .ok (.iload_n 2, 1) := dk_28 ((dQ_X8_dear_4 5).trans dk_j5)
theorem dX8_dear_70 : decode cX8_dear 70 = .ok (.ireturn, 1) := dk_172 ((dQ_X8_dear_4 6).trans dk_j6)
def dT_X8_reserve_3 : List UInt8 := (0x00 : UInt8) :: (0x07 : UInt8) :: (0x02 : UInt8) :: (0xa7 : UInt8) :: (0x00 : UInt8) :: (0x04 : UInt8) :: (0x1c : UInt8) :: (0xac : UInt8) :: []
def dT_X8_reserve_2 : List UInt8 := (0xb6 : UInt8) :: (0x00 : UInt8) :: (0xde : UInt8) :: (0x64 : UInt8) :: (0x3c : UInt8) :: (0x03 : UInt8) :: (0x1b : UInt8) :: (0xb8 : UInt8) :: (0x00 : UInt8) :: (0x9a : UInt8) :: (0x3d : UInt8) :: (0x1c : UInt8) :: (0x11 : UInt8) :: (0x03 : UInt8) :: (0xe7 : UInt8) :: (0xa4 : UInt8) :: dT_X8_reserve_3
def dT_X8_reserve_1 : List UInt8 := (0x64 : UInt8) :: (0x06 : UInt8) :: (0x2e : UInt8) :: (0x2a : UInt8) :: (0xb6 : UInt8) :: (0x00 : UInt8) :: (0xd0 : UInt8) :: (0x2a : UInt8) :: (0xb4 : UInt8) :: (0x00 : UInt8) :: (0x2c : UInt8) :: (0xb4 : UInt8) :: (0x00 : UInt8) :: (0x97 : UInt8) :: (0x04 : UInt8) :: (0x64 : UInt8) :: dT_X8_reserve_2
def dT_X8_reserve_0 : List UInt8 := (0x2a : UInt8) :: (0xb6 : UInt8) :: (0x00 : UInt8) :: (0x89 : UInt8) :: (0x9a : UInt8) :: (0x00 : UInt8) :: (0x06 : UInt8) :: (0x10 : UInt8) :: (0xfe : UInt8) :: (0xac : UInt8) :: (0x2a : UInt8) :: (0xb4 : UInt8) :: (0x00 : UInt8) :: (0x0a : UInt8) :: (0xb4 : UInt8) :: (0x00 : UInt8) :: dT_X8_reserve_1
theorem dT_X8_reserve : cX8_reserve.data.toList = dT_X8_reserve_0 := eq_of_beq (show (cX8_reserve.data.toList == dT_X8_reserve_0) = true by decide +kernel)
theorem dQ_X8_reserve_0 : dQ_P cX8_reserve 0 dT_X8_reserve_0 := fun i => by rw [dT_X8_reserve]; rfl
theorem dQ_X8_reserve_1 : dQ_P cX8_reserve 16 dT_X8_reserve_1 := fun i => (dQ_X8_reserve_0 (i + 16)).trans dk_t
theorem dQ_X8_reserve_2 : dQ_P cX8_reserve 32 dT_X8_reserve_2 := fun i => (dQ_X8_reserve_1 (i + 16)).trans dk_t
theorem dQ_X8_reserve_3 : dQ_P cX8_reserve 48 dT_X8_reserve_3 := fun i => (dQ_X8_reserve_2 (i + 16)).trans dk_t
theorem dX8_reserve_0 : decode cX8_reserve 0 = .ok (.aload_n 0, 1) := dk_42 ((dQ_X8_reserve_0 0).trans dk_j0)
theorem dX8_reserve_1 : decode cX8_reserve 1 = .ok (.invokevirtual 137, 3) := dk_182 ((dQ_X8_reserve_0 1).trans dk_j1) ((dQ_X8_reserve_0 2).trans dk_j2) ((dQ_X8_reserve_0 3).trans dk_j3) dk_vu2_0_137
theorem dX8_reserve_4 : decode cX8_reserve 4 = .ok (.ifCond .ne 6, 3) := dk_154 ((dQ_X8_reserve_0 4).trans dk_j4) ((dQ_X8_reserve_0 5).trans dk_j5) ((dQ_X8_reserve_0 6).trans dk_j6) dk_vs2_0_6
theorem dX8_reserve_7 : decode cX8_reserve 7 = .ok (.bipush (-2), 2) := dk_16 ((dQ_X8_reserve_0 7).trans dk_j7) ((dQ_X8_reserve_0 8).trans dk_j8) dk_vs1_254
theorem dX8_reserve_9 : decode cX8_reserve 9 = .ok (.ireturn, 1) := dk_172 ((dQ_X8_reserve_0 9).trans dk_j9)
theorem dX8_reserve_10 : decode cX8_reserve 10 = .ok (.aload_n 0, 1) := dk_42 ((dQ_X8_reserve_0 10).trans dk_j10)
theorem dX8_reserve_11 : decode cX8_reserve 11 = .ok (.getfield 10, 3) := dk_180 ((dQ_X8_reserve_0 11).trans dk_j11) ((dQ_X8_reserve_0 12).trans dk_j12) ((dQ_X8_reserve_0 13).trans dk_j13) dk_vu2_0_10
theorem dX8_reserve_14 : decode cX8_reserve 14 = .ok (.getfield 100, 3) := dk_180 ((dQ_X8_reserve_0 14).trans dk_j14) ((dQ_X8_reserve_0 15).trans dk_j15) ((dQ_X8_reserve_1 0).trans dk_j0) dk_vu2_0_100
theorem dX8_reserve_17 : decode cX8_reserve 17 = .ok (.iconst 3, 1) := dk_6 ((dQ_X8_reserve_1 1).trans dk_j1)
theorem dX8_reserve_18 : decode cX8_reserve 18 = .ok (.iaload, 1) := dk_46 ((dQ_X8_reserve_1 2).trans dk_j2)
theorem dX8_reserve_19 : decode cX8_reserve 19 = .ok (.aload_n 0, 1) := dk_42 ((dQ_X8_reserve_1 3).trans dk_j3)
theorem dX8_reserve_20 : decode cX8_reserve 20 = .ok (.invokevirtual 208, 3) := dk_182 ((dQ_X8_reserve_1 4).trans dk_j4) ((dQ_X8_reserve_1 5).trans dk_j5) ((dQ_X8_reserve_1 6).trans dk_j6) dk_vu2_0_208
theorem dX8_reserve_23 : decode cX8_reserve 23 = .ok (.aload_n 0, 1) := dk_42 ((dQ_X8_reserve_1 7).trans dk_j7)
theorem dX8_reserve_24 : decode cX8_reserve 24 = .ok (.getfield 44, 3) := dk_180 ((dQ_X8_reserve_1 8).trans dk_j8) ((dQ_X8_reserve_1 9).trans dk_j9) ((dQ_X8_reserve_1 10).trans dk_j10) dk_vu2_0_44
theorem dX8_reserve_27 : decode cX8_reserve 27 = .ok (.getfield 151, 3) := dk_180 ((dQ_X8_reserve_1 11).trans dk_j11) ((dQ_X8_reserve_1 12).trans dk_j12) ((dQ_X8_reserve_1 13).trans dk_j13) dk_vu2_0_151
theorem dX8_reserve_30 : decode cX8_reserve 30 = .ok (.iconst 1, 1) := dk_4 ((dQ_X8_reserve_1 14).trans dk_j14)
theorem dX8_reserve_31 : decode cX8_reserve 31 = .ok (.isub, 1) := dk_100 ((dQ_X8_reserve_1 15).trans dk_j15)
theorem dX8_reserve_32 : decode cX8_reserve 32 = .ok (.invokevirtual 222, 3) := dk_182 ((dQ_X8_reserve_2 0).trans dk_j0) ((dQ_X8_reserve_2 1).trans dk_j1) ((dQ_X8_reserve_2 2).trans dk_j2) dk_vu2_0_222
theorem dX8_reserve_35 : decode cX8_reserve 35 = .ok (.isub, 1) := dk_100 ((dQ_X8_reserve_2 3).trans dk_j3)
theorem dX8_reserve_36 : decode cX8_reserve 36 = .ok (.istore_n 1, 1) := dk_60 ((dQ_X8_reserve_2 4).trans dk_j4)
theorem dX8_reserve_37 : decode cX8_reserve 37 = .ok (.iconst 0, 1) := dk_3 ((dQ_X8_reserve_2 5).trans dk_j5)
theorem dX8_reserve_38 : decode cX8_reserve 38 = .ok (.iload_n 1, 1) := dk_27 ((dQ_X8_reserve_2 6).trans dk_j6)
theorem dX8_reserve_39 : decode cX8_reserve 39 = .ok (.invokestatic 154, 3) := dk_184 ((dQ_X8_reserve_2 7).trans dk_j7) ((dQ_X8_reserve_2 8).trans dk_j8) ((dQ_X8_reserve_2 9).trans dk_j9) dk_vu2_0_154
theorem dX8_reserve_42 : decode cX8_reserve 42 = .ok (.istore_n 2, 1) := dk_61 ((dQ_X8_reserve_2 10).trans dk_j10)
theorem dX8_reserve_43 : decode cX8_reserve 43 = .ok (.iload_n 2, 1) := dk_28 ((dQ_X8_reserve_2 11).trans dk_j11)
theorem dX8_reserve_44 : decode cX8_reserve 44 = .ok (.sipush 999, 3) := dk_17 ((dQ_X8_reserve_2 12).trans dk_j12) ((dQ_X8_reserve_2 13).trans dk_j13) ((dQ_X8_reserve_2 14).trans dk_j14) dk_vs2_3_231
theorem dX8_reserve_47 : decode cX8_reserve 47 = .ok (.if_icmp .le 7, 3) := dk_164 ((dQ_X8_reserve_2 15).trans dk_j15) ((dQ_X8_reserve_3 0).trans dk_j0) ((dQ_X8_reserve_3 1).trans dk_j1) dk_vs2_0_7
theorem dX8_reserve_50 : decode cX8_reserve 50 = .ok (.iconst (-1), 1) := dk_2 ((dQ_X8_reserve_3 2).trans dk_j2)
theorem dX8_reserve_51 : decode cX8_reserve 51 = .ok (.goto 4, 3) := dk_167 ((dQ_X8_reserve_3 3).trans dk_j3) ((dQ_X8_reserve_3 4).trans dk_j4) ((dQ_X8_reserve_3 5).trans dk_j5) dk_vs2_0_4
theorem dX8_reserve_54 : decode cX8_reserve 54 = .ok (.iload_n 2, 1) := dk_28 ((dQ_X8_reserve_3 6).trans dk_j6)
theorem dX8_reserve_55 : decode cX8_reserve 55 = .ok (.ireturn, 1) := dk_172 ((dQ_X8_reserve_3 7).trans dk_j7)
def dT_X8_by_1 : List UInt8 := (0x12 : UInt8) :: (0xdd : UInt8) :: (0xac : UInt8) :: (0x2a : UInt8) :: (0x1b : UInt8) :: (0xb6 : UInt8) :: (0x00 : UInt8) :: (0xe7 : UInt8) :: (0xac : UInt8) :: []
def dT_X8_by_0 : List UInt8 := (0x2a : UInt8) :: (0xb6 : UInt8) :: (0x00 : UInt8) :: (0x89 : UInt8) :: (0x99 : UInt8) :: (0x00 : UInt8) :: (0x0c : UInt8) :: (0x1b : UInt8) :: (0x9b : UInt8) :: (0x00 : UInt8) :: (0x08 : UInt8) :: (0x1b : UInt8) :: (0x07 : UInt8) :: (0xa1 : UInt8) :: (0x00 : UInt8) :: (0x06 : UInt8) :: dT_X8_by_1
theorem dT_X8_by : cX8_by.data.toList = dT_X8_by_0 := eq_of_beq (show (cX8_by.data.toList == dT_X8_by_0) = true by decide +kernel)
theorem dQ_X8_by_0 : dQ_P cX8_by 0 dT_X8_by_0 := fun i => by rw [dT_X8_by]; rfl
theorem dQ_X8_by_1 : dQ_P cX8_by 16 dT_X8_by_1 := fun i => (dQ_X8_by_0 (i + 16)).trans dk_t
theorem dX8_by_0 : decode cX8_by 0 = .ok (.aload_n 0, 1) := dk_42 ((dQ_X8_by_0 0).trans dk_j0)
theorem dX8_by_1 : decode cX8_by 1 = .ok (.invokevirtual 137, 3) := dk_182 ((dQ_X8_by_0 1).trans dk_j1) ((dQ_X8_by_0 2).trans dk_j2) ((dQ_X8_by_0 3).trans dk_j3) dk_vu2_0_137
theorem dX8_by_4 : decode cX8_by 4 = .ok (.ifCond .eq 12, 3) := dk_153 ((dQ_X8_by_0 4).trans dk_j4) ((dQ_X8_by_0 5).trans dk_j5) ((dQ_X8_by_0 6).trans dk_j6) dk_vs2_0_12
theorem dX8_by_7 : decode cX8_by 7 = .ok (.iload_n 1, 1) := dk_27 ((dQ_X8_by_0 7).trans dk_j7)
theorem dX8_by_8 : decode cX8_by 8 = .ok (.ifCond .lt 8, 3) := dk_155 ((dQ_X8_by_0 8).trans dk_j8) ((dQ_X8_by_0 9).trans dk_j9) ((dQ_X8_by_0 10).trans dk_j10) dk_vs2_0_8
theorem dX8_by_11 : decode cX8_by 11 = .ok (.iload_n 1, 1) := dk_27 ((dQ_X8_by_0 11).trans dk_j11)
theorem dX8_by_12 : decode cX8_by 12 = .ok (.iconst 4, 1) := dk_7 ((dQ_X8_by_0 12).trans dk_j12)
theorem dX8_by_13 : decode cX8_by 13 = .ok (.if_icmp .lt 6, 3) := dk_161 ((dQ_X8_by_0 13).trans dk_j13) ((dQ_X8_by_0 14).trans dk_j14) ((dQ_X8_by_0 15).trans dk_j15) dk_vs2_0_6
theorem dX8_by_16 : decode cX8_by 16 = .ok (.ldc 221, 2) := dk_18 ((dQ_X8_by_1 0).trans dk_j0) ((dQ_X8_by_1 1).trans dk_j1) dk_vu1_221
theorem dX8_by_18 : decode cX8_by 18 = .ok (.ireturn, 1) := dk_172 ((dQ_X8_by_1 2).trans dk_j2)
theorem dX8_by_19 : decode cX8_by 19 = .ok (.aload_n 0, 1) := dk_42 ((dQ_X8_by_1 3).trans dk_j3)
theorem dX8_by_20 : decode cX8_by 20 = .ok (.iload_n 1, 1) := dk_27 ((dQ_X8_by_1 4).trans dk_j4)
theorem dk_vu2_0_231 : (0x00 : UInt8).toNat * 256 + (0xe7 : UInt8).toNat = (231 : Nat) := by decide +kernel
theorem dX8_by_21 : decode cX8_by 21 = .ok (.invokevirtual 231, 3) := dk_182 ((dQ_X8_by_1 5).trans dk_j5) ((dQ_X8_by_1 6).trans dk_j6) ((dQ_X8_by_1 7).trans dk_j7) dk_vu2_0_231
theorem dX8_by_24 : decode cX8_by 24 = .ok (.ireturn, 1) := dk_172 ((dQ_X8_by_1 8).trans dk_j8)
def dT_X8_law_3 : List UInt8 := (0xe6 : UInt8) :: (0x1b : UInt8) :: (0xac : UInt8) :: []
def dT_X8_law_2 : List UInt8 := (0x15 : UInt8) :: (0x04 : UInt8) :: (0x1c : UInt8) :: (0xa4 : UInt8) :: (0x00 : UInt8) :: (0x08 : UInt8) :: (0x15 : UInt8) :: (0x04 : UInt8) :: (0x3d : UInt8) :: (0x1d : UInt8) :: (0x3c : UInt8) :: (0x84 : UInt8) :: (0x03 : UInt8) :: (0x01 : UInt8) :: (0xa7 : UInt8) :: (0xff : UInt8) :: dT_X8_law_3
def dT_X8_law_1 : List UInt8 := (0xe7 : UInt8) :: (0x3d : UInt8) :: (0x04 : UInt8) :: (0x3e : UInt8) :: (0x1d : UInt8) :: (0x07 : UInt8) :: (0xa2 : UInt8) :: (0x00 : UInt8) :: (0x1b : UInt8) :: (0x2a : UInt8) :: (0x1d : UInt8) :: (0xb6 : UInt8) :: (0x00 : UInt8) :: (0xe7 : UInt8) :: (0x36 : UInt8) :: (0x04 : UInt8) :: dT_X8_law_2
def dT_X8_law_0 : List UInt8 := (0x2a : UInt8) :: (0xb6 : UInt8) :: (0x00 : UInt8) :: (0x89 : UInt8) :: (0x9a : UInt8) :: (0x00 : UInt8) :: (0x06 : UInt8) :: (0x10 : UInt8) :: (0xfe : UInt8) :: (0xac : UInt8) :: (0x03 : UInt8) :: (0x3c : UInt8) :: (0x2a : UInt8) :: (0x03 : UInt8) :: (0xb6 : UInt8) :: (0x00 : UInt8) :: dT_X8_law_1
theorem dT_X8_law : cX8_law.data.toList = dT_X8_law_0 := eq_of_beq (show (cX8_law.data.toList == dT_X8_law_0) = true by decide +kernel)
theorem dQ_X8_law_0 : dQ_P cX8_law 0 dT_X8_law_0 := fun i => by rw [dT_X8_law]; rfl
theorem dQ_X8_law_1 : dQ_P cX8_law 16 dT_X8_law_1 := fun i => (dQ_X8_law_0 (i + 16)).trans dk_t
theorem dQ_X8_law_2 : dQ_P cX8_law 32 dT_X8_law_2 := fun i => (dQ_X8_law_1 (i + 16)).trans dk_t
theorem dQ_X8_law_3 : dQ_P cX8_law 48 dT_X8_law_3 := fun i => (dQ_X8_law_2 (i + 16)).trans dk_t
theorem dX8_law_0 : decode cX8_law 0 = .ok (.aload_n 0, 1) := dk_42 ((dQ_X8_law_0 0).trans dk_j0)
theorem dX8_law_1 : decode cX8_law 1 = .ok (.invokevirtual 137, 3) := dk_182 ((dQ_X8_law_0 1).trans dk_j1) ((dQ_X8_law_0 2).trans dk_j2) ((dQ_X8_law_0 3).trans dk_j3) dk_vu2_0_137
theorem dX8_law_4 : decode cX8_law 4 = .ok (.ifCond .ne 6, 3) := dk_154 ((dQ_X8_law_0 4).trans dk_j4) ((dQ_X8_law_0 5).trans dk_j5) ((dQ_X8_law_0 6).trans dk_j6) dk_vs2_0_6
theorem dX8_law_7 : decode cX8_law 7 = .ok (.bipush (-2), 2) := dk_16 ((dQ_X8_law_0 7).trans dk_j7) ((dQ_X8_law_0 8).trans dk_j8) dk_vs1_254
theorem dX8_law_9 : decode cX8_law 9 = .ok (.ireturn, 1) := dk_172 ((dQ_X8_law_0 9).trans dk_j9)
theorem dX8_law_10 : decode cX8_law 10 = .ok (.iconst 0, 1) := dk_3 ((dQ_X8_law_0 10).trans dk_j10)
theorem dX8_law_11 : decode cX8_law 11 = .ok (.istore_n 1, 1) := dk_60 ((dQ_X8_law_0 11).trans dk_j11)
theorem dX8_law_12 : decode cX8_law 12 = .ok (.aload_n 0, 1) := dk_42 ((dQ_X8_law_0 12).trans dk_j12)
theorem dX8_law_13 : decode cX8_law 13 = .ok (.iconst 0, 1) := dk_3 ((dQ_X8_law_0 13).trans dk_j13)
theorem dX8_law_14 : decode cX8_law 14 = .ok (.invokevirtual 231, 3) := dk_182 ((dQ_X8_law_0 14).trans dk_j14) ((dQ_X8_law_0 15).trans dk_j15) ((dQ_X8_law_1 0).trans dk_j0) dk_vu2_0_231
theorem dX8_law_17 : decode cX8_law 17 = .ok (.istore_n 2, 1) := dk_61 ((dQ_X8_law_1 1).trans dk_j1)
theorem dX8_law_18 : decode cX8_law 18 = .ok (.iconst 1, 1) := dk_4 ((dQ_X8_law_1 2).trans dk_j2)
theorem dX8_law_19 : decode cX8_law 19 = .ok (.istore_n 3, 1) := dk_62 ((dQ_X8_law_1 3).trans dk_j3)
theorem dX8_law_20 : decode cX8_law 20 = .ok (.iload_n 3, 1) := dk_29 ((dQ_X8_law_1 4).trans dk_j4)
theorem dX8_law_21 : decode cX8_law 21 = .ok (.iconst 4, 1) := dk_7 ((dQ_X8_law_1 5).trans dk_j5)
theorem dX8_law_22 : decode cX8_law 22 = .ok (.if_icmp .ge 27, 3) := dk_162 ((dQ_X8_law_1 6).trans dk_j6) ((dQ_X8_law_1 7).trans dk_j7) ((dQ_X8_law_1 8).trans dk_j8) dk_vs2_0_27
theorem dX8_law_25 : decode cX8_law 25 = .ok (.aload_n 0, 1) := dk_42 ((dQ_X8_law_1 9).trans dk_j9)
theorem dX8_law_26 : decode cX8_law 26 = .ok (.iload_n 3, 1) := dk_29 ((dQ_X8_law_1 10).trans dk_j10)
theorem dX8_law_27 : decode cX8_law 27 = .ok (.invokevirtual 231, 3) := dk_182 ((dQ_X8_law_1 11).trans dk_j11) ((dQ_X8_law_1 12).trans dk_j12) ((dQ_X8_law_1 13).trans dk_j13) dk_vu2_0_231
theorem dX8_law_30 : decode cX8_law 30 = .ok (.istore 4, 2) := dk_54 ((dQ_X8_law_1 14).trans dk_j14) ((dQ_X8_law_1 15).trans dk_j15) dk_vu1_4
theorem dX8_law_32 : decode cX8_law 32 = .ok (.iload 4, 2) := dk_21 ((dQ_X8_law_2 0).trans dk_j0) ((dQ_X8_law_2 1).trans dk_j1) dk_vu1_4
theorem dX8_law_34 : decode cX8_law 34 = .ok (.iload_n 2, 1) := dk_28 ((dQ_X8_law_2 2).trans dk_j2)
theorem dX8_law_35 : decode cX8_law 35 = .ok (.if_icmp .le 8, 3) := dk_164 ((dQ_X8_law_2 3).trans dk_j3) ((dQ_X8_law_2 4).trans dk_j4) ((dQ_X8_law_2 5).trans dk_j5) dk_vs2_0_8
theorem dX8_law_38 : decode cX8_law 38 = .ok (.iload 4, 2) := dk_21 ((dQ_X8_law_2 6).trans dk_j6) ((dQ_X8_law_2 7).trans dk_j7) dk_vu1_4
theorem dX8_law_40 : decode cX8_law 40 = .ok (.istore_n 2, 1) := dk_61 ((dQ_X8_law_2 8).trans dk_j8)
theorem dX8_law_41 : decode cX8_law 41 = .ok (.iload_n 3, 1) := dk_29 ((dQ_X8_law_2 9).trans dk_j9)
theorem dX8_law_42 : decode cX8_law 42 = .ok (.istore_n 1, 1) := dk_60 ((dQ_X8_law_2 10).trans dk_j10)
theorem dX8_law_43 : decode cX8_law 43 = .ok (.iinc 3 1, 3) := dk_132 ((dQ_X8_law_2 11).trans dk_j11) ((dQ_X8_law_2 12).trans dk_j12) ((dQ_X8_law_2 13).trans dk_j13) dk_vu1_3 dk_vs1_1
theorem dX8_law_46 : decode cX8_law 46 = .ok (.goto (-26), 3) := dk_167 ((dQ_X8_law_2 14).trans dk_j14) ((dQ_X8_law_2 15).trans dk_j15) ((dQ_X8_law_3 0).trans dk_j0) dk_vs2_255_230
theorem dX8_law_49 : decode cX8_law 49 = .ok (.iload_n 1, 1) := dk_27 ((dQ_X8_law_3 1).trans dk_j1)
theorem dX8_law_50 : decode cX8_law 50 = .ok (.ireturn, 1) := dk_172 ((dQ_X8_law_3 2).trans dk_j2)
def dT_X8_moneyInTheEnd_2 : List UInt8 := (0xac : UInt8) :: []
def dT_X8_moneyInTheEnd_1 : List UInt8 := (0x2a : UInt8) :: (0xb4 : UInt8) :: (0x00 : UInt8) :: (0x36 : UInt8) :: (0x2a : UInt8) :: (0xb4 : UInt8) :: (0x00 : UInt8) :: (0x2c : UInt8) :: (0xb4 : UInt8) :: (0x00 : UInt8) :: (0x97 : UInt8) :: (0x04 : UInt8) :: (0x64 : UInt8) :: (0xb6 : UInt8) :: (0x00 : UInt8) :: (0xde : UInt8) :: dT_X8_moneyInTheEnd_2
def dT_X8_moneyInTheEnd_0 : List UInt8 := (0x2a : UInt8) :: (0xb4 : UInt8) :: (0x00 : UInt8) :: (0x36 : UInt8) :: (0x2a : UInt8) :: (0xb4 : UInt8) :: (0x00 : UInt8) :: (0x0a : UInt8) :: (0x2a : UInt8) :: (0xb4 : UInt8) :: (0x00 : UInt8) :: (0x2c : UInt8) :: (0x1b : UInt8) :: (0xb6 : UInt8) :: (0x00 : UInt8) :: (0xea : UInt8) :: dT_X8_moneyInTheEnd_1
theorem dT_X8_moneyInTheEnd : cX8_moneyInTheEnd.data.toList = dT_X8_moneyInTheEnd_0 := eq_of_beq (show (cX8_moneyInTheEnd.data.toList == dT_X8_moneyInTheEnd_0) = true by decide +kernel)
theorem dQ_X8_moneyInTheEnd_0 : dQ_P cX8_moneyInTheEnd 0 dT_X8_moneyInTheEnd_0 := fun i => by rw [dT_X8_moneyInTheEnd]; rfl
theorem dQ_X8_moneyInTheEnd_1 : dQ_P cX8_moneyInTheEnd 16 dT_X8_moneyInTheEnd_1 := fun i => (dQ_X8_moneyInTheEnd_0 (i + 16)).trans dk_t
theorem dQ_X8_moneyInTheEnd_2 : dQ_P cX8_moneyInTheEnd 32 dT_X8_moneyInTheEnd_2 := fun i => (dQ_X8_moneyInTheEnd_1 (i + 16)).trans dk_t
theorem dX8_moneyInTheEnd_0 : decode cX8_moneyInTheEnd 0 = .ok (.aload_n 0, 1) := dk_42 ((dQ_X8_moneyInTheEnd_0 0).trans dk_j0)
theorem dX8_moneyInTheEnd_1 : decode cX8_moneyInTheEnd 1 = .ok (.getfield 54, 3) := dk_180 ((dQ_X8_moneyInTheEnd_0 1).trans dk_j1) ((dQ_X8_moneyInTheEnd_0 2).trans dk_j2) ((dQ_X8_moneyInTheEnd_0 3).trans dk_j3) dk_vu2_0_54
theorem dX8_moneyInTheEnd_4 : decode cX8_moneyInTheEnd 4 = .ok (.aload_n 0, 1) := dk_42 ((dQ_X8_moneyInTheEnd_0 4).trans dk_j4)
theorem dX8_moneyInTheEnd_5 : decode cX8_moneyInTheEnd 5 = .ok (.getfield 10, 3) := dk_180 ((dQ_X8_moneyInTheEnd_0 5).trans dk_j5) ((dQ_X8_moneyInTheEnd_0 6).trans dk_j6) ((dQ_X8_moneyInTheEnd_0 7).trans dk_j7) dk_vu2_0_10
theorem dX8_moneyInTheEnd_8 : decode cX8_moneyInTheEnd 8 = .ok (.aload_n 0, 1) := dk_42 ((dQ_X8_moneyInTheEnd_0 8).trans dk_j8)
theorem dX8_moneyInTheEnd_9 : decode cX8_moneyInTheEnd 9 = .ok (.getfield 44, 3) := dk_180 ((dQ_X8_moneyInTheEnd_0 9).trans dk_j9) ((dQ_X8_moneyInTheEnd_0 10).trans dk_j10) ((dQ_X8_moneyInTheEnd_0 11).trans dk_j11) dk_vu2_0_44
theorem dX8_moneyInTheEnd_12 : decode cX8_moneyInTheEnd 12 = .ok (.iload_n 1, 1) := dk_27 ((dQ_X8_moneyInTheEnd_0 12).trans dk_j12)
theorem dX8_moneyInTheEnd_13 : decode cX8_moneyInTheEnd 13 = .ok (.invokevirtual 234, 3) := dk_182 ((dQ_X8_moneyInTheEnd_0 13).trans dk_j13) ((dQ_X8_moneyInTheEnd_0 14).trans dk_j14) ((dQ_X8_moneyInTheEnd_0 15).trans dk_j15) dk_vu2_0_234
theorem dX8_moneyInTheEnd_16 : decode cX8_moneyInTheEnd 16 = .ok (.aload_n 0, 1) := dk_42 ((dQ_X8_moneyInTheEnd_1 0).trans dk_j0)
theorem dX8_moneyInTheEnd_17 : decode cX8_moneyInTheEnd 17 = .ok (.getfield 54, 3) := dk_180 ((dQ_X8_moneyInTheEnd_1 1).trans dk_j1) ((dQ_X8_moneyInTheEnd_1 2).trans dk_j2) ((dQ_X8_moneyInTheEnd_1 3).trans dk_j3) dk_vu2_0_54
theorem dX8_moneyInTheEnd_20 : decode cX8_moneyInTheEnd 20 = .ok (.aload_n 0, 1) := dk_42 ((dQ_X8_moneyInTheEnd_1 4).trans dk_j4)
theorem dX8_moneyInTheEnd_21 : decode cX8_moneyInTheEnd 21 = .ok (.getfield 44, 3) := dk_180 ((dQ_X8_moneyInTheEnd_1 5).trans dk_j5) ((dQ_X8_moneyInTheEnd_1 6).trans dk_j6) ((dQ_X8_moneyInTheEnd_1 7).trans dk_j7) dk_vu2_0_44
theorem dX8_moneyInTheEnd_24 : decode cX8_moneyInTheEnd 24 = .ok (.getfield 151, 3) := dk_180 ((dQ_X8_moneyInTheEnd_1 8).trans dk_j8) ((dQ_X8_moneyInTheEnd_1 9).trans dk_j9) ((dQ_X8_moneyInTheEnd_1 10).trans dk_j10) dk_vu2_0_151
theorem dX8_moneyInTheEnd_27 : decode cX8_moneyInTheEnd 27 = .ok (.iconst 1, 1) := dk_4 ((dQ_X8_moneyInTheEnd_1 11).trans dk_j11)
theorem dX8_moneyInTheEnd_28 : decode cX8_moneyInTheEnd 28 = .ok (.isub, 1) := dk_100 ((dQ_X8_moneyInTheEnd_1 12).trans dk_j12)
theorem dX8_moneyInTheEnd_29 : decode cX8_moneyInTheEnd 29 = .ok (.invokevirtual 222, 3) := dk_182 ((dQ_X8_moneyInTheEnd_1 13).trans dk_j13) ((dQ_X8_moneyInTheEnd_1 14).trans dk_j14) ((dQ_X8_moneyInTheEnd_1 15).trans dk_j15) dk_vu2_0_222
theorem dX8_moneyInTheEnd_32 : decode cX8_moneyInTheEnd 32 = .ok (.ireturn, 1) := dk_172 ((dQ_X8_moneyInTheEnd_2 0).trans dk_j0)
def dT_X8_ledgerNow_1 : List UInt8 := (0xb4 : UInt8) :: (0x00 : UInt8) :: (0x64 : UInt8) :: (0x05 : UInt8) :: (0x2e : UInt8) :: (0xb6 : UInt8) :: (0x00 : UInt8) :: (0xea : UInt8) :: (0x2a : UInt8) :: (0xb4 : UInt8) :: (0x00 : UInt8) :: (0x36 : UInt8) :: (0xb0 : UInt8) :: []
def dT_X8_ledgerNow_0 : List UInt8 := (0x2a : UInt8) :: (0xb4 : UInt8) :: (0x00 : UInt8) :: (0x36 : UInt8) :: (0x2a : UInt8) :: (0xb4 : UInt8) :: (0x00 : UInt8) :: (0x0a : UInt8) :: (0x2a : UInt8) :: (0xb4 : UInt8) :: (0x00 : UInt8) :: (0x2c : UInt8) :: (0x2a : UInt8) :: (0xb4 : UInt8) :: (0x00 : UInt8) :: (0x0a : UInt8) :: dT_X8_ledgerNow_1
theorem dT_X8_ledgerNow : cX8_ledgerNow.data.toList = dT_X8_ledgerNow_0 := eq_of_beq (show (cX8_ledgerNow.data.toList == dT_X8_ledgerNow_0) = true by decide +kernel)
theorem dQ_X8_ledgerNow_0 : dQ_P cX8_ledgerNow 0 dT_X8_ledgerNow_0 := fun i => by rw [dT_X8_ledgerNow]; rfl
theorem dQ_X8_ledgerNow_1 : dQ_P cX8_ledgerNow 16 dT_X8_ledgerNow_1 := fun i => (dQ_X8_ledgerNow_0 (i + 16)).trans dk_t
theorem dX8_ledgerNow_0 : decode cX8_ledgerNow 0 = .ok (.aload_n 0, 1) := dk_42 ((dQ_X8_ledgerNow_0 0).trans dk_j0)
theorem dX8_ledgerNow_1 : decode cX8_ledgerNow 1 = .ok (.getfield 54, 3) := dk_180 ((dQ_X8_ledgerNow_0 1).trans dk_j1) ((dQ_X8_ledgerNow_0 2).trans dk_j2) ((dQ_X8_ledgerNow_0 3).trans dk_j3) dk_vu2_0_54
theorem dX8_ledgerNow_4 : decode cX8_ledgerNow 4 = .ok (.aload_n 0, 1) := dk_42 ((dQ_X8_ledgerNow_0 4).trans dk_j4)
theorem dX8_ledgerNow_5 : decode cX8_ledgerNow 5 = .ok (.getfield 10, 3) := dk_180 ((dQ_X8_ledgerNow_0 5).trans dk_j5) ((dQ_X8_ledgerNow_0 6).trans dk_j6) ((dQ_X8_ledgerNow_0 7).trans dk_j7) dk_vu2_0_10
theorem dX8_ledgerNow_8 : decode cX8_ledgerNow 8 = .ok (.aload_n 0, 1) := dk_42 ((dQ_X8_ledgerNow_0 8).trans dk_j8)
theorem dX8_ledgerNow_9 : decode cX8_ledgerNow 9 = .ok (.getfield 44, 3) := dk_180 ((dQ_X8_ledgerNow_0 9).trans dk_j9) ((dQ_X8_ledgerNow_0 10).trans dk_j10) ((dQ_X8_ledgerNow_0 11).trans dk_j11) dk_vu2_0_44
theorem dX8_ledgerNow_12 : decode cX8_ledgerNow 12 = .ok (.aload_n 0, 1) := dk_42 ((dQ_X8_ledgerNow_0 12).trans dk_j12)
theorem dX8_ledgerNow_13 : decode cX8_ledgerNow 13 = .ok (.getfield 10, 3) := dk_180 ((dQ_X8_ledgerNow_0 13).trans dk_j13) ((dQ_X8_ledgerNow_0 14).trans dk_j14) ((dQ_X8_ledgerNow_0 15).trans dk_j15) dk_vu2_0_10
theorem dX8_ledgerNow_16 : decode cX8_ledgerNow 16 = .ok (.getfield 100, 3) := dk_180 ((dQ_X8_ledgerNow_1 0).trans dk_j0) ((dQ_X8_ledgerNow_1 1).trans dk_j1) ((dQ_X8_ledgerNow_1 2).trans dk_j2) dk_vu2_0_100
theorem dX8_ledgerNow_19 : decode cX8_ledgerNow 19 = .ok (.iconst 2, 1) := dk_5 ((dQ_X8_ledgerNow_1 3).trans dk_j3)
theorem dX8_ledgerNow_20 : decode cX8_ledgerNow 20 = .ok (.iaload, 1) := dk_46 ((dQ_X8_ledgerNow_1 4).trans dk_j4)
theorem dX8_ledgerNow_21 : decode cX8_ledgerNow 21 = .ok (.invokevirtual 234, 3) := dk_182 ((dQ_X8_ledgerNow_1 5).trans dk_j5) ((dQ_X8_ledgerNow_1 6).trans dk_j6) ((dQ_X8_ledgerNow_1 7).trans dk_j7) dk_vu2_0_234
theorem dX8_ledgerNow_24 : decode cX8_ledgerNow 24 = .ok (.aload_n 0, 1) := dk_42 ((dQ_X8_ledgerNow_1 8).trans dk_j8)
theorem dX8_ledgerNow_25 : decode cX8_ledgerNow 25 = .ok (.getfield 54, 3) := dk_180 ((dQ_X8_ledgerNow_1 9).trans dk_j9) ((dQ_X8_ledgerNow_1 10).trans dk_j10) ((dQ_X8_ledgerNow_1 11).trans dk_j11) dk_vu2_0_54
theorem dX8_ledgerNow_28 : decode cX8_ledgerNow 28 = .ok (.areturn, 1) := dk_176 ((dQ_X8_ledgerNow_1 12).trans dk_j12)
def dT_X8_takes_1 : List UInt8 := (0x10 : UInt8) :: (0xfe : UInt8) :: (0xac : UInt8) :: []
def dT_X8_takes_0 : List UInt8 := (0x2a : UInt8) :: (0x1b : UInt8) :: (0xb6 : UInt8) :: (0x00 : UInt8) :: (0x6b : UInt8) :: (0x99 : UInt8) :: (0x00 : UInt8) :: (0x0b : UInt8) :: (0x2a : UInt8) :: (0x1b : UInt8) :: (0xb6 : UInt8) :: (0x00 : UInt8) :: (0xee : UInt8) :: (0xa7 : UInt8) :: (0x00 : UInt8) :: (0x05 : UInt8) :: dT_X8_takes_1
theorem dT_X8_takes : cX8_takes.data.toList = dT_X8_takes_0 := eq_of_beq (show (cX8_takes.data.toList == dT_X8_takes_0) = true by decide +kernel)
theorem dQ_X8_takes_0 : dQ_P cX8_takes 0 dT_X8_takes_0 := fun i => by rw [dT_X8_takes]; rfl
theorem dQ_X8_takes_1 : dQ_P cX8_takes 16 dT_X8_takes_1 := fun i => (dQ_X8_takes_0 (i + 16)).trans dk_t
theorem dX8_takes_0 : decode cX8_takes 0 = .ok (.aload_n 0, 1) := dk_42 ((dQ_X8_takes_0 0).trans dk_j0)
theorem dX8_takes_1 : decode cX8_takes 1 = .ok (.iload_n 1, 1) := dk_27 ((dQ_X8_takes_0 1).trans dk_j1)
theorem dX8_takes_2 : decode cX8_takes 2 = .ok (.invokevirtual 107, 3) := dk_182 ((dQ_X8_takes_0 2).trans dk_j2) ((dQ_X8_takes_0 3).trans dk_j3) ((dQ_X8_takes_0 4).trans dk_j4) dk_vu2_0_107
theorem dX8_takes_5 : decode cX8_takes 5 = .ok (.ifCond .eq 11, 3) := dk_153 ((dQ_X8_takes_0 5).trans dk_j5) ((dQ_X8_takes_0 6).trans dk_j6) ((dQ_X8_takes_0 7).trans dk_j7) dk_vs2_0_11
theorem dX8_takes_8 : decode cX8_takes 8 = .ok (.aload_n 0, 1) := dk_42 ((dQ_X8_takes_0 8).trans dk_j8)
theorem dX8_takes_9 : decode cX8_takes 9 = .ok (.iload_n 1, 1) := dk_27 ((dQ_X8_takes_0 9).trans dk_j9)
theorem dk_vu2_0_238 : (0x00 : UInt8).toNat * 256 + (0xee : UInt8).toNat = (238 : Nat) := by decide +kernel
theorem dX8_takes_10 : decode cX8_takes 10 = .ok (.invokevirtual 238, 3) := dk_182 ((dQ_X8_takes_0 10).trans dk_j10) ((dQ_X8_takes_0 11).trans dk_j11) ((dQ_X8_takes_0 12).trans dk_j12) dk_vu2_0_238
theorem dX8_takes_13 : decode cX8_takes 13 = .ok (.goto 5, 3) := dk_167 ((dQ_X8_takes_0 13).trans dk_j13) ((dQ_X8_takes_0 14).trans dk_j14) ((dQ_X8_takes_0 15).trans dk_j15) dk_vs2_0_5
theorem dX8_takes_16 : decode cX8_takes 16 = .ok (.bipush (-2), 2) := dk_16 ((dQ_X8_takes_1 0).trans dk_j0) ((dQ_X8_takes_1 1).trans dk_j1) dk_vs1_254
theorem dX8_takes_18 : decode cX8_takes 18 = .ok (.ireturn, 1) := dk_172 ((dQ_X8_takes_1 2).trans dk_j2)
def dT_X8_gains_2 : List UInt8 := (0xac : UInt8) :: []
def dT_X8_gains_1 : List UInt8 := (0x3d : UInt8) :: (0x1c : UInt8) :: (0x02 : UInt8) :: (0xa0 : UInt8) :: (0x00 : UInt8) :: (0x07 : UInt8) :: (0x03 : UInt8) :: (0xa7 : UInt8) :: (0x00 : UInt8) :: (0x09 : UInt8) :: (0x2a : UInt8) :: (0x1b : UInt8) :: (0x1c : UInt8) :: (0xb6 : UInt8) :: (0x00 : UInt8) :: (0xf1 : UInt8) :: dT_X8_gains_2
def dT_X8_gains_0 : List UInt8 := (0x2a : UInt8) :: (0x1b : UInt8) :: (0xb6 : UInt8) :: (0x00 : UInt8) :: (0x6b : UInt8) :: (0x9a : UInt8) :: (0x00 : UInt8) :: (0x06 : UInt8) :: (0x10 : UInt8) :: (0xfe : UInt8) :: (0xac : UInt8) :: (0x2a : UInt8) :: (0x1b : UInt8) :: (0xb6 : UInt8) :: (0x00 : UInt8) :: (0xee : UInt8) :: dT_X8_gains_1
theorem dT_X8_gains : cX8_gains.data.toList = dT_X8_gains_0 := eq_of_beq (show (cX8_gains.data.toList == dT_X8_gains_0) = true by decide +kernel)
theorem dQ_X8_gains_0 : dQ_P cX8_gains 0 dT_X8_gains_0 := fun i => by rw [dT_X8_gains]; rfl
theorem dQ_X8_gains_1 : dQ_P cX8_gains 16 dT_X8_gains_1 := fun i => (dQ_X8_gains_0 (i + 16)).trans dk_t
theorem dQ_X8_gains_2 : dQ_P cX8_gains 32 dT_X8_gains_2 := fun i => (dQ_X8_gains_1 (i + 16)).trans dk_t
theorem dX8_gains_0 : decode cX8_gains 0 = .ok (.aload_n 0, 1) := dk_42 ((dQ_X8_gains_0 0).trans dk_j0)
theorem dX8_gains_1 : decode cX8_gains 1 = .ok (.iload_n 1, 1) := dk_27 ((dQ_X8_gains_0 1).trans dk_j1)
theorem dX8_gains_2 : decode cX8_gains 2 = .ok (.invokevirtual 107, 3) := dk_182 ((dQ_X8_gains_0 2).trans dk_j2) ((dQ_X8_gains_0 3).trans dk_j3) ((dQ_X8_gains_0 4).trans dk_j4) dk_vu2_0_107
theorem dX8_gains_5 : decode cX8_gains 5 = .ok (.ifCond .ne 6, 3) := dk_154 ((dQ_X8_gains_0 5).trans dk_j5) ((dQ_X8_gains_0 6).trans dk_j6) ((dQ_X8_gains_0 7).trans dk_j7) dk_vs2_0_6
theorem dX8_gains_8 : decode cX8_gains 8 = .ok (.bipush (-2), 2) := dk_16 ((dQ_X8_gains_0 8).trans dk_j8) ((dQ_X8_gains_0 9).trans dk_j9) dk_vs1_254
theorem dX8_gains_10 : decode cX8_gains 10 = .ok (.ireturn, 1) := dk_172 ((dQ_X8_gains_0 10).trans dk_j10)
theorem dX8_gains_11 : decode cX8_gains 11 = .ok (.aload_n 0, 1) := dk_42 ((dQ_X8_gains_0 11).trans dk_j11)
theorem dX8_gains_12 : decode cX8_gains 12 = .ok (.iload_n 1, 1) := dk_27 ((dQ_X8_gains_0 12).trans dk_j12)
theorem dX8_gains_13 : decode cX8_gains 13 = .ok (.invokevirtual 238, 3) := dk_182 ((dQ_X8_gains_0 13).trans dk_j13) ((dQ_X8_gains_0 14).trans dk_j14) ((dQ_X8_gains_0 15).trans dk_j15) dk_vu2_0_238
theorem dX8_gains_16 : decode cX8_gains 16 = .ok (.istore_n 2, 1) := dk_61 ((dQ_X8_gains_1 0).trans dk_j0)
theorem dX8_gains_17 : decode cX8_gains 17 = .ok (.iload_n 2, 1) := dk_28 ((dQ_X8_gains_1 1).trans dk_j1)
theorem dX8_gains_18 : decode cX8_gains 18 = .ok (.iconst (-1), 1) := dk_2 ((dQ_X8_gains_1 2).trans dk_j2)
theorem dX8_gains_19 : decode cX8_gains 19 = .ok (.if_icmp .ne 7, 3) := dk_160 ((dQ_X8_gains_1 3).trans dk_j3) ((dQ_X8_gains_1 4).trans dk_j4) ((dQ_X8_gains_1 5).trans dk_j5) dk_vs2_0_7
theorem dX8_gains_22 : decode cX8_gains 22 = .ok (.iconst 0, 1) := dk_3 ((dQ_X8_gains_1 6).trans dk_j6)
theorem dX8_gains_23 : decode cX8_gains 23 = .ok (.goto 9, 3) := dk_167 ((dQ_X8_gains_1 7).trans dk_j7) ((dQ_X8_gains_1 8).trans dk_j8) ((dQ_X8_gains_1 9).trans dk_j9) dk_vs2_0_9
theorem dX8_gains_26 : decode cX8_gains 26 = .ok (.aload_n 0, 1) := dk_42 ((dQ_X8_gains_1 10).trans dk_j10)
theorem dX8_gains_27 : decode cX8_gains 27 = .ok (.iload_n 1, 1) := dk_27 ((dQ_X8_gains_1 11).trans dk_j11)
theorem dX8_gains_28 : decode cX8_gains 28 = .ok (.iload_n 2, 1) := dk_28 ((dQ_X8_gains_1 12).trans dk_j12)
theorem dk_vu2_0_241 : (0x00 : UInt8).toNat * 256 + (0xf1 : UInt8).toNat = (241 : Nat) := by decide +kernel
theorem dX8_gains_29 : decode cX8_gains 29 = .ok (.invokevirtual 241, 3) := dk_182 ((dQ_X8_gains_1 13).trans dk_j13) ((dQ_X8_gains_1 14).trans dk_j14) ((dQ_X8_gains_1 15).trans dk_j15) dk_vu2_0_241
theorem dX8_gains_32 : decode cX8_gains 32 = .ok (.ireturn, 1) := dk_172 ((dQ_X8_gains_2 0).trans dk_j0)
def dT_X8_price_2 : List UInt8 := (0xf4 : UInt8) :: (0xb8 : UInt8) :: (0x00 : UInt8) :: (0x9a : UInt8) :: (0x3d : UInt8) :: (0x84 : UInt8) :: (0x03 : UInt8) :: (0x01 : UInt8) :: (0xa7 : UInt8) :: (0xff : UInt8) :: (0xe7 : UInt8) :: (0x1c : UInt8) :: (0xac : UInt8) :: []
def dT_X8_price_1 : List UInt8 := (0x2a : UInt8) :: (0xb4 : UInt8) :: (0x00 : UInt8) :: (0x2c : UInt8) :: (0xb4 : UInt8) :: (0x00 : UInt8) :: (0xa2 : UInt8) :: (0xa2 : UInt8) :: (0x00 : UInt8) :: (0x14 : UInt8) :: (0x1c : UInt8) :: (0x2a : UInt8) :: (0x1d : UInt8) :: (0x1b : UInt8) :: (0xb6 : UInt8) :: (0x00 : UInt8) :: dT_X8_price_2
def dT_X8_price_0 : List UInt8 := (0x2a : UInt8) :: (0x1b : UInt8) :: (0xb6 : UInt8) :: (0x00 : UInt8) :: (0x72 : UInt8) :: (0x9a : UInt8) :: (0x00 : UInt8) :: (0x06 : UInt8) :: (0x10 : UInt8) :: (0xfe : UInt8) :: (0xac : UInt8) :: (0x03 : UInt8) :: (0x3d : UInt8) :: (0x03 : UInt8) :: (0x3e : UInt8) :: (0x1d : UInt8) :: dT_X8_price_1
theorem dT_X8_price : cX8_price.data.toList = dT_X8_price_0 := eq_of_beq (show (cX8_price.data.toList == dT_X8_price_0) = true by decide +kernel)
theorem dQ_X8_price_0 : dQ_P cX8_price 0 dT_X8_price_0 := fun i => by rw [dT_X8_price]; rfl
theorem dQ_X8_price_1 : dQ_P cX8_price 16 dT_X8_price_1 := fun i => (dQ_X8_price_0 (i + 16)).trans dk_t
theorem dQ_X8_price_2 : dQ_P cX8_price 32 dT_X8_price_2 := fun i => (dQ_X8_price_1 (i + 16)).trans dk_t
theorem dX8_price_0 : decode cX8_price 0 = .ok (.aload_n 0, 1) := dk_42 ((dQ_X8_price_0 0).trans dk_j0)
theorem dX8_price_1 : decode cX8_price 1 = .ok (.iload_n 1, 1) := dk_27 ((dQ_X8_price_0 1).trans dk_j1)
theorem dX8_price_2 : decode cX8_price 2 = .ok (.invokevirtual 114, 3) := dk_182 ((dQ_X8_price_0 2).trans dk_j2) ((dQ_X8_price_0 3).trans dk_j3) ((dQ_X8_price_0 4).trans dk_j4) dk_vu2_0_114
theorem dX8_price_5 : decode cX8_price 5 = .ok (.ifCond .ne 6, 3) := dk_154 ((dQ_X8_price_0 5).trans dk_j5) ((dQ_X8_price_0 6).trans dk_j6) ((dQ_X8_price_0 7).trans dk_j7) dk_vs2_0_6
theorem dX8_price_8 : decode cX8_price 8 = .ok (.bipush (-2), 2) := dk_16 ((dQ_X8_price_0 8).trans dk_j8) ((dQ_X8_price_0 9).trans dk_j9) dk_vs1_254
theorem dX8_price_10 : decode cX8_price 10 = .ok (.ireturn, 1) := dk_172 ((dQ_X8_price_0 10).trans dk_j10)
theorem dX8_price_11 : decode cX8_price 11 = .ok (.iconst 0, 1) := dk_3 ((dQ_X8_price_0 11).trans dk_j11)
theorem dX8_price_12 : decode cX8_price 12 = .ok (.istore_n 2, 1) := dk_61 ((dQ_X8_price_0 12).trans dk_j12)
theorem dX8_price_13 : decode cX8_price 13 = .ok (.iconst 0, 1) := dk_3 ((dQ_X8_price_0 13).trans dk_j13)
theorem dX8_price_14 : decode cX8_price 14 = .ok (.istore_n 3, 1) := dk_62 ((dQ_X8_price_0 14).trans dk_j14)
theorem dX8_price_15 : decode cX8_price 15 = .ok (.iload_n 3, 1) := dk_29 ((dQ_X8_price_0 15).trans dk_j15)
theorem dX8_price_16 : decode cX8_price 16 = .ok (.aload_n 0, 1) := dk_42 ((dQ_X8_price_1 0).trans dk_j0)
theorem dX8_price_17 : decode cX8_price 17 = .ok (.getfield 44, 3) := dk_180 ((dQ_X8_price_1 1).trans dk_j1) ((dQ_X8_price_1 2).trans dk_j2) ((dQ_X8_price_1 3).trans dk_j3) dk_vu2_0_44
theorem dX8_price_20 : decode cX8_price 20 = .ok (.getfield 162, 3) := dk_180 ((dQ_X8_price_1 4).trans dk_j4) ((dQ_X8_price_1 5).trans dk_j5) ((dQ_X8_price_1 6).trans dk_j6) dk_vu2_0_162
theorem dX8_price_23 : decode cX8_price 23 = .ok (.if_icmp .ge 20, 3) := dk_162 ((dQ_X8_price_1 7).trans dk_j7) ((dQ_X8_price_1 8).trans dk_j8) ((dQ_X8_price_1 9).trans dk_j9) dk_vs2_0_20
theorem dX8_price_26 : decode cX8_price 26 = .ok (.iload_n 2, 1) := dk_28 ((dQ_X8_price_1 10).trans dk_j10)
theorem dX8_price_27 : decode cX8_price 27 = .ok (.aload_n 0, 1) := dk_42 ((dQ_X8_price_1 11).trans dk_j11)
theorem dX8_price_28 : decode cX8_price 28 = .ok (.iload_n 3, 1) := dk_29 ((dQ_X8_price_1 12).trans dk_j12)
theorem dX8_price_29 : decode cX8_price 29 = .ok (.iload_n 1, 1) := dk_27 ((dQ_X8_price_1 13).trans dk_j13)
theorem dk_vu2_0_244 : (0x00 : UInt8).toNat * 256 + (0xf4 : UInt8).toNat = (244 : Nat) := by decide +kernel
theorem dX8_price_30 : decode cX8_price 30 = .ok (.invokevirtual 244, 3) := dk_182 ((dQ_X8_price_1 14).trans dk_j14) ((dQ_X8_price_1 15).trans dk_j15) ((dQ_X8_price_2 0).trans dk_j0) dk_vu2_0_244
theorem dX8_price_33 : decode cX8_price 33 = .ok (.invokestatic 154, 3) := dk_184 ((dQ_X8_price_2 1).trans dk_j1) ((dQ_X8_price_2 2).trans dk_j2) ((dQ_X8_price_2 3).trans dk_j3) dk_vu2_0_154
theorem dX8_price_36 : decode cX8_price 36 = .ok (.istore_n 2, 1) := dk_61 ((dQ_X8_price_2 4).trans dk_j4)
theorem dX8_price_37 : decode cX8_price 37 = .ok (.iinc 3 1, 3) := dk_132 ((dQ_X8_price_2 5).trans dk_j5) ((dQ_X8_price_2 6).trans dk_j6) ((dQ_X8_price_2 7).trans dk_j7) dk_vu1_3 dk_vs1_1
theorem dX8_price_40 : decode cX8_price 40 = .ok (.goto (-25), 3) := dk_167 ((dQ_X8_price_2 8).trans dk_j8) ((dQ_X8_price_2 9).trans dk_j9) ((dQ_X8_price_2 10).trans dk_j10) dk_vs2_255_231
theorem dX8_price_43 : decode cX8_price 43 = .ok (.iload_n 2, 1) := dk_28 ((dQ_X8_price_2 11).trans dk_j11)
theorem dX8_price_44 : decode cX8_price 44 = .ok (.ireturn, 1) := dk_172 ((dQ_X8_price_2 12).trans dk_j12)
def dT_X8_bestOfMenu_3 : List UInt8 := (0xd9 : UInt8) :: (0x1c : UInt8) :: (0xac : UInt8) :: []
def dT_X8_bestOfMenu_2 : List UInt8 := (0x05 : UInt8) :: (0x1d : UInt8) :: (0xa4 : UInt8) :: (0x00 : UInt8) :: (0x09 : UInt8) :: (0x15 : UInt8) :: (0x05 : UInt8) :: (0x3e : UInt8) :: (0x15 : UInt8) :: (0x04 : UInt8) :: (0x3d : UInt8) :: (0x84 : UInt8) :: (0x04 : UInt8) :: (0x01 : UInt8) :: (0xa7 : UInt8) :: (0xff : UInt8) :: dT_X8_bestOfMenu_3
def dT_X8_bestOfMenu_1 : List UInt8 := (0x10 : UInt8) :: (0x08 : UInt8) :: (0x2e : UInt8) :: (0xa2 : UInt8) :: (0x00 : UInt8) :: (0x1e : UInt8) :: (0x2a : UInt8) :: (0x1b : UInt8) :: (0x15 : UInt8) :: (0x04 : UInt8) :: (0xb6 : UInt8) :: (0x00 : UInt8) :: (0xf1 : UInt8) :: (0x36 : UInt8) :: (0x05 : UInt8) :: (0x15 : UInt8) :: dT_X8_bestOfMenu_2
def dT_X8_bestOfMenu_0 : List UInt8 := (0x02 : UInt8) :: (0x3d : UInt8) :: (0x03 : UInt8) :: (0x3e : UInt8) :: (0x03 : UInt8) :: (0x36 : UInt8) :: (0x04 : UInt8) :: (0x15 : UInt8) :: (0x04 : UInt8) :: (0x2a : UInt8) :: (0xb4 : UInt8) :: (0x00 : UInt8) :: (0x0a : UInt8) :: (0xb4 : UInt8) :: (0x00 : UInt8) :: (0x64 : UInt8) :: dT_X8_bestOfMenu_1
theorem dT_X8_bestOfMenu : cX8_bestOfMenu.data.toList = dT_X8_bestOfMenu_0 := eq_of_beq (show (cX8_bestOfMenu.data.toList == dT_X8_bestOfMenu_0) = true by decide +kernel)
theorem dQ_X8_bestOfMenu_0 : dQ_P cX8_bestOfMenu 0 dT_X8_bestOfMenu_0 := fun i => by rw [dT_X8_bestOfMenu]; rfl
theorem dQ_X8_bestOfMenu_1 : dQ_P cX8_bestOfMenu 16 dT_X8_bestOfMenu_1 := fun i => (dQ_X8_bestOfMenu_0 (i + 16)).trans dk_t
theorem dQ_X8_bestOfMenu_2 : dQ_P cX8_bestOfMenu 32 dT_X8_bestOfMenu_2 := fun i => (dQ_X8_bestOfMenu_1 (i + 16)).trans dk_t
theorem dQ_X8_bestOfMenu_3 : dQ_P cX8_bestOfMenu 48 dT_X8_bestOfMenu_3 := fun i => (dQ_X8_bestOfMenu_2 (i + 16)).trans dk_t
theorem dX8_bestOfMenu_0 : decode cX8_bestOfMenu 0 = .ok (.iconst (-1), 1) := dk_2 ((dQ_X8_bestOfMenu_0 0).trans dk_j0)
theorem dX8_bestOfMenu_1 : decode cX8_bestOfMenu 1 = .ok (.istore_n 2, 1) := dk_61 ((dQ_X8_bestOfMenu_0 1).trans dk_j1)
theorem dX8_bestOfMenu_2 : decode cX8_bestOfMenu 2 = .ok (.iconst 0, 1) := dk_3 ((dQ_X8_bestOfMenu_0 2).trans dk_j2)
theorem dX8_bestOfMenu_3 : decode cX8_bestOfMenu 3 = .ok (.istore_n 3, 1) := dk_62 ((dQ_X8_bestOfMenu_0 3).trans dk_j3)
theorem dX8_bestOfMenu_4 : decode cX8_bestOfMenu 4 = .ok (.iconst 0, 1) := dk_3 ((dQ_X8_bestOfMenu_0 4).trans dk_j4)
theorem dX8_bestOfMenu_5 : decode cX8_bestOfMenu 5 = .ok (.istore 4, 2) := dk_54 ((dQ_X8_bestOfMenu_0 5).trans dk_j5) ((dQ_X8_bestOfMenu_0 6).trans dk_j6) dk_vu1_4
theorem dX8_bestOfMenu_7 : decode cX8_bestOfMenu 7 = .ok (.iload 4, 2) := dk_21 ((dQ_X8_bestOfMenu_0 7).trans dk_j7) ((dQ_X8_bestOfMenu_0 8).trans dk_j8) dk_vu1_4
theorem dX8_bestOfMenu_9 : decode cX8_bestOfMenu 9 = .ok (.aload_n 0, 1) := dk_42 ((dQ_X8_bestOfMenu_0 9).trans dk_j9)
theorem dX8_bestOfMenu_10 : decode cX8_bestOfMenu 10 = .ok (.getfield 10, 3) := dk_180 ((dQ_X8_bestOfMenu_0 10).trans dk_j10) ((dQ_X8_bestOfMenu_0 11).trans dk_j11) ((dQ_X8_bestOfMenu_0 12).trans dk_j12) dk_vu2_0_10
theorem dX8_bestOfMenu_13 : decode cX8_bestOfMenu 13 = .ok (.getfield 100, 3) := dk_180 ((dQ_X8_bestOfMenu_0 13).trans dk_j13) ((dQ_X8_bestOfMenu_0 14).trans dk_j14) ((dQ_X8_bestOfMenu_0 15).trans dk_j15) dk_vu2_0_100
theorem dX8_bestOfMenu_16 : decode cX8_bestOfMenu 16 = .ok (.bipush 8, 2) := dk_16 ((dQ_X8_bestOfMenu_1 0).trans dk_j0) ((dQ_X8_bestOfMenu_1 1).trans dk_j1) dk_vs1_8
theorem dX8_bestOfMenu_18 : decode cX8_bestOfMenu 18 = .ok (.iaload, 1) := dk_46 ((dQ_X8_bestOfMenu_1 2).trans dk_j2)
theorem dX8_bestOfMenu_19 : decode cX8_bestOfMenu 19 = .ok (.if_icmp .ge 30, 3) := dk_162 ((dQ_X8_bestOfMenu_1 3).trans dk_j3) ((dQ_X8_bestOfMenu_1 4).trans dk_j4) ((dQ_X8_bestOfMenu_1 5).trans dk_j5) dk_vs2_0_30
theorem dX8_bestOfMenu_22 : decode cX8_bestOfMenu 22 = .ok (.aload_n 0, 1) := dk_42 ((dQ_X8_bestOfMenu_1 6).trans dk_j6)
theorem dX8_bestOfMenu_23 : decode cX8_bestOfMenu 23 = .ok (.iload_n 1, 1) := dk_27 ((dQ_X8_bestOfMenu_1 7).trans dk_j7)
theorem dX8_bestOfMenu_24 : decode cX8_bestOfMenu 24 = .ok (.iload 4, 2) := dk_21 ((dQ_X8_bestOfMenu_1 8).trans dk_j8) ((dQ_X8_bestOfMenu_1 9).trans dk_j9) dk_vu1_4
theorem dX8_bestOfMenu_26 : decode cX8_bestOfMenu 26 = .ok (.invokevirtual 241, 3) := dk_182 ((dQ_X8_bestOfMenu_1 10).trans dk_j10) ((dQ_X8_bestOfMenu_1 11).trans dk_j11) ((dQ_X8_bestOfMenu_1 12).trans dk_j12) dk_vu2_0_241
theorem dX8_bestOfMenu_29 : decode cX8_bestOfMenu 29 = .ok (.istore 5, 2) := dk_54 ((dQ_X8_bestOfMenu_1 13).trans dk_j13) ((dQ_X8_bestOfMenu_1 14).trans dk_j14) dk_vu1_5
theorem dX8_bestOfMenu_31 : decode cX8_bestOfMenu 31 = .ok (.iload 5, 2) := dk_21 ((dQ_X8_bestOfMenu_1 15).trans dk_j15) ((dQ_X8_bestOfMenu_2 0).trans dk_j0) dk_vu1_5
theorem dX8_bestOfMenu_33 : decode cX8_bestOfMenu 33 = .ok (.iload_n 3, 1) := dk_29 ((dQ_X8_bestOfMenu_2 1).trans dk_j1)
theorem dX8_bestOfMenu_34 : decode cX8_bestOfMenu 34 = .ok (.if_icmp .le 9, 3) := dk_164 ((dQ_X8_bestOfMenu_2 2).trans dk_j2) ((dQ_X8_bestOfMenu_2 3).trans dk_j3) ((dQ_X8_bestOfMenu_2 4).trans dk_j4) dk_vs2_0_9
theorem dX8_bestOfMenu_37 : decode cX8_bestOfMenu 37 = .ok (.iload 5, 2) := dk_21 ((dQ_X8_bestOfMenu_2 5).trans dk_j5) ((dQ_X8_bestOfMenu_2 6).trans dk_j6) dk_vu1_5
theorem dX8_bestOfMenu_39 : decode cX8_bestOfMenu 39 = .ok (.istore_n 3, 1) := dk_62 ((dQ_X8_bestOfMenu_2 7).trans dk_j7)
theorem dX8_bestOfMenu_40 : decode cX8_bestOfMenu 40 = .ok (.iload 4, 2) := dk_21 ((dQ_X8_bestOfMenu_2 8).trans dk_j8) ((dQ_X8_bestOfMenu_2 9).trans dk_j9) dk_vu1_4
theorem dX8_bestOfMenu_42 : decode cX8_bestOfMenu 42 = .ok (.istore_n 2, 1) := dk_61 ((dQ_X8_bestOfMenu_2 10).trans dk_j10)
theorem dX8_bestOfMenu_43 : decode cX8_bestOfMenu 43 = .ok (.iinc 4 1, 3) := dk_132 ((dQ_X8_bestOfMenu_2 11).trans dk_j11) ((dQ_X8_bestOfMenu_2 12).trans dk_j12) ((dQ_X8_bestOfMenu_2 13).trans dk_j13) dk_vu1_4 dk_vs1_1
theorem dX8_bestOfMenu_46 : decode cX8_bestOfMenu 46 = .ok (.goto (-39), 3) := dk_167 ((dQ_X8_bestOfMenu_2 14).trans dk_j14) ((dQ_X8_bestOfMenu_2 15).trans dk_j15) ((dQ_X8_bestOfMenu_3 0).trans dk_j0) dk_vs2_255_217
theorem dX8_bestOfMenu_49 : decode cX8_bestOfMenu 49 = .ok (.iload_n 2, 1) := dk_28 ((dQ_X8_bestOfMenu_3 1).trans dk_j1)
theorem dX8_bestOfMenu_50 : decode cX8_bestOfMenu 50 = .ok (.ireturn, 1) := dk_172 ((dQ_X8_bestOfMenu_3 2).trans dk_j2)
def dT_X8_gainBy_1 : List UInt8 := (0xac : UInt8) :: []
def dT_X8_gainBy_0 : List UInt8 := (0x2a : UInt8) :: (0x1b : UInt8) :: (0x1c : UInt8) :: (0xb6 : UInt8) :: (0x00 : UInt8) :: (0xf7 : UInt8) :: (0x2a : UInt8) :: (0xb4 : UInt8) :: (0x00 : UInt8) :: (0x0a : UInt8) :: (0x1c : UInt8) :: (0x07 : UInt8) :: (0xb6 : UInt8) :: (0x00 : UInt8) :: (0x75 : UInt8) :: (0x64 : UInt8) :: dT_X8_gainBy_1
theorem dT_X8_gainBy : cX8_gainBy.data.toList = dT_X8_gainBy_0 := eq_of_beq (show (cX8_gainBy.data.toList == dT_X8_gainBy_0) = true by decide +kernel)
theorem dQ_X8_gainBy_0 : dQ_P cX8_gainBy 0 dT_X8_gainBy_0 := fun i => by rw [dT_X8_gainBy]; rfl
theorem dQ_X8_gainBy_1 : dQ_P cX8_gainBy 16 dT_X8_gainBy_1 := fun i => (dQ_X8_gainBy_0 (i + 16)).trans dk_t
theorem dX8_gainBy_0 : decode cX8_gainBy 0 = .ok (.aload_n 0, 1) := dk_42 ((dQ_X8_gainBy_0 0).trans dk_j0)
theorem dX8_gainBy_1 : decode cX8_gainBy 1 = .ok (.iload_n 1, 1) := dk_27 ((dQ_X8_gainBy_0 1).trans dk_j1)
theorem dX8_gainBy_2 : decode cX8_gainBy 2 = .ok (.iload_n 2, 1) := dk_28 ((dQ_X8_gainBy_0 2).trans dk_j2)
theorem dk_vu2_0_247 : (0x00 : UInt8).toNat * 256 + (0xf7 : UInt8).toNat = (247 : Nat) := by decide +kernel
theorem dX8_gainBy_3 : decode cX8_gainBy 3 = .ok (.invokevirtual 247, 3) := dk_182 ((dQ_X8_gainBy_0 3).trans dk_j3) ((dQ_X8_gainBy_0 4).trans dk_j4) ((dQ_X8_gainBy_0 5).trans dk_j5) dk_vu2_0_247
theorem dX8_gainBy_6 : decode cX8_gainBy 6 = .ok (.aload_n 0, 1) := dk_42 ((dQ_X8_gainBy_0 6).trans dk_j6)
theorem dX8_gainBy_7 : decode cX8_gainBy 7 = .ok (.getfield 10, 3) := dk_180 ((dQ_X8_gainBy_0 7).trans dk_j7) ((dQ_X8_gainBy_0 8).trans dk_j8) ((dQ_X8_gainBy_0 9).trans dk_j9) dk_vu2_0_10
theorem dX8_gainBy_10 : decode cX8_gainBy 10 = .ok (.iload_n 2, 1) := dk_28 ((dQ_X8_gainBy_0 10).trans dk_j10)
theorem dX8_gainBy_11 : decode cX8_gainBy 11 = .ok (.iconst 4, 1) := dk_7 ((dQ_X8_gainBy_0 11).trans dk_j11)
theorem dX8_gainBy_12 : decode cX8_gainBy 12 = .ok (.invokevirtual 117, 3) := dk_182 ((dQ_X8_gainBy_0 12).trans dk_j12) ((dQ_X8_gainBy_0 13).trans dk_j13) ((dQ_X8_gainBy_0 14).trans dk_j14) dk_vu2_0_117
theorem dX8_gainBy_15 : decode cX8_gainBy 15 = .ok (.isub, 1) := dk_100 ((dQ_X8_gainBy_0 15).trans dk_j15)
theorem dX8_gainBy_16 : decode cX8_gainBy 16 = .ok (.ireturn, 1) := dk_172 ((dQ_X8_gainBy_1 0).trans dk_j0)
def dT_X8_claimAsIfOf_2 : List UInt8 := (0xb8 : UInt8) :: (0x00 : UInt8) :: (0xfa : UInt8) :: (0xac : UInt8) :: []
def dT_X8_claimAsIfOf_1 : List UInt8 := (0x00 : UInt8) :: (0x2c : UInt8) :: (0xb4 : UInt8) :: (0x00 : UInt8) :: (0x83 : UInt8) :: (0x1b : UInt8) :: (0x2e : UInt8) :: (0x2a : UInt8) :: (0xb4 : UInt8) :: (0x00 : UInt8) :: (0x2c : UInt8) :: (0xb4 : UInt8) :: (0x00 : UInt8) :: (0xc4 : UInt8) :: (0x1b : UInt8) :: (0x2e : UInt8) :: dT_X8_claimAsIfOf_2
def dT_X8_claimAsIfOf_0 : List UInt8 := (0x2a : UInt8) :: (0xb4 : UInt8) :: (0x00 : UInt8) :: (0x0a : UInt8) :: (0x2a : UInt8) :: (0xb4 : UInt8) :: (0x00 : UInt8) :: (0x0a : UInt8) :: (0xb4 : UInt8) :: (0x00 : UInt8) :: (0x64 : UInt8) :: (0x05 : UInt8) :: (0x2e : UInt8) :: (0x1c : UInt8) :: (0x2a : UInt8) :: (0xb4 : UInt8) :: dT_X8_claimAsIfOf_1
theorem dT_X8_claimAsIfOf : cX8_claimAsIfOf.data.toList = dT_X8_claimAsIfOf_0 := eq_of_beq (show (cX8_claimAsIfOf.data.toList == dT_X8_claimAsIfOf_0) = true by decide +kernel)
theorem dQ_X8_claimAsIfOf_0 : dQ_P cX8_claimAsIfOf 0 dT_X8_claimAsIfOf_0 := fun i => by rw [dT_X8_claimAsIfOf]; rfl
theorem dQ_X8_claimAsIfOf_1 : dQ_P cX8_claimAsIfOf 16 dT_X8_claimAsIfOf_1 := fun i => (dQ_X8_claimAsIfOf_0 (i + 16)).trans dk_t
theorem dQ_X8_claimAsIfOf_2 : dQ_P cX8_claimAsIfOf 32 dT_X8_claimAsIfOf_2 := fun i => (dQ_X8_claimAsIfOf_1 (i + 16)).trans dk_t
theorem dX8_claimAsIfOf_0 : decode cX8_claimAsIfOf 0 = .ok (.aload_n 0, 1) := dk_42 ((dQ_X8_claimAsIfOf_0 0).trans dk_j0)
theorem dX8_claimAsIfOf_1 : decode cX8_claimAsIfOf 1 = .ok (.getfield 10, 3) := dk_180 ((dQ_X8_claimAsIfOf_0 1).trans dk_j1) ((dQ_X8_claimAsIfOf_0 2).trans dk_j2) ((dQ_X8_claimAsIfOf_0 3).trans dk_j3) dk_vu2_0_10
theorem dX8_claimAsIfOf_4 : decode cX8_claimAsIfOf 4 = .ok (.aload_n 0, 1) := dk_42 ((dQ_X8_claimAsIfOf_0 4).trans dk_j4)
theorem dX8_claimAsIfOf_5 : decode cX8_claimAsIfOf 5 = .ok (.getfield 10, 3) := dk_180 ((dQ_X8_claimAsIfOf_0 5).trans dk_j5) ((dQ_X8_claimAsIfOf_0 6).trans dk_j6) ((dQ_X8_claimAsIfOf_0 7).trans dk_j7) dk_vu2_0_10
theorem dX8_claimAsIfOf_8 : decode cX8_claimAsIfOf 8 = .ok (.getfield 100, 3) := dk_180 ((dQ_X8_claimAsIfOf_0 8).trans dk_j8) ((dQ_X8_claimAsIfOf_0 9).trans dk_j9) ((dQ_X8_claimAsIfOf_0 10).trans dk_j10) dk_vu2_0_100
theorem dX8_claimAsIfOf_11 : decode cX8_claimAsIfOf 11 = .ok (.iconst 2, 1) := dk_5 ((dQ_X8_claimAsIfOf_0 11).trans dk_j11)
theorem dX8_claimAsIfOf_12 : decode cX8_claimAsIfOf 12 = .ok (.iaload, 1) := dk_46 ((dQ_X8_claimAsIfOf_0 12).trans dk_j12)
theorem dX8_claimAsIfOf_13 : decode cX8_claimAsIfOf 13 = .ok (.iload_n 2, 1) := dk_28 ((dQ_X8_claimAsIfOf_0 13).trans dk_j13)
theorem dX8_claimAsIfOf_14 : decode cX8_claimAsIfOf 14 = .ok (.aload_n 0, 1) := dk_42 ((dQ_X8_claimAsIfOf_0 14).trans dk_j14)
theorem dX8_claimAsIfOf_15 : decode cX8_claimAsIfOf 15 = .ok (.getfield 44, 3) := dk_180 ((dQ_X8_claimAsIfOf_0 15).trans dk_j15) ((dQ_X8_claimAsIfOf_1 0).trans dk_j0) ((dQ_X8_claimAsIfOf_1 1).trans dk_j1) dk_vu2_0_44
theorem dX8_claimAsIfOf_18 : decode cX8_claimAsIfOf 18 = .ok (.getfield 131, 3) := dk_180 ((dQ_X8_claimAsIfOf_1 2).trans dk_j2) ((dQ_X8_claimAsIfOf_1 3).trans dk_j3) ((dQ_X8_claimAsIfOf_1 4).trans dk_j4) dk_vu2_0_131
theorem dX8_claimAsIfOf_21 : decode cX8_claimAsIfOf 21 = .ok (.iload_n 1, 1) := dk_27 ((dQ_X8_claimAsIfOf_1 5).trans dk_j5)
theorem dX8_claimAsIfOf_22 : decode cX8_claimAsIfOf 22 = .ok (.iaload, 1) := dk_46 ((dQ_X8_claimAsIfOf_1 6).trans dk_j6)
theorem dX8_claimAsIfOf_23 : decode cX8_claimAsIfOf 23 = .ok (.aload_n 0, 1) := dk_42 ((dQ_X8_claimAsIfOf_1 7).trans dk_j7)
theorem dX8_claimAsIfOf_24 : decode cX8_claimAsIfOf 24 = .ok (.getfield 44, 3) := dk_180 ((dQ_X8_claimAsIfOf_1 8).trans dk_j8) ((dQ_X8_claimAsIfOf_1 9).trans dk_j9) ((dQ_X8_claimAsIfOf_1 10).trans dk_j10) dk_vu2_0_44
theorem dX8_claimAsIfOf_27 : decode cX8_claimAsIfOf 27 = .ok (.getfield 196, 3) := dk_180 ((dQ_X8_claimAsIfOf_1 11).trans dk_j11) ((dQ_X8_claimAsIfOf_1 12).trans dk_j12) ((dQ_X8_claimAsIfOf_1 13).trans dk_j13) dk_vu2_0_196
theorem dX8_claimAsIfOf_30 : decode cX8_claimAsIfOf 30 = .ok (.iload_n 1, 1) := dk_27 ((dQ_X8_claimAsIfOf_1 14).trans dk_j14)
theorem dX8_claimAsIfOf_31 : decode cX8_claimAsIfOf 31 = .ok (.iaload, 1) := dk_46 ((dQ_X8_claimAsIfOf_1 15).trans dk_j15)
theorem dk_vu2_0_250 : (0x00 : UInt8).toNat * 256 + (0xfa : UInt8).toNat = (250 : Nat) := by decide +kernel
theorem dX8_claimAsIfOf_32 : decode cX8_claimAsIfOf 32 = .ok (.invokestatic 250, 3) := dk_184 ((dQ_X8_claimAsIfOf_2 0).trans dk_j0) ((dQ_X8_claimAsIfOf_2 1).trans dk_j1) ((dQ_X8_claimAsIfOf_2 2).trans dk_j2) dk_vu2_0_250
theorem dX8_claimAsIfOf_35 : decode cX8_claimAsIfOf 35 = .ok (.ireturn, 1) := dk_172 ((dQ_X8_claimAsIfOf_2 3).trans dk_j3)
def dT_X8_priceFor_4 : List UInt8 := (0xff : UInt8) :: (0xc6 : UInt8) :: (0x03 : UInt8) :: (0x2a : UInt8) :: (0x1b : UInt8) :: (0x1c : UInt8) :: (0xb6 : UInt8) :: (0x00 : UInt8) :: (0xf7 : UInt8) :: (0x1d : UInt8) :: (0x64 : UInt8) :: (0xb8 : UInt8) :: (0x00 : UInt8) :: (0x9a : UInt8) :: (0xac : UInt8) :: []
def dT_X8_priceFor_3 : List UInt8 := (0xa4 : UInt8) :: (0x00 : UInt8) :: (0x0c : UInt8) :: (0x1d : UInt8) :: (0x15 : UInt8) :: (0x05 : UInt8) :: (0x04 : UInt8) :: (0x64 : UInt8) :: (0xb8 : UInt8) :: (0x00 : UInt8) :: (0x9a : UInt8) :: (0x3e : UInt8) :: (0x84 : UInt8) :: (0x04 : UInt8) :: (0x01 : UInt8) :: (0xa7 : UInt8) :: dT_X8_priceFor_4
def dT_X8_priceFor_2 : List UInt8 := (0xa2 : UInt8) :: (0x00 : UInt8) :: (0x0d : UInt8) :: (0x1d : UInt8) :: (0x15 : UInt8) :: (0x05 : UInt8) :: (0xb8 : UInt8) :: (0x00 : UInt8) :: (0x9a : UInt8) :: (0x3e : UInt8) :: (0xa7 : UInt8) :: (0x00 : UInt8) :: (0x12 : UInt8) :: (0x15 : UInt8) :: (0x04 : UInt8) :: (0x1c : UInt8) :: dT_X8_priceFor_3
def dT_X8_priceFor_1 : List UInt8 := (0x2e : UInt8) :: (0xa2 : UInt8) :: (0x00 : UInt8) :: (0x31 : UInt8) :: (0x2a : UInt8) :: (0x1b : UInt8) :: (0x15 : UInt8) :: (0x04 : UInt8) :: (0xb6 : UInt8) :: (0x00 : UInt8) :: (0xf1 : UInt8) :: (0x36 : UInt8) :: (0x05 : UInt8) :: (0x15 : UInt8) :: (0x04 : UInt8) :: (0x1c : UInt8) :: dT_X8_priceFor_2
def dT_X8_priceFor_0 : List UInt8 := (0x03 : UInt8) :: (0x3e : UInt8) :: (0x03 : UInt8) :: (0x36 : UInt8) :: (0x04 : UInt8) :: (0x15 : UInt8) :: (0x04 : UInt8) :: (0x2a : UInt8) :: (0xb4 : UInt8) :: (0x00 : UInt8) :: (0x0a : UInt8) :: (0xb4 : UInt8) :: (0x00 : UInt8) :: (0x64 : UInt8) :: (0x10 : UInt8) :: (0x08 : UInt8) :: dT_X8_priceFor_1
theorem dT_X8_priceFor : cX8_priceFor.data.toList = dT_X8_priceFor_0 := eq_of_beq (show (cX8_priceFor.data.toList == dT_X8_priceFor_0) = true by decide +kernel)
theorem dQ_X8_priceFor_0 : dQ_P cX8_priceFor 0 dT_X8_priceFor_0 := fun i => by rw [dT_X8_priceFor]; rfl
theorem dQ_X8_priceFor_1 : dQ_P cX8_priceFor 16 dT_X8_priceFor_1 := fun i => (dQ_X8_priceFor_0 (i + 16)).trans dk_t
theorem dQ_X8_priceFor_2 : dQ_P cX8_priceFor 32 dT_X8_priceFor_2 := fun i => (dQ_X8_priceFor_1 (i + 16)).trans dk_t
theorem dQ_X8_priceFor_3 : dQ_P cX8_priceFor 48 dT_X8_priceFor_3 := fun i => (dQ_X8_priceFor_2 (i + 16)).trans dk_t
theorem dQ_X8_priceFor_4 : dQ_P cX8_priceFor 64 dT_X8_priceFor_4 := fun i => (dQ_X8_priceFor_3 (i + 16)).trans dk_t
theorem dX8_priceFor_0 : decode cX8_priceFor 0 = .ok (.iconst 0, 1) := dk_3 ((dQ_X8_priceFor_0 0).trans dk_j0)
theorem dX8_priceFor_1 : decode cX8_priceFor 1 = .ok (.istore_n 3, 1) := dk_62 ((dQ_X8_priceFor_0 1).trans dk_j1)
theorem dX8_priceFor_2 : decode cX8_priceFor 2 = .ok (.iconst 0, 1) := dk_3 ((dQ_X8_priceFor_0 2).trans dk_j2)
theorem dX8_priceFor_3 : decode cX8_priceFor 3 = .ok (.istore 4, 2) := dk_54 ((dQ_X8_priceFor_0 3).trans dk_j3) ((dQ_X8_priceFor_0 4).trans dk_j4) dk_vu1_4
theorem dX8_priceFor_5 : decode cX8_priceFor 5 = .ok (.iload 4, 2) := dk_21 ((dQ_X8_priceFor_0 5).trans dk_j5) ((dQ_X8_priceFor_0 6).trans dk_j6) dk_vu1_4
theorem dX8_priceFor_7 : decode cX8_priceFor 7 = .ok (.aload_n 0, 1) := dk_42 ((dQ_X8_priceFor_0 7).trans dk_j7)
theorem dX8_priceFor_8 : decode cX8_priceFor 8 = .ok (.getfield 10, 3) := dk_180 ((dQ_X8_priceFor_0 8).trans dk_j8) ((dQ_X8_priceFor_0 9).trans dk_j9) ((dQ_X8_priceFor_0 10).trans dk_j10) dk_vu2_0_10
theorem dX8_priceFor_11 : decode cX8_priceFor 11 = .ok (.getfield 100, 3) := dk_180 ((dQ_X8_priceFor_0 11).trans dk_j11) ((dQ_X8_priceFor_0 12).trans dk_j12) ((dQ_X8_priceFor_0 13).trans dk_j13) dk_vu2_0_100
theorem dX8_priceFor_14 : decode cX8_priceFor 14 = .ok (.bipush 8, 2) := dk_16 ((dQ_X8_priceFor_0 14).trans dk_j14) ((dQ_X8_priceFor_0 15).trans dk_j15) dk_vs1_8
theorem dX8_priceFor_16 : decode cX8_priceFor 16 = .ok (.iaload, 1) := dk_46 ((dQ_X8_priceFor_1 0).trans dk_j0)
theorem dX8_priceFor_17 : decode cX8_priceFor 17 = .ok (.if_icmp .ge 49, 3) := dk_162 ((dQ_X8_priceFor_1 1).trans dk_j1) ((dQ_X8_priceFor_1 2).trans dk_j2) ((dQ_X8_priceFor_1 3).trans dk_j3) dk_vs2_0_49
theorem dX8_priceFor_20 : decode cX8_priceFor 20 = .ok (.aload_n 0, 1) := dk_42 ((dQ_X8_priceFor_1 4).trans dk_j4)
theorem dX8_priceFor_21 : decode cX8_priceFor 21 = .ok (.iload_n 1, 1) := dk_27 ((dQ_X8_priceFor_1 5).trans dk_j5)
theorem dX8_priceFor_22 : decode cX8_priceFor 22 = .ok (.iload 4, 2) := dk_21 ((dQ_X8_priceFor_1 6).trans dk_j6) ((dQ_X8_priceFor_1 7).trans dk_j7) dk_vu1_4
theorem dX8_priceFor_24 : decode cX8_priceFor 24 = .ok (.invokevirtual 241, 3) := dk_182 ((dQ_X8_priceFor_1 8).trans dk_j8) ((dQ_X8_priceFor_1 9).trans dk_j9) ((dQ_X8_priceFor_1 10).trans dk_j10) dk_vu2_0_241
theorem dX8_priceFor_27 : decode cX8_priceFor 27 = .ok (.istore 5, 2) := dk_54 ((dQ_X8_priceFor_1 11).trans dk_j11) ((dQ_X8_priceFor_1 12).trans dk_j12) dk_vu1_5
theorem dX8_priceFor_29 : decode cX8_priceFor 29 = .ok (.iload 4, 2) := dk_21 ((dQ_X8_priceFor_1 13).trans dk_j13) ((dQ_X8_priceFor_1 14).trans dk_j14) dk_vu1_4
theorem dX8_priceFor_31 : decode cX8_priceFor 31 = .ok (.iload_n 2, 1) := dk_28 ((dQ_X8_priceFor_1 15).trans dk_j15)
theorem dX8_priceFor_32 : decode cX8_priceFor 32 = .ok (.if_icmp .ge 13, 3) := dk_162 ((dQ_X8_priceFor_2 0).trans dk_j0) ((dQ_X8_priceFor_2 1).trans dk_j1) ((dQ_X8_priceFor_2 2).trans dk_j2) dk_vs2_0_13
theorem dX8_priceFor_35 : decode cX8_priceFor 35 = .ok (.iload_n 3, 1) := dk_29 ((dQ_X8_priceFor_2 3).trans dk_j3)
theorem dX8_priceFor_36 : decode cX8_priceFor 36 = .ok (.iload 5, 2) := dk_21 ((dQ_X8_priceFor_2 4).trans dk_j4) ((dQ_X8_priceFor_2 5).trans dk_j5) dk_vu1_5
theorem dX8_priceFor_38 : decode cX8_priceFor 38 = .ok (.invokestatic 154, 3) := dk_184 ((dQ_X8_priceFor_2 6).trans dk_j6) ((dQ_X8_priceFor_2 7).trans dk_j7) ((dQ_X8_priceFor_2 8).trans dk_j8) dk_vu2_0_154
theorem dX8_priceFor_41 : decode cX8_priceFor 41 = .ok (.istore_n 3, 1) := dk_62 ((dQ_X8_priceFor_2 9).trans dk_j9)
theorem dX8_priceFor_42 : decode cX8_priceFor 42 = .ok (.goto 18, 3) := dk_167 ((dQ_X8_priceFor_2 10).trans dk_j10) ((dQ_X8_priceFor_2 11).trans dk_j11) ((dQ_X8_priceFor_2 12).trans dk_j12) dk_vs2_0_18
theorem dX8_priceFor_45 : decode cX8_priceFor 45 = .ok (.iload 4, 2) := dk_21 ((dQ_X8_priceFor_2 13).trans dk_j13) ((dQ_X8_priceFor_2 14).trans dk_j14) dk_vu1_4
theorem dX8_priceFor_47 : decode cX8_priceFor 47 = .ok (.iload_n 2, 1) := dk_28 ((dQ_X8_priceFor_2 15).trans dk_j15)
theorem dX8_priceFor_48 : decode cX8_priceFor 48 = .ok (.if_icmp .le 12, 3) := dk_164 ((dQ_X8_priceFor_3 0).trans dk_j0) ((dQ_X8_priceFor_3 1).trans dk_j1) ((dQ_X8_priceFor_3 2).trans dk_j2) dk_vs2_0_12
theorem dX8_priceFor_51 : decode cX8_priceFor 51 = .ok (.iload_n 3, 1) := dk_29 ((dQ_X8_priceFor_3 3).trans dk_j3)
theorem dX8_priceFor_52 : decode cX8_priceFor 52 = .ok (.iload 5, 2) := dk_21 ((dQ_X8_priceFor_3 4).trans dk_j4) ((dQ_X8_priceFor_3 5).trans dk_j5) dk_vu1_5
theorem dX8_priceFor_54 : decode cX8_priceFor 54 = .ok (.iconst 1, 1) := dk_4 ((dQ_X8_priceFor_3 6).trans dk_j6)
theorem dX8_priceFor_55 : decode cX8_priceFor 55 = .ok (.isub, 1) := dk_100 ((dQ_X8_priceFor_3 7).trans dk_j7)
theorem dX8_priceFor_56 : decode cX8_priceFor 56 = .ok (.invokestatic 154, 3) := dk_184 ((dQ_X8_priceFor_3 8).trans dk_j8) ((dQ_X8_priceFor_3 9).trans dk_j9) ((dQ_X8_priceFor_3 10).trans dk_j10) dk_vu2_0_154
theorem dX8_priceFor_59 : decode cX8_priceFor 59 = .ok (.istore_n 3, 1) := dk_62 ((dQ_X8_priceFor_3 11).trans dk_j11)
theorem dX8_priceFor_60 : decode cX8_priceFor 60 = .ok (.iinc 4 1, 3) := dk_132 ((dQ_X8_priceFor_3 12).trans dk_j12) ((dQ_X8_priceFor_3 13).trans dk_j13) ((dQ_X8_priceFor_3 14).trans dk_j14) dk_vu1_4 dk_vs1_1
theorem dX8_priceFor_63 : decode cX8_priceFor 63 = .ok (.goto (-58), 3) := dk_167 ((dQ_X8_priceFor_3 15).trans dk_j15) ((dQ_X8_priceFor_4 0).trans dk_j0) ((dQ_X8_priceFor_4 1).trans dk_j1) dk_vs2_255_198
theorem dX8_priceFor_66 : decode cX8_priceFor 66 = .ok (.iconst 0, 1) := dk_3 ((dQ_X8_priceFor_4 2).trans dk_j2)
theorem dX8_priceFor_67 : decode cX8_priceFor 67 = .ok (.aload_n 0, 1) := dk_42 ((dQ_X8_priceFor_4 3).trans dk_j3)
theorem dX8_priceFor_68 : decode cX8_priceFor 68 = .ok (.iload_n 1, 1) := dk_27 ((dQ_X8_priceFor_4 4).trans dk_j4)
theorem dX8_priceFor_69 : decode cX8_priceFor 69 = .ok (.iload_n 2, 1) := dk_28 ((dQ_X8_priceFor_4 5).trans dk_j5)
theorem dX8_priceFor_70 : decode cX8_priceFor 70 = .ok (.invokevirtual 247, 3) := dk_182 ((dQ_X8_priceFor_4 6).trans dk_j6) ((dQ_X8_priceFor_4 7).trans dk_j7) ((dQ_X8_priceFor_4 8).trans dk_j8) dk_vu2_0_247
theorem dX8_priceFor_73 : decode cX8_priceFor 73 = .ok (.iload_n 3, 1) := dk_29 ((dQ_X8_priceFor_4 9).trans dk_j9)
theorem dX8_priceFor_74 : decode cX8_priceFor 74 = .ok (.isub, 1) := dk_100 ((dQ_X8_priceFor_4 10).trans dk_j10)
theorem dX8_priceFor_75 : decode cX8_priceFor 75 = .ok (.invokestatic 154, 3) := dk_184 ((dQ_X8_priceFor_4 11).trans dk_j11) ((dQ_X8_priceFor_4 12).trans dk_j12) ((dQ_X8_priceFor_4 13).trans dk_j13) dk_vu2_0_154
theorem dX8_priceFor_78 : decode cX8_priceFor 78 = .ok (.ireturn, 1) := dk_172 ((dQ_X8_priceFor_4 14).trans dk_j14)
def dT_X8_hold_2 : List UInt8 := (0x00 : UInt8) :: (0xff : UInt8) :: (0xac : UInt8) :: []
def dT_X8_hold_1 : List UInt8 := (0xb4 : UInt8) :: (0x00 : UInt8) :: (0x0a : UInt8) :: (0x2a : UInt8) :: (0xb4 : UInt8) :: (0x00 : UInt8) :: (0x2c : UInt8) :: (0x1b : UInt8) :: (0xb6 : UInt8) :: (0x00 : UInt8) :: (0xfe : UInt8) :: (0x2a : UInt8) :: (0xb4 : UInt8) :: (0x00 : UInt8) :: (0x3d : UInt8) :: (0xb6 : UInt8) :: dT_X8_hold_2
def dT_X8_hold_0 : List UInt8 := (0x2a : UInt8) :: (0x1b : UInt8) :: (0xb6 : UInt8) :: (0x00 : UInt8) :: (0x72 : UInt8) :: (0x9a : UInt8) :: (0x00 : UInt8) :: (0x06 : UInt8) :: (0x10 : UInt8) :: (0xfe : UInt8) :: (0xac : UInt8) :: (0x2a : UInt8) :: (0xb4 : UInt8) :: (0x00 : UInt8) :: (0x3d : UInt8) :: (0x2a : UInt8) :: dT_X8_hold_1
theorem dT_X8_hold : cX8_hold.data.toList = dT_X8_hold_0 := eq_of_beq (show (cX8_hold.data.toList == dT_X8_hold_0) = true by decide +kernel)
theorem dQ_X8_hold_0 : dQ_P cX8_hold 0 dT_X8_hold_0 := fun i => by rw [dT_X8_hold]; rfl
theorem dQ_X8_hold_1 : dQ_P cX8_hold 16 dT_X8_hold_1 := fun i => (dQ_X8_hold_0 (i + 16)).trans dk_t
theorem dQ_X8_hold_2 : dQ_P cX8_hold 32 dT_X8_hold_2 := fun i => (dQ_X8_hold_1 (i + 16)).trans dk_t
theorem dX8_hold_0 : decode cX8_hold 0 = .ok (.aload_n 0, 1) := dk_42 ((dQ_X8_hold_0 0).trans dk_j0)
theorem dX8_hold_1 : decode cX8_hold 1 = .ok (.iload_n 1, 1) := dk_27 ((dQ_X8_hold_0 1).trans dk_j1)
theorem dX8_hold_2 : decode cX8_hold 2 = .ok (.invokevirtual 114, 3) := dk_182 ((dQ_X8_hold_0 2).trans dk_j2) ((dQ_X8_hold_0 3).trans dk_j3) ((dQ_X8_hold_0 4).trans dk_j4) dk_vu2_0_114
theorem dX8_hold_5 : decode cX8_hold 5 = .ok (.ifCond .ne 6, 3) := dk_154 ((dQ_X8_hold_0 5).trans dk_j5) ((dQ_X8_hold_0 6).trans dk_j6) ((dQ_X8_hold_0 7).trans dk_j7) dk_vs2_0_6
theorem dX8_hold_8 : decode cX8_hold 8 = .ok (.bipush (-2), 2) := dk_16 ((dQ_X8_hold_0 8).trans dk_j8) ((dQ_X8_hold_0 9).trans dk_j9) dk_vs1_254
theorem dX8_hold_10 : decode cX8_hold 10 = .ok (.ireturn, 1) := dk_172 ((dQ_X8_hold_0 10).trans dk_j10)
theorem dX8_hold_11 : decode cX8_hold 11 = .ok (.aload_n 0, 1) := dk_42 ((dQ_X8_hold_0 11).trans dk_j11)
theorem dX8_hold_12 : decode cX8_hold 12 = .ok (.getfield 61, 3) := dk_180 ((dQ_X8_hold_0 12).trans dk_j12) ((dQ_X8_hold_0 13).trans dk_j13) ((dQ_X8_hold_0 14).trans dk_j14) dk_vu2_0_61
theorem dX8_hold_15 : decode cX8_hold 15 = .ok (.aload_n 0, 1) := dk_42 ((dQ_X8_hold_0 15).trans dk_j15)
theorem dX8_hold_16 : decode cX8_hold 16 = .ok (.getfield 10, 3) := dk_180 ((dQ_X8_hold_1 0).trans dk_j0) ((dQ_X8_hold_1 1).trans dk_j1) ((dQ_X8_hold_1 2).trans dk_j2) dk_vu2_0_10
theorem dX8_hold_19 : decode cX8_hold 19 = .ok (.aload_n 0, 1) := dk_42 ((dQ_X8_hold_1 3).trans dk_j3)
theorem dX8_hold_20 : decode cX8_hold 20 = .ok (.getfield 44, 3) := dk_180 ((dQ_X8_hold_1 4).trans dk_j4) ((dQ_X8_hold_1 5).trans dk_j5) ((dQ_X8_hold_1 6).trans dk_j6) dk_vu2_0_44
theorem dX8_hold_23 : decode cX8_hold 23 = .ok (.iload_n 1, 1) := dk_27 ((dQ_X8_hold_1 7).trans dk_j7)
theorem dX8_hold_24 : decode cX8_hold 24 = .ok (.invokevirtual 254, 3) := dk_182 ((dQ_X8_hold_1 8).trans dk_j8) ((dQ_X8_hold_1 9).trans dk_j9) ((dQ_X8_hold_1 10).trans dk_j10) dk_vu2_0_254
theorem dX8_hold_27 : decode cX8_hold 27 = .ok (.aload_n 0, 1) := dk_42 ((dQ_X8_hold_1 11).trans dk_j11)
theorem dX8_hold_28 : decode cX8_hold 28 = .ok (.getfield 61, 3) := dk_180 ((dQ_X8_hold_1 12).trans dk_j12) ((dQ_X8_hold_1 13).trans dk_j13) ((dQ_X8_hold_1 14).trans dk_j14) dk_vu2_0_61
theorem dk_vu2_0_255 : (0x00 : UInt8).toNat * 256 + (0xff : UInt8).toNat = (255 : Nat) := by decide +kernel
theorem dX8_hold_31 : decode cX8_hold 31 = .ok (.invokevirtual 255, 3) := dk_182 ((dQ_X8_hold_1 15).trans dk_j15) ((dQ_X8_hold_2 0).trans dk_j0) ((dQ_X8_hold_2 1).trans dk_j1) dk_vu2_0_255
theorem dX8_hold_34 : decode cX8_hold 34 = .ok (.ireturn, 1) := dk_172 ((dQ_X8_hold_2 2).trans dk_j2)
def dT_X8_holds_2 : List UInt8 := (0x01 : UInt8) :: (0x02 : UInt8) :: (0xac : UInt8) :: []
def dT_X8_holds_1 : List UInt8 := (0xb4 : UInt8) :: (0x00 : UInt8) :: (0x0a : UInt8) :: (0x2a : UInt8) :: (0xb4 : UInt8) :: (0x00 : UInt8) :: (0x2c : UInt8) :: (0x1b : UInt8) :: (0xb6 : UInt8) :: (0x00 : UInt8) :: (0xfe : UInt8) :: (0x2a : UInt8) :: (0xb4 : UInt8) :: (0x00 : UInt8) :: (0x3d : UInt8) :: (0xb6 : UInt8) :: dT_X8_holds_2
def dT_X8_holds_0 : List UInt8 := (0x2a : UInt8) :: (0x1b : UInt8) :: (0xb6 : UInt8) :: (0x00 : UInt8) :: (0x72 : UInt8) :: (0x9a : UInt8) :: (0x00 : UInt8) :: (0x06 : UInt8) :: (0x10 : UInt8) :: (0xfe : UInt8) :: (0xac : UInt8) :: (0x2a : UInt8) :: (0xb4 : UInt8) :: (0x00 : UInt8) :: (0x3d : UInt8) :: (0x2a : UInt8) :: dT_X8_holds_1
theorem dT_X8_holds : cX8_holds.data.toList = dT_X8_holds_0 := eq_of_beq (show (cX8_holds.data.toList == dT_X8_holds_0) = true by decide +kernel)
theorem dQ_X8_holds_0 : dQ_P cX8_holds 0 dT_X8_holds_0 := fun i => by rw [dT_X8_holds]; rfl
theorem dQ_X8_holds_1 : dQ_P cX8_holds 16 dT_X8_holds_1 := fun i => (dQ_X8_holds_0 (i + 16)).trans dk_t
theorem dQ_X8_holds_2 : dQ_P cX8_holds 32 dT_X8_holds_2 := fun i => (dQ_X8_holds_1 (i + 16)).trans dk_t
theorem dX8_holds_0 : decode cX8_holds 0 = .ok (.aload_n 0, 1) := dk_42 ((dQ_X8_holds_0 0).trans dk_j0)
theorem dX8_holds_1 : decode cX8_holds 1 = .ok (.iload_n 1, 1) := dk_27 ((dQ_X8_holds_0 1).trans dk_j1)
theorem dX8_holds_2 : decode cX8_holds 2 = .ok (.invokevirtual 114, 3) := dk_182 ((dQ_X8_holds_0 2).trans dk_j2) ((dQ_X8_holds_0 3).trans dk_j3) ((dQ_X8_holds_0 4).trans dk_j4) dk_vu2_0_114
theorem dX8_holds_5 : decode cX8_holds 5 = .ok (.ifCond .ne 6, 3) := dk_154 ((dQ_X8_holds_0 5).trans dk_j5) ((dQ_X8_holds_0 6).trans dk_j6) ((dQ_X8_holds_0 7).trans dk_j7) dk_vs2_0_6
theorem dX8_holds_8 : decode cX8_holds 8 = .ok (.bipush (-2), 2) := dk_16 ((dQ_X8_holds_0 8).trans dk_j8) ((dQ_X8_holds_0 9).trans dk_j9) dk_vs1_254
theorem dX8_holds_10 : decode cX8_holds 10 = .ok (.ireturn, 1) := dk_172 ((dQ_X8_holds_0 10).trans dk_j10)
theorem dX8_holds_11 : decode cX8_holds 11 = .ok (.aload_n 0, 1) := dk_42 ((dQ_X8_holds_0 11).trans dk_j11)
theorem dX8_holds_12 : decode cX8_holds 12 = .ok (.getfield 61, 3) := dk_180 ((dQ_X8_holds_0 12).trans dk_j12) ((dQ_X8_holds_0 13).trans dk_j13) ((dQ_X8_holds_0 14).trans dk_j14) dk_vu2_0_61
theorem dX8_holds_15 : decode cX8_holds 15 = .ok (.aload_n 0, 1) := dk_42 ((dQ_X8_holds_0 15).trans dk_j15)
theorem dX8_holds_16 : decode cX8_holds 16 = .ok (.getfield 10, 3) := dk_180 ((dQ_X8_holds_1 0).trans dk_j0) ((dQ_X8_holds_1 1).trans dk_j1) ((dQ_X8_holds_1 2).trans dk_j2) dk_vu2_0_10
theorem dX8_holds_19 : decode cX8_holds 19 = .ok (.aload_n 0, 1) := dk_42 ((dQ_X8_holds_1 3).trans dk_j3)
theorem dX8_holds_20 : decode cX8_holds 20 = .ok (.getfield 44, 3) := dk_180 ((dQ_X8_holds_1 4).trans dk_j4) ((dQ_X8_holds_1 5).trans dk_j5) ((dQ_X8_holds_1 6).trans dk_j6) dk_vu2_0_44
theorem dX8_holds_23 : decode cX8_holds 23 = .ok (.iload_n 1, 1) := dk_27 ((dQ_X8_holds_1 7).trans dk_j7)
theorem dX8_holds_24 : decode cX8_holds 24 = .ok (.invokevirtual 254, 3) := dk_182 ((dQ_X8_holds_1 8).trans dk_j8) ((dQ_X8_holds_1 9).trans dk_j9) ((dQ_X8_holds_1 10).trans dk_j10) dk_vu2_0_254
theorem dX8_holds_27 : decode cX8_holds 27 = .ok (.aload_n 0, 1) := dk_42 ((dQ_X8_holds_1 11).trans dk_j11)
theorem dX8_holds_28 : decode cX8_holds 28 = .ok (.getfield 61, 3) := dk_180 ((dQ_X8_holds_1 12).trans dk_j12) ((dQ_X8_holds_1 13).trans dk_j13) ((dQ_X8_holds_1 14).trans dk_j14) dk_vu2_0_61
theorem dk_vu2_1_2 : (0x01 : UInt8).toNat * 256 + (0x02 : UInt8).toNat = (258 : Nat) := by decide +kernel
theorem dX8_holds_31 : decode cX8_holds 31 = .ok (.invokevirtual 258, 3) := dk_182 ((dQ_X8_holds_1 15).trans dk_j15) ((dQ_X8_holds_2 0).trans dk_j0) ((dQ_X8_holds_2 1).trans dk_j1) dk_vu2_1_2
theorem dX8_holds_34 : decode cX8_holds 34 = .ok (.ireturn, 1) := dk_172 ((dQ_X8_holds_2 2).trans dk_j2)
def dT_X8_snuff_1 : List UInt8 := (0xa7 : UInt8) :: (0x00 : UInt8) :: (0x05 : UInt8) :: (0x10 : UInt8) :: (0xfe : UInt8) :: (0xac : UInt8) :: []
def dT_X8_snuff_0 : List UInt8 := (0x2a : UInt8) :: (0x1b : UInt8) :: (0xb6 : UInt8) :: (0x00 : UInt8) :: (0x72 : UInt8) :: (0x99 : UInt8) :: (0x00 : UInt8) :: (0x0e : UInt8) :: (0x2a : UInt8) :: (0x1b : UInt8) :: (0xb6 : UInt8) :: (0x01 : UInt8) :: (0x05 : UInt8) :: (0xb8 : UInt8) :: (0x00 : UInt8) :: (0x86 : UInt8) :: dT_X8_snuff_1
theorem dT_X8_snuff : cX8_snuff.data.toList = dT_X8_snuff_0 := eq_of_beq (show (cX8_snuff.data.toList == dT_X8_snuff_0) = true by decide +kernel)
theorem dQ_X8_snuff_0 : dQ_P cX8_snuff 0 dT_X8_snuff_0 := fun i => by rw [dT_X8_snuff]; rfl
theorem dQ_X8_snuff_1 : dQ_P cX8_snuff 16 dT_X8_snuff_1 := fun i => (dQ_X8_snuff_0 (i + 16)).trans dk_t
theorem dX8_snuff_0 : decode cX8_snuff 0 = .ok (.aload_n 0, 1) := dk_42 ((dQ_X8_snuff_0 0).trans dk_j0)
theorem dX8_snuff_1 : decode cX8_snuff 1 = .ok (.iload_n 1, 1) := dk_27 ((dQ_X8_snuff_0 1).trans dk_j1)
theorem dX8_snuff_2 : decode cX8_snuff 2 = .ok (.invokevirtual 114, 3) := dk_182 ((dQ_X8_snuff_0 2).trans dk_j2) ((dQ_X8_snuff_0 3).trans dk_j3) ((dQ_X8_snuff_0 4).trans dk_j4) dk_vu2_0_114
theorem dX8_snuff_5 : decode cX8_snuff 5 = .ok (.ifCond .eq 14, 3) := dk_153 ((dQ_X8_snuff_0 5).trans dk_j5) ((dQ_X8_snuff_0 6).trans dk_j6) ((dQ_X8_snuff_0 7).trans dk_j7) dk_vs2_0_14
theorem dX8_snuff_8 : decode cX8_snuff 8 = .ok (.aload_n 0, 1) := dk_42 ((dQ_X8_snuff_0 8).trans dk_j8)
theorem dX8_snuff_9 : decode cX8_snuff 9 = .ok (.iload_n 1, 1) := dk_27 ((dQ_X8_snuff_0 9).trans dk_j9)
theorem dk_vu2_1_5 : (0x01 : UInt8).toNat * 256 + (0x05 : UInt8).toNat = (261 : Nat) := by decide +kernel
theorem dX8_snuff_10 : decode cX8_snuff 10 = .ok (.invokevirtual 261, 3) := dk_182 ((dQ_X8_snuff_0 10).trans dk_j10) ((dQ_X8_snuff_0 11).trans dk_j11) ((dQ_X8_snuff_0 12).trans dk_j12) dk_vu2_1_5
theorem dX8_snuff_13 : decode cX8_snuff 13 = .ok (.invokestatic 134, 3) := dk_184 ((dQ_X8_snuff_0 13).trans dk_j13) ((dQ_X8_snuff_0 14).trans dk_j14) ((dQ_X8_snuff_0 15).trans dk_j15) dk_vu2_0_134
theorem dX8_snuff_16 : decode cX8_snuff 16 = .ok (.goto 5, 3) := dk_167 ((dQ_X8_snuff_1 0).trans dk_j0) ((dQ_X8_snuff_1 1).trans dk_j1) ((dQ_X8_snuff_1 2).trans dk_j2) dk_vs2_0_5
theorem dX8_snuff_19 : decode cX8_snuff 19 = .ok (.bipush (-2), 2) := dk_16 ((dQ_X8_snuff_1 3).trans dk_j3) ((dQ_X8_snuff_1 4).trans dk_j4) dk_vs1_254
theorem dX8_snuff_21 : decode cX8_snuff 21 = .ok (.ireturn, 1) := dk_172 ((dQ_X8_snuff_1 5).trans dk_j5)
def dT_X8_frauds_1 : List UInt8 := (0x10 : UInt8) :: (0xfe : UInt8) :: (0xac : UInt8) :: []
def dT_X8_frauds_0 : List UInt8 := (0x2a : UInt8) :: (0x1b : UInt8) :: (0xb6 : UInt8) :: (0x00 : UInt8) :: (0x72 : UInt8) :: (0x99 : UInt8) :: (0x00 : UInt8) :: (0x0b : UInt8) :: (0x2a : UInt8) :: (0x1b : UInt8) :: (0xb6 : UInt8) :: (0x01 : UInt8) :: (0x05 : UInt8) :: (0xa7 : UInt8) :: (0x00 : UInt8) :: (0x05 : UInt8) :: dT_X8_frauds_1
theorem dT_X8_frauds : cX8_frauds.data.toList = dT_X8_frauds_0 := eq_of_beq (show (cX8_frauds.data.toList == dT_X8_frauds_0) = true by decide +kernel)
theorem dQ_X8_frauds_0 : dQ_P cX8_frauds 0 dT_X8_frauds_0 := fun i => by rw [dT_X8_frauds]; rfl
theorem dQ_X8_frauds_1 : dQ_P cX8_frauds 16 dT_X8_frauds_1 := fun i => (dQ_X8_frauds_0 (i + 16)).trans dk_t
theorem dX8_frauds_0 : decode cX8_frauds 0 = .ok (.aload_n 0, 1) := dk_42 ((dQ_X8_frauds_0 0).trans dk_j0)
theorem dX8_frauds_1 : decode cX8_frauds 1 = .ok (.iload_n 1, 1) := dk_27 ((dQ_X8_frauds_0 1).trans dk_j1)
theorem dX8_frauds_2 : decode cX8_frauds 2 = .ok (.invokevirtual 114, 3) := dk_182 ((dQ_X8_frauds_0 2).trans dk_j2) ((dQ_X8_frauds_0 3).trans dk_j3) ((dQ_X8_frauds_0 4).trans dk_j4) dk_vu2_0_114
theorem dX8_frauds_5 : decode cX8_frauds 5 = .ok (.ifCond .eq 11, 3) := dk_153 ((dQ_X8_frauds_0 5).trans dk_j5) ((dQ_X8_frauds_0 6).trans dk_j6) ((dQ_X8_frauds_0 7).trans dk_j7) dk_vs2_0_11
theorem dX8_frauds_8 : decode cX8_frauds 8 = .ok (.aload_n 0, 1) := dk_42 ((dQ_X8_frauds_0 8).trans dk_j8)
theorem dX8_frauds_9 : decode cX8_frauds 9 = .ok (.iload_n 1, 1) := dk_27 ((dQ_X8_frauds_0 9).trans dk_j9)
theorem dX8_frauds_10 : decode cX8_frauds 10 = .ok (.invokevirtual 261, 3) := dk_182 ((dQ_X8_frauds_0 10).trans dk_j10) ((dQ_X8_frauds_0 11).trans dk_j11) ((dQ_X8_frauds_0 12).trans dk_j12) dk_vu2_1_5
theorem dX8_frauds_13 : decode cX8_frauds 13 = .ok (.goto 5, 3) := dk_167 ((dQ_X8_frauds_0 13).trans dk_j13) ((dQ_X8_frauds_0 14).trans dk_j14) ((dQ_X8_frauds_0 15).trans dk_j15) dk_vs2_0_5
theorem dX8_frauds_16 : decode cX8_frauds 16 = .ok (.bipush (-2), 2) := dk_16 ((dQ_X8_frauds_1 0).trans dk_j0) ((dQ_X8_frauds_1 1).trans dk_j1) dk_vs1_254
theorem dX8_frauds_18 : decode cX8_frauds 18 = .ok (.ireturn, 1) := dk_172 ((dQ_X8_frauds_1 2).trans dk_j2)
def dT_X8_minutesOfFraud_10 : List UInt8 := (0x60 : UInt8) :: (0xb6 : UInt8) :: (0x01 : UInt8) :: (0x0b : UInt8) :: (0x84 : UInt8) :: (0x05 : UInt8) :: (0x01 : UInt8) :: (0xa7 : UInt8) :: (0xff : UInt8) :: (0x7b : UInt8) :: (0x15 : UInt8) :: (0x04 : UInt8) :: (0xac : UInt8) :: []
def dT_X8_minutesOfFraud_9 : List UInt8 := (0x2c : UInt8) :: (0xb4 : UInt8) :: (0x01 : UInt8) :: (0x08 : UInt8) :: (0x1c : UInt8) :: (0x2e : UInt8) :: (0x4f : UInt8) :: (0x2a : UInt8) :: (0xb4 : UInt8) :: (0x00 : UInt8) :: (0x30 : UInt8) :: (0x15 : UInt8) :: (0x05 : UInt8) :: (0x15 : UInt8) :: (0x05 : UInt8) :: (0x04 : UInt8) :: dT_X8_minutesOfFraud_10
def dT_X8_minutesOfFraud_8 : List UInt8 := (0x05 : UInt8) :: (0x78 : UInt8) :: (0x80 : UInt8) :: (0x36 : UInt8) :: (0x04 : UInt8) :: (0x2a : UInt8) :: (0xb4 : UInt8) :: (0x00 : UInt8) :: (0x30 : UInt8) :: (0xb4 : UInt8) :: (0x01 : UInt8) :: (0x08 : UInt8) :: (0x1c : UInt8) :: (0x2a : UInt8) :: (0xb4 : UInt8) :: (0x00 : UInt8) :: dT_X8_minutesOfFraud_9
def dT_X8_minutesOfFraud_7 : List UInt8 := (0xb4 : UInt8) :: (0x00 : UInt8) :: (0xc4 : UInt8) :: (0x1c : UInt8) :: (0x2e : UInt8) :: (0xb8 : UInt8) :: (0x00 : UInt8) :: (0xfa : UInt8) :: (0x1d : UInt8) :: (0xa4 : UInt8) :: (0x00 : UInt8) :: (0x0c : UInt8) :: (0x15 : UInt8) :: (0x04 : UInt8) :: (0x04 : UInt8) :: (0x15 : UInt8) :: dT_X8_minutesOfFraud_8
def dT_X8_minutesOfFraud_6 : List UInt8 := (0x05 : UInt8) :: (0x2e : UInt8) :: (0x1b : UInt8) :: (0x2a : UInt8) :: (0xb4 : UInt8) :: (0x00 : UInt8) :: (0x30 : UInt8) :: (0xb4 : UInt8) :: (0x00 : UInt8) :: (0x83 : UInt8) :: (0x1c : UInt8) :: (0x2e : UInt8) :: (0x2a : UInt8) :: (0xb4 : UInt8) :: (0x00 : UInt8) :: (0x30 : UInt8) :: dT_X8_minutesOfFraud_7
def dT_X8_minutesOfFraud_5 : List UInt8 := (0x00 : UInt8) :: (0x97 : UInt8) :: (0xb6 : UInt8) :: (0x01 : UInt8) :: (0x0b : UInt8) :: (0x2a : UInt8) :: (0xb4 : UInt8) :: (0x00 : UInt8) :: (0x0a : UInt8) :: (0x2a : UInt8) :: (0xb4 : UInt8) :: (0x00 : UInt8) :: (0x0a : UInt8) :: (0xb4 : UInt8) :: (0x00 : UInt8) :: (0x64 : UInt8) :: dT_X8_minutesOfFraud_6
def dT_X8_minutesOfFraud_4 : List UInt8 := (0x15 : UInt8) :: (0x05 : UInt8) :: (0x78 : UInt8) :: (0x80 : UInt8) :: (0x4f : UInt8) :: (0x2a : UInt8) :: (0xb4 : UInt8) :: (0x00 : UInt8) :: (0x30 : UInt8) :: (0x15 : UInt8) :: (0x05 : UInt8) :: (0x2a : UInt8) :: (0xb4 : UInt8) :: (0x00 : UInt8) :: (0x2c : UInt8) :: (0xb4 : UInt8) :: dT_X8_minutesOfFraud_5
def dT_X8_minutesOfFraud_3 : List UInt8 := (0x00 : UInt8) :: (0x30 : UInt8) :: (0xb4 : UInt8) :: (0x01 : UInt8) :: (0x08 : UInt8) :: (0x1c : UInt8) :: (0x2a : UInt8) :: (0xb4 : UInt8) :: (0x00 : UInt8) :: (0x2c : UInt8) :: (0xb4 : UInt8) :: (0x01 : UInt8) :: (0x08 : UInt8) :: (0x1c : UInt8) :: (0x2e : UInt8) :: (0x04 : UInt8) :: dT_X8_minutesOfFraud_4
def dT_X8_minutesOfFraud_2 : List UInt8 := (0x36 : UInt8) :: (0x05 : UInt8) :: (0x15 : UInt8) :: (0x05 : UInt8) :: (0x2a : UInt8) :: (0xb4 : UInt8) :: (0x00 : UInt8) :: (0x2c : UInt8) :: (0xb4 : UInt8) :: (0x00 : UInt8) :: (0x97 : UInt8) :: (0xa2 : UInt8) :: (0x00 : UInt8) :: (0x7f : UInt8) :: (0x2a : UInt8) :: (0xb4 : UInt8) :: dT_X8_minutesOfFraud_3
def dT_X8_minutesOfFraud_1 : List UInt8 := (0x3e : UInt8) :: (0x03 : UInt8) :: (0x36 : UInt8) :: (0x04 : UInt8) :: (0x2a : UInt8) :: (0xb4 : UInt8) :: (0x00 : UInt8) :: (0x30 : UInt8) :: (0x2a : UInt8) :: (0xb4 : UInt8) :: (0x00 : UInt8) :: (0x2c : UInt8) :: (0xb6 : UInt8) :: (0x00 : UInt8) :: (0xb7 : UInt8) :: (0x03 : UInt8) :: dT_X8_minutesOfFraud_2
def dT_X8_minutesOfFraud_0 : List UInt8 := (0x2a : UInt8) :: (0xb4 : UInt8) :: (0x00 : UInt8) :: (0x0a : UInt8) :: (0x1b : UInt8) :: (0x03 : UInt8) :: (0xb6 : UInt8) :: (0x00 : UInt8) :: (0x75 : UInt8) :: (0x3d : UInt8) :: (0x2a : UInt8) :: (0x1c : UInt8) :: (0x1b : UInt8) :: (0xb6 : UInt8) :: (0x00 : UInt8) :: (0xf7 : UInt8) :: dT_X8_minutesOfFraud_1
theorem dT_X8_minutesOfFraud : cX8_minutesOfFraud.data.toList = dT_X8_minutesOfFraud_0 := eq_of_beq (show (cX8_minutesOfFraud.data.toList == dT_X8_minutesOfFraud_0) = true by decide +kernel)
theorem dQ_X8_minutesOfFraud_0 : dQ_P cX8_minutesOfFraud 0 dT_X8_minutesOfFraud_0 := fun i => by rw [dT_X8_minutesOfFraud]; rfl
theorem dQ_X8_minutesOfFraud_1 : dQ_P cX8_minutesOfFraud 16 dT_X8_minutesOfFraud_1 := fun i => (dQ_X8_minutesOfFraud_0 (i + 16)).trans dk_t
theorem dQ_X8_minutesOfFraud_2 : dQ_P cX8_minutesOfFraud 32 dT_X8_minutesOfFraud_2 := fun i => (dQ_X8_minutesOfFraud_1 (i + 16)).trans dk_t
theorem dQ_X8_minutesOfFraud_3 : dQ_P cX8_minutesOfFraud 48 dT_X8_minutesOfFraud_3 := fun i => (dQ_X8_minutesOfFraud_2 (i + 16)).trans dk_t
theorem dQ_X8_minutesOfFraud_4 : dQ_P cX8_minutesOfFraud 64 dT_X8_minutesOfFraud_4 := fun i => (dQ_X8_minutesOfFraud_3 (i + 16)).trans dk_t
theorem dQ_X8_minutesOfFraud_5 : dQ_P cX8_minutesOfFraud 80 dT_X8_minutesOfFraud_5 := fun i => (dQ_X8_minutesOfFraud_4 (i + 16)).trans dk_t
theorem dQ_X8_minutesOfFraud_6 : dQ_P cX8_minutesOfFraud 96 dT_X8_minutesOfFraud_6 := fun i => (dQ_X8_minutesOfFraud_5 (i + 16)).trans dk_t
theorem dQ_X8_minutesOfFraud_7 : dQ_P cX8_minutesOfFraud 112 dT_X8_minutesOfFraud_7 := fun i => (dQ_X8_minutesOfFraud_6 (i + 16)).trans dk_t
theorem dQ_X8_minutesOfFraud_8 : dQ_P cX8_minutesOfFraud 128 dT_X8_minutesOfFraud_8 := fun i => (dQ_X8_minutesOfFraud_7 (i + 16)).trans dk_t
theorem dQ_X8_minutesOfFraud_9 : dQ_P cX8_minutesOfFraud 144 dT_X8_minutesOfFraud_9 := fun i => (dQ_X8_minutesOfFraud_8 (i + 16)).trans dk_t
theorem dQ_X8_minutesOfFraud_10 : dQ_P cX8_minutesOfFraud 160 dT_X8_minutesOfFraud_10 := fun i => (dQ_X8_minutesOfFraud_9 (i + 16)).trans dk_t
theorem dX8_minutesOfFraud_0 : decode cX8_minutesOfFraud 0 = .ok (.aload_n 0, 1) := dk_42 ((dQ_X8_minutesOfFraud_0 0).trans dk_j0)
theorem dX8_minutesOfFraud_1 : decode cX8_minutesOfFraud 1 = .ok (.getfield 10, 3) := dk_180 ((dQ_X8_minutesOfFraud_0 1).trans dk_j1) ((dQ_X8_minutesOfFraud_0 2).trans dk_j2) ((dQ_X8_minutesOfFraud_0 3).trans dk_j3) dk_vu2_0_10
theorem dX8_minutesOfFraud_4 : decode cX8_minutesOfFraud 4 = .ok (.iload_n 1, 1) := dk_27 ((dQ_X8_minutesOfFraud_0 4).trans dk_j4)
theorem dX8_minutesOfFraud_5 : decode cX8_minutesOfFraud 5 = .ok (.iconst 0, 1) := dk_3 ((dQ_X8_minutesOfFraud_0 5).trans dk_j5)
theorem dX8_minutesOfFraud_6 : decode cX8_minutesOfFraud 6 = .ok (.invokevirtual 117, 3) := dk_182 ((dQ_X8_minutesOfFraud_0 6).trans dk_j6) ((dQ_X8_minutesOfFraud_0 7).trans dk_j7) ((dQ_X8_minutesOfFraud_0 8).trans dk_j8) dk_vu2_0_117
theorem dX8_minutesOfFraud_9 : decode cX8_minutesOfFraud 9 = .ok (.istore_n 2, 1) := dk_61 ((dQ_X8_minutesOfFraud_0 9).trans dk_j9)
theorem dX8_minutesOfFraud_10 : decode cX8_minutesOfFraud 10 = .ok (.aload_n 0, 1) := dk_42 ((dQ_X8_minutesOfFraud_0 10).trans dk_j10)
theorem dX8_minutesOfFraud_11 : decode cX8_minutesOfFraud 11 = .ok (.iload_n 2, 1) := dk_28 ((dQ_X8_minutesOfFraud_0 11).trans dk_j11)
theorem dX8_minutesOfFraud_12 : decode cX8_minutesOfFraud 12 = .ok (.iload_n 1, 1) := dk_27 ((dQ_X8_minutesOfFraud_0 12).trans dk_j12)
theorem dX8_minutesOfFraud_13 : decode cX8_minutesOfFraud 13 = .ok (.invokevirtual 247, 3) := dk_182 ((dQ_X8_minutesOfFraud_0 13).trans dk_j13) ((dQ_X8_minutesOfFraud_0 14).trans dk_j14) ((dQ_X8_minutesOfFraud_0 15).trans dk_j15) dk_vu2_0_247
theorem dX8_minutesOfFraud_16 : decode cX8_minutesOfFraud 16 = .ok (.istore_n 3, 1) := dk_62 ((dQ_X8_minutesOfFraud_1 0).trans dk_j0)
theorem dX8_minutesOfFraud_17 : decode cX8_minutesOfFraud 17 = .ok (.iconst 0, 1) := dk_3 ((dQ_X8_minutesOfFraud_1 1).trans dk_j1)
theorem dX8_minutesOfFraud_18 : decode cX8_minutesOfFraud 18 = .ok (.istore 4, 2) := dk_54 ((dQ_X8_minutesOfFraud_1 2).trans dk_j2) ((dQ_X8_minutesOfFraud_1 3).trans dk_j3) dk_vu1_4
theorem dX8_minutesOfFraud_20 : decode cX8_minutesOfFraud 20 = .ok (.aload_n 0, 1) := dk_42 ((dQ_X8_minutesOfFraud_1 4).trans dk_j4)
theorem dX8_minutesOfFraud_21 : decode cX8_minutesOfFraud 21 = .ok (.getfield 48, 3) := dk_180 ((dQ_X8_minutesOfFraud_1 5).trans dk_j5) ((dQ_X8_minutesOfFraud_1 6).trans dk_j6) ((dQ_X8_minutesOfFraud_1 7).trans dk_j7) dk_vu2_0_48
theorem dX8_minutesOfFraud_24 : decode cX8_minutesOfFraud 24 = .ok (.aload_n 0, 1) := dk_42 ((dQ_X8_minutesOfFraud_1 8).trans dk_j8)
theorem dX8_minutesOfFraud_25 : decode cX8_minutesOfFraud 25 = .ok (.getfield 44, 3) := dk_180 ((dQ_X8_minutesOfFraud_1 9).trans dk_j9) ((dQ_X8_minutesOfFraud_1 10).trans dk_j10) ((dQ_X8_minutesOfFraud_1 11).trans dk_j11) dk_vu2_0_44
theorem dX8_minutesOfFraud_28 : decode cX8_minutesOfFraud 28 = .ok (.invokevirtual 183, 3) := dk_182 ((dQ_X8_minutesOfFraud_1 12).trans dk_j12) ((dQ_X8_minutesOfFraud_1 13).trans dk_j13) ((dQ_X8_minutesOfFraud_1 14).trans dk_j14) dk_vu2_0_183
theorem dX8_minutesOfFraud_31 : decode cX8_minutesOfFraud 31 = .ok (.iconst 0, 1) := dk_3 ((dQ_X8_minutesOfFraud_1 15).trans dk_j15)
theorem dX8_minutesOfFraud_32 : decode cX8_minutesOfFraud 32 = .ok (.istore 5, 2) := dk_54 ((dQ_X8_minutesOfFraud_2 0).trans dk_j0) ((dQ_X8_minutesOfFraud_2 1).trans dk_j1) dk_vu1_5
theorem dX8_minutesOfFraud_34 : decode cX8_minutesOfFraud 34 = .ok (.iload 5, 2) := dk_21 ((dQ_X8_minutesOfFraud_2 2).trans dk_j2) ((dQ_X8_minutesOfFraud_2 3).trans dk_j3) dk_vu1_5
theorem dX8_minutesOfFraud_36 : decode cX8_minutesOfFraud 36 = .ok (.aload_n 0, 1) := dk_42 ((dQ_X8_minutesOfFraud_2 4).trans dk_j4)
theorem dX8_minutesOfFraud_37 : decode cX8_minutesOfFraud 37 = .ok (.getfield 44, 3) := dk_180 ((dQ_X8_minutesOfFraud_2 5).trans dk_j5) ((dQ_X8_minutesOfFraud_2 6).trans dk_j6) ((dQ_X8_minutesOfFraud_2 7).trans dk_j7) dk_vu2_0_44
theorem dX8_minutesOfFraud_40 : decode cX8_minutesOfFraud 40 = .ok (.getfield 151, 3) := dk_180 ((dQ_X8_minutesOfFraud_2 8).trans dk_j8) ((dQ_X8_minutesOfFraud_2 9).trans dk_j9) ((dQ_X8_minutesOfFraud_2 10).trans dk_j10) dk_vu2_0_151
theorem dk_vs2_0_127 : Reader.signed 16 ((0x00 : UInt8).toNat * 256 + (0x7f : UInt8).toNat) = (127 : Int) := by decide +kernel
theorem dX8_minutesOfFraud_43 : decode cX8_minutesOfFraud 43 = .ok (.if_icmp .ge 127, 3) := dk_162 ((dQ_X8_minutesOfFraud_2 11).trans dk_j11) ((dQ_X8_minutesOfFraud_2 12).trans dk_j12) ((dQ_X8_minutesOfFraud_2 13).trans dk_j13) dk_vs2_0_127
theorem dX8_minutesOfFraud_46 : decode cX8_minutesOfFraud 46 = .ok (.aload_n 0, 1) := dk_42 ((dQ_X8_minutesOfFraud_2 14).trans dk_j14)
theorem dX8_minutesOfFraud_47 : decode cX8_minutesOfFraud 47 = .ok (.getfield 48, 3) := dk_180 ((dQ_X8_minutesOfFraud_2 15).trans dk_j15) ((dQ_X8_minutesOfFraud_3 0).trans dk_j0) ((dQ_X8_minutesOfFraud_3 1).trans dk_j1) dk_vu2_0_48
theorem dk_vu2_1_8 : (0x01 : UInt8).toNat * 256 + (0x08 : UInt8).toNat = (264 : Nat) := by decide +kernel
theorem dX8_minutesOfFraud_50 : decode cX8_minutesOfFraud 50 = .ok (.getfield 264, 3) := dk_180 ((dQ_X8_minutesOfFraud_3 2).trans dk_j2) ((dQ_X8_minutesOfFraud_3 3).trans dk_j3) ((dQ_X8_minutesOfFraud_3 4).trans dk_j4) dk_vu2_1_8
theorem dX8_minutesOfFraud_53 : decode cX8_minutesOfFraud 53 = .ok (.iload_n 2, 1) := dk_28 ((dQ_X8_minutesOfFraud_3 5).trans dk_j5)
theorem dX8_minutesOfFraud_54 : decode cX8_minutesOfFraud 54 = .ok (.aload_n 0, 1) := dk_42 ((dQ_X8_minutesOfFraud_3 6).trans dk_j6)
theorem dX8_minutesOfFraud_55 : decode cX8_minutesOfFraud 55 = .ok (.getfield 44, 3) := dk_180 ((dQ_X8_minutesOfFraud_3 7).trans dk_j7) ((dQ_X8_minutesOfFraud_3 8).trans dk_j8) ((dQ_X8_minutesOfFraud_3 9).trans dk_j9) dk_vu2_0_44
theorem dX8_minutesOfFraud_58 : decode cX8_minutesOfFraud 58 = .ok (.getfield 264, 3) := dk_180 ((dQ_X8_minutesOfFraud_3 10).trans dk_j10) ((dQ_X8_minutesOfFraud_3 11).trans dk_j11) ((dQ_X8_minutesOfFraud_3 12).trans dk_j12) dk_vu2_1_8
theorem dX8_minutesOfFraud_61 : decode cX8_minutesOfFraud 61 = .ok (.iload_n 2, 1) := dk_28 ((dQ_X8_minutesOfFraud_3 13).trans dk_j13)
theorem dX8_minutesOfFraud_62 : decode cX8_minutesOfFraud 62 = .ok (.iaload, 1) := dk_46 ((dQ_X8_minutesOfFraud_3 14).trans dk_j14)
theorem dX8_minutesOfFraud_63 : decode cX8_minutesOfFraud 63 = .ok (.iconst 1, 1) := dk_4 ((dQ_X8_minutesOfFraud_3 15).trans dk_j15)
theorem dX8_minutesOfFraud_64 : decode cX8_minutesOfFraud 64 = .ok (.iload 5, 2) := dk_21 ((dQ_X8_minutesOfFraud_4 0).trans dk_j0) ((dQ_X8_minutesOfFraud_4 1).trans dk_j1) dk_vu1_5
theorem dX8_minutesOfFraud_66 : decode cX8_minutesOfFraud 66 = .ok (.ishl, 1) := dk_120 ((dQ_X8_minutesOfFraud_4 2).trans dk_j2)
theorem dX8_minutesOfFraud_67 : decode cX8_minutesOfFraud 67 = .ok (.ior, 1) := dk_128 ((dQ_X8_minutesOfFraud_4 3).trans dk_j3)
theorem dX8_minutesOfFraud_68 : decode cX8_minutesOfFraud 68 = .ok (.iastore, 1) := dk_79 ((dQ_X8_minutesOfFraud_4 4).trans dk_j4)
theorem dX8_minutesOfFraud_69 : decode cX8_minutesOfFraud 69 = .ok (.aload_n 0, 1) := dk_42 ((dQ_X8_minutesOfFraud_4 5).trans dk_j5)
theorem dX8_minutesOfFraud_70 : decode cX8_minutesOfFraud 70 = .ok (.getfield 48, 3) := dk_180 ((dQ_X8_minutesOfFraud_4 6).trans dk_j6) ((dQ_X8_minutesOfFraud_4 7).trans dk_j7) ((dQ_X8_minutesOfFraud_4 8).trans dk_j8) dk_vu2_0_48
theorem dX8_minutesOfFraud_73 : decode cX8_minutesOfFraud 73 = .ok (.iload 5, 2) := dk_21 ((dQ_X8_minutesOfFraud_4 9).trans dk_j9) ((dQ_X8_minutesOfFraud_4 10).trans dk_j10) dk_vu1_5
theorem dX8_minutesOfFraud_75 : decode cX8_minutesOfFraud 75 = .ok (.aload_n 0, 1) := dk_42 ((dQ_X8_minutesOfFraud_4 11).trans dk_j11)
theorem dX8_minutesOfFraud_76 : decode cX8_minutesOfFraud 76 = .ok (.getfield 44, 3) := dk_180 ((dQ_X8_minutesOfFraud_4 12).trans dk_j12) ((dQ_X8_minutesOfFraud_4 13).trans dk_j13) ((dQ_X8_minutesOfFraud_4 14).trans dk_j14) dk_vu2_0_44
theorem dX8_minutesOfFraud_79 : decode cX8_minutesOfFraud 79 = .ok (.getfield 151, 3) := dk_180 ((dQ_X8_minutesOfFraud_4 15).trans dk_j15) ((dQ_X8_minutesOfFraud_5 0).trans dk_j0) ((dQ_X8_minutesOfFraud_5 1).trans dk_j1) dk_vu2_0_151
theorem dk_vu2_1_11 : (0x01 : UInt8).toNat * 256 + (0x0b : UInt8).toNat = (267 : Nat) := by decide +kernel
theorem dX8_minutesOfFraud_82 : decode cX8_minutesOfFraud 82 = .ok (.invokevirtual 267, 3) := dk_182 ((dQ_X8_minutesOfFraud_5 2).trans dk_j2) ((dQ_X8_minutesOfFraud_5 3).trans dk_j3) ((dQ_X8_minutesOfFraud_5 4).trans dk_j4) dk_vu2_1_11
theorem dX8_minutesOfFraud_85 : decode cX8_minutesOfFraud 85 = .ok (.aload_n 0, 1) := dk_42 ((dQ_X8_minutesOfFraud_5 5).trans dk_j5)
theorem dX8_minutesOfFraud_86 : decode cX8_minutesOfFraud 86 = .ok (.getfield 10, 3) := dk_180 ((dQ_X8_minutesOfFraud_5 6).trans dk_j6) ((dQ_X8_minutesOfFraud_5 7).trans dk_j7) ((dQ_X8_minutesOfFraud_5 8).trans dk_j8) dk_vu2_0_10
theorem dX8_minutesOfFraud_89 : decode cX8_minutesOfFraud 89 = .ok (.aload_n 0, 1) := dk_42 ((dQ_X8_minutesOfFraud_5 9).trans dk_j9)
theorem dX8_minutesOfFraud_90 : decode cX8_minutesOfFraud 90 = .ok (.getfield 10, 3) := dk_180 ((dQ_X8_minutesOfFraud_5 10).trans dk_j10) ((dQ_X8_minutesOfFraud_5 11).trans dk_j11) ((dQ_X8_minutesOfFraud_5 12).trans dk_j12) dk_vu2_0_10
theorem dX8_minutesOfFraud_93 : decode cX8_minutesOfFraud 93 = .ok (.getfield 100, 3) := dk_180 ((dQ_X8_minutesOfFraud_5 13).trans dk_j13) ((dQ_X8_minutesOfFraud_5 14).trans dk_j14) ((dQ_X8_minutesOfFraud_5 15).trans dk_j15) dk_vu2_0_100
theorem dX8_minutesOfFraud_96 : decode cX8_minutesOfFraud 96 = .ok (.iconst 2, 1) := dk_5 ((dQ_X8_minutesOfFraud_6 0).trans dk_j0)
theorem dX8_minutesOfFraud_97 : decode cX8_minutesOfFraud 97 = .ok (.iaload, 1) := dk_46 ((dQ_X8_minutesOfFraud_6 1).trans dk_j1)
theorem dX8_minutesOfFraud_98 : decode cX8_minutesOfFraud 98 = .ok (.iload_n 1, 1) := dk_27 ((dQ_X8_minutesOfFraud_6 2).trans dk_j2)
theorem dX8_minutesOfFraud_99 : decode cX8_minutesOfFraud 99 = .ok (.aload_n 0, 1) := dk_42 ((dQ_X8_minutesOfFraud_6 3).trans dk_j3)
theorem dX8_minutesOfFraud_100 : decode cX8_minutesOfFraud 100 = .ok (.getfield 48, 3) := dk_180 ((dQ_X8_minutesOfFraud_6 4).trans dk_j4) ((dQ_X8_minutesOfFraud_6 5).trans dk_j5) ((dQ_X8_minutesOfFraud_6 6).trans dk_j6) dk_vu2_0_48
theorem dX8_minutesOfFraud_103 : decode cX8_minutesOfFraud 103 = .ok (.getfield 131, 3) := dk_180 ((dQ_X8_minutesOfFraud_6 7).trans dk_j7) ((dQ_X8_minutesOfFraud_6 8).trans dk_j8) ((dQ_X8_minutesOfFraud_6 9).trans dk_j9) dk_vu2_0_131
theorem dX8_minutesOfFraud_106 : decode cX8_minutesOfFraud 106 = .ok (.iload_n 2, 1) := dk_28 ((dQ_X8_minutesOfFraud_6 10).trans dk_j10)
theorem dX8_minutesOfFraud_107 : decode cX8_minutesOfFraud 107 = .ok (.iaload, 1) := dk_46 ((dQ_X8_minutesOfFraud_6 11).trans dk_j11)
theorem dX8_minutesOfFraud_108 : decode cX8_minutesOfFraud 108 = .ok (.aload_n 0, 1) := dk_42 ((dQ_X8_minutesOfFraud_6 12).trans dk_j12)
theorem dX8_minutesOfFraud_109 : decode cX8_minutesOfFraud 109 = .ok (.getfield 48, 3) := dk_180 ((dQ_X8_minutesOfFraud_6 13).trans dk_j13) ((dQ_X8_minutesOfFraud_6 14).trans dk_j14) ((dQ_X8_minutesOfFraud_6 15).trans dk_j15) dk_vu2_0_48
theorem dX8_minutesOfFraud_112 : decode cX8_minutesOfFraud 112 = .ok (.getfield 196, 3) := dk_180 ((dQ_X8_minutesOfFraud_7 0).trans dk_j0) ((dQ_X8_minutesOfFraud_7 1).trans dk_j1) ((dQ_X8_minutesOfFraud_7 2).trans dk_j2) dk_vu2_0_196
theorem dX8_minutesOfFraud_115 : decode cX8_minutesOfFraud 115 = .ok (.iload_n 2, 1) := dk_28 ((dQ_X8_minutesOfFraud_7 3).trans dk_j3)
theorem dX8_minutesOfFraud_116 : decode cX8_minutesOfFraud 116 = .ok (.iaload, 1) := dk_46 ((dQ_X8_minutesOfFraud_7 4).trans dk_j4)
theorem dX8_minutesOfFraud_117 : decode cX8_minutesOfFraud 117 = .ok (.invokestatic 250, 3) := dk_184 ((dQ_X8_minutesOfFraud_7 5).trans dk_j5) ((dQ_X8_minutesOfFraud_7 6).trans dk_j6) ((dQ_X8_minutesOfFraud_7 7).trans dk_j7) dk_vu2_0_250
theorem dX8_minutesOfFraud_120 : decode cX8_minutesOfFraud 120 = .ok (.iload_n 3, 1) := dk_29 ((dQ_X8_minutesOfFraud_7 8).trans dk_j8)
theorem dX8_minutesOfFraud_121 : decode cX8_minutesOfFraud 121 = .ok (.if_icmp .le 12, 3) := dk_164 ((dQ_X8_minutesOfFraud_7 9).trans dk_j9) ((dQ_X8_minutesOfFraud_7 10).trans dk_j10) ((dQ_X8_minutesOfFraud_7 11).trans dk_j11) dk_vs2_0_12
theorem dX8_minutesOfFraud_124 : decode cX8_minutesOfFraud 124 = .ok (.iload 4, 2) := dk_21 ((dQ_X8_minutesOfFraud_7 12).trans dk_j12) ((dQ_X8_minutesOfFraud_7 13).trans dk_j13) dk_vu1_4
theorem dX8_minutesOfFraud_126 : decode cX8_minutesOfFraud 126 = .ok (.iconst 1, 1) := dk_4 ((dQ_X8_minutesOfFraud_7 14).trans dk_j14)
theorem dX8_minutesOfFraud_127 : decode cX8_minutesOfFraud 127 = .ok (.iload 5, 2) := dk_21 ((dQ_X8_minutesOfFraud_7 15).trans dk_j15) ((dQ_X8_minutesOfFraud_8 0).trans dk_j0) dk_vu1_5
theorem dX8_minutesOfFraud_129 : decode cX8_minutesOfFraud 129 = .ok (.ishl, 1) := dk_120 ((dQ_X8_minutesOfFraud_8 1).trans dk_j1)
theorem dX8_minutesOfFraud_130 : decode cX8_minutesOfFraud 130 = .ok (.ior, 1) := dk_128 ((dQ_X8_minutesOfFraud_8 2).trans dk_j2)
theorem dX8_minutesOfFraud_131 : decode cX8_minutesOfFraud 131 = .ok (.istore 4, 2) := dk_54 ((dQ_X8_minutesOfFraud_8 3).trans dk_j3) ((dQ_X8_minutesOfFraud_8 4).trans dk_j4) dk_vu1_4
theorem dX8_minutesOfFraud_133 : decode cX8_minutesOfFraud 133 = .ok (.aload_n 0, 1) := dk_42 ((dQ_X8_minutesOfFraud_8 5).trans dk_j5)
theorem dX8_minutesOfFraud_134 : decode cX8_minutesOfFraud 134 = .ok (.getfield 48, 3) := dk_180 ((dQ_X8_minutesOfFraud_8 6).trans dk_j6) ((dQ_X8_minutesOfFraud_8 7).trans dk_j7) ((dQ_X8_minutesOfFraud_8 8).trans dk_j8) dk_vu2_0_48
theorem dX8_minutesOfFraud_137 : decode cX8_minutesOfFraud 137 = .ok (.getfield 264, 3) := dk_180 ((dQ_X8_minutesOfFraud_8 9).trans dk_j9) ((dQ_X8_minutesOfFraud_8 10).trans dk_j10) ((dQ_X8_minutesOfFraud_8 11).trans dk_j11) dk_vu2_1_8
theorem dX8_minutesOfFraud_140 : decode cX8_minutesOfFraud 140 = .ok (.iload_n 2, 1) := dk_28 ((dQ_X8_minutesOfFraud_8 12).trans dk_j12)
theorem dX8_minutesOfFraud_141 : decode cX8_minutesOfFraud 141 = .ok (.aload_n 0, 1) := dk_42 ((dQ_X8_minutesOfFraud_8 13).trans dk_j13)
theorem dX8_minutesOfFraud_142 : decode cX8_minutesOfFraud 142 = .ok (.getfield 44, 3) := dk_180 ((dQ_X8_minutesOfFraud_8 14).trans dk_j14) ((dQ_X8_minutesOfFraud_8 15).trans dk_j15) ((dQ_X8_minutesOfFraud_9 0).trans dk_j0) dk_vu2_0_44
theorem dX8_minutesOfFraud_145 : decode cX8_minutesOfFraud 145 = .ok (.getfield 264, 3) := dk_180 ((dQ_X8_minutesOfFraud_9 1).trans dk_j1) ((dQ_X8_minutesOfFraud_9 2).trans dk_j2) ((dQ_X8_minutesOfFraud_9 3).trans dk_j3) dk_vu2_1_8
theorem dX8_minutesOfFraud_148 : decode cX8_minutesOfFraud 148 = .ok (.iload_n 2, 1) := dk_28 ((dQ_X8_minutesOfFraud_9 4).trans dk_j4)
theorem dX8_minutesOfFraud_149 : decode cX8_minutesOfFraud 149 = .ok (.iaload, 1) := dk_46 ((dQ_X8_minutesOfFraud_9 5).trans dk_j5)
theorem dX8_minutesOfFraud_150 : decode cX8_minutesOfFraud 150 = .ok (.iastore, 1) := dk_79 ((dQ_X8_minutesOfFraud_9 6).trans dk_j6)
theorem dX8_minutesOfFraud_151 : decode cX8_minutesOfFraud 151 = .ok (.aload_n 0, 1) := dk_42 ((dQ_X8_minutesOfFraud_9 7).trans dk_j7)
theorem dX8_minutesOfFraud_152 : decode cX8_minutesOfFraud 152 = .ok (.getfield 48, 3) := dk_180 ((dQ_X8_minutesOfFraud_9 8).trans dk_j8) ((dQ_X8_minutesOfFraud_9 9).trans dk_j9) ((dQ_X8_minutesOfFraud_9 10).trans dk_j10) dk_vu2_0_48
theorem dX8_minutesOfFraud_155 : decode cX8_minutesOfFraud 155 = .ok (.iload 5, 2) := dk_21 ((dQ_X8_minutesOfFraud_9 11).trans dk_j11) ((dQ_X8_minutesOfFraud_9 12).trans dk_j12) dk_vu1_5
theorem dX8_minutesOfFraud_157 : decode cX8_minutesOfFraud 157 = .ok (.iload 5, 2) := dk_21 ((dQ_X8_minutesOfFraud_9 13).trans dk_j13) ((dQ_X8_minutesOfFraud_9 14).trans dk_j14) dk_vu1_5
theorem dX8_minutesOfFraud_159 : decode cX8_minutesOfFraud 159 = .ok (.iconst 1, 1) := dk_4 ((dQ_X8_minutesOfFraud_9 15).trans dk_j15)
theorem dX8_minutesOfFraud_160 : decode cX8_minutesOfFraud 160 = .ok (.iadd, 1) := dk_96 ((dQ_X8_minutesOfFraud_10 0).trans dk_j0)
theorem dX8_minutesOfFraud_161 : decode cX8_minutesOfFraud 161 = .ok (.invokevirtual 267, 3) := dk_182 ((dQ_X8_minutesOfFraud_10 1).trans dk_j1) ((dQ_X8_minutesOfFraud_10 2).trans dk_j2) ((dQ_X8_minutesOfFraud_10 3).trans dk_j3) dk_vu2_1_11
theorem dX8_minutesOfFraud_164 : decode cX8_minutesOfFraud 164 = .ok (.iinc 5 1, 3) := dk_132 ((dQ_X8_minutesOfFraud_10 4).trans dk_j4) ((dQ_X8_minutesOfFraud_10 5).trans dk_j5) ((dQ_X8_minutesOfFraud_10 6).trans dk_j6) dk_vu1_5 dk_vs1_1
theorem dk_vs2_255_123 : Reader.signed 16 ((0xff : UInt8).toNat * 256 + (0x7b : UInt8).toNat) = (-133 : Int) := by decide +kernel
theorem dX8_minutesOfFraud_167 : decode cX8_minutesOfFraud 167 = .ok (.goto (-133), 3) := dk_167 ((dQ_X8_minutesOfFraud_10 7).trans dk_j7) ((dQ_X8_minutesOfFraud_10 8).trans dk_j8) ((dQ_X8_minutesOfFraud_10 9).trans dk_j9) dk_vs2_255_123
theorem dX8_minutesOfFraud_170 : decode cX8_minutesOfFraud 170 = .ok (.iload 4, 2) := dk_21 ((dQ_X8_minutesOfFraud_10 10).trans dk_j10) ((dQ_X8_minutesOfFraud_10 11).trans dk_j11) dk_vu1_4
theorem dX8_minutesOfFraud_172 : decode cX8_minutesOfFraud 172 = .ok (.ireturn, 1) := dk_172 ((dQ_X8_minutesOfFraud_10 12).trans dk_j12)
def dT_X8_which_1 : List UInt8 := (0x00 : UInt8) :: (0x44 : UInt8) :: (0xb4 : UInt8) :: (0x01 : UInt8) :: (0x12 : UInt8) :: (0xac : UInt8) :: []
def dT_X8_which_0 : List UInt8 := (0x2a : UInt8) :: (0x1b : UInt8) :: (0xb6 : UInt8) :: (0x01 : UInt8) :: (0x0f : UInt8) :: (0x3d : UInt8) :: (0x1c : UInt8) :: (0x99 : UInt8) :: (0x00 : UInt8) :: (0x07 : UInt8) :: (0x1c : UInt8) :: (0xa7 : UInt8) :: (0x00 : UInt8) :: (0x0a : UInt8) :: (0x2a : UInt8) :: (0xb4 : UInt8) :: dT_X8_which_1
theorem dT_X8_which : cX8_which.data.toList = dT_X8_which_0 := eq_of_beq (show (cX8_which.data.toList == dT_X8_which_0) = true by decide +kernel)
theorem dQ_X8_which_0 : dQ_P cX8_which 0 dT_X8_which_0 := fun i => by rw [dT_X8_which]; rfl
theorem dQ_X8_which_1 : dQ_P cX8_which 16 dT_X8_which_1 := fun i => (dQ_X8_which_0 (i + 16)).trans dk_t
theorem dX8_which_0 : decode cX8_which 0 = .ok (.aload_n 0, 1) := dk_42 ((dQ_X8_which_0 0).trans dk_j0)
theorem dX8_which_1 : decode cX8_which 1 = .ok (.iload_n 1, 1) := dk_27 ((dQ_X8_which_0 1).trans dk_j1)
theorem dk_vu2_1_15 : (0x01 : UInt8).toNat * 256 + (0x0f : UInt8).toNat = (271 : Nat) := by decide +kernel
theorem dX8_which_2 : decode cX8_which 2 = .ok (.invokevirtual 271, 3) := dk_182 ((dQ_X8_which_0 2).trans dk_j2) ((dQ_X8_which_0 3).trans dk_j3) ((dQ_X8_which_0 4).trans dk_j4) dk_vu2_1_15
theorem dX8_which_5 : decode cX8_which 5 = .ok (.istore_n 2, 1) := dk_61 ((dQ_X8_which_0 5).trans dk_j5)
theorem dX8_which_6 : decode cX8_which 6 = .ok (.iload_n 2, 1) := dk_28 ((dQ_X8_which_0 6).trans dk_j6)
theorem dX8_which_7 : decode cX8_which 7 = .ok (.ifCond .eq 7, 3) := dk_153 ((dQ_X8_which_0 7).trans dk_j7) ((dQ_X8_which_0 8).trans dk_j8) ((dQ_X8_which_0 9).trans dk_j9) dk_vs2_0_7
theorem dX8_which_10 : decode cX8_which 10 = .ok (.iload_n 2, 1) := dk_28 ((dQ_X8_which_0 10).trans dk_j10)
theorem dX8_which_11 : decode cX8_which 11 = .ok (.goto 10, 3) := dk_167 ((dQ_X8_which_0 11).trans dk_j11) ((dQ_X8_which_0 12).trans dk_j12) ((dQ_X8_which_0 13).trans dk_j13) dk_vs2_0_10
theorem dX8_which_14 : decode cX8_which 14 = .ok (.aload_n 0, 1) := dk_42 ((dQ_X8_which_0 14).trans dk_j14)
theorem dX8_which_15 : decode cX8_which 15 = .ok (.getfield 68, 3) := dk_180 ((dQ_X8_which_0 15).trans dk_j15) ((dQ_X8_which_1 0).trans dk_j0) ((dQ_X8_which_1 1).trans dk_j1) dk_vu2_0_68
theorem dk_vu2_1_18 : (0x01 : UInt8).toNat * 256 + (0x12 : UInt8).toNat = (274 : Nat) := by decide +kernel
theorem dX8_which_18 : decode cX8_which 18 = .ok (.getfield 274, 3) := dk_180 ((dQ_X8_which_1 2).trans dk_j2) ((dQ_X8_which_1 3).trans dk_j3) ((dQ_X8_which_1 4).trans dk_j4) dk_vu2_1_18
theorem dX8_which_21 : decode cX8_which 21 = .ok (.ireturn, 1) := dk_172 ((dQ_X8_which_1 5).trans dk_j5)
def dT_X8_when_1 : List UInt8 := (0x00 : UInt8) :: (0x44 : UInt8) :: (0xb4 : UInt8) :: (0x01 : UInt8) :: (0x15 : UInt8) :: (0xac : UInt8) :: []
def dT_X8_when_0 : List UInt8 := (0x2a : UInt8) :: (0x1b : UInt8) :: (0xb6 : UInt8) :: (0x01 : UInt8) :: (0x0f : UInt8) :: (0x3d : UInt8) :: (0x1c : UInt8) :: (0x99 : UInt8) :: (0x00 : UInt8) :: (0x07 : UInt8) :: (0x1c : UInt8) :: (0xa7 : UInt8) :: (0x00 : UInt8) :: (0x0a : UInt8) :: (0x2a : UInt8) :: (0xb4 : UInt8) :: dT_X8_when_1
theorem dT_X8_when : cX8_when.data.toList = dT_X8_when_0 := eq_of_beq (show (cX8_when.data.toList == dT_X8_when_0) = true by decide +kernel)
theorem dQ_X8_when_0 : dQ_P cX8_when 0 dT_X8_when_0 := fun i => by rw [dT_X8_when]; rfl
theorem dQ_X8_when_1 : dQ_P cX8_when 16 dT_X8_when_1 := fun i => (dQ_X8_when_0 (i + 16)).trans dk_t
theorem dX8_when_0 : decode cX8_when 0 = .ok (.aload_n 0, 1) := dk_42 ((dQ_X8_when_0 0).trans dk_j0)
theorem dX8_when_1 : decode cX8_when 1 = .ok (.iload_n 1, 1) := dk_27 ((dQ_X8_when_0 1).trans dk_j1)
theorem dX8_when_2 : decode cX8_when 2 = .ok (.invokevirtual 271, 3) := dk_182 ((dQ_X8_when_0 2).trans dk_j2) ((dQ_X8_when_0 3).trans dk_j3) ((dQ_X8_when_0 4).trans dk_j4) dk_vu2_1_15
theorem dX8_when_5 : decode cX8_when 5 = .ok (.istore_n 2, 1) := dk_61 ((dQ_X8_when_0 5).trans dk_j5)
theorem dX8_when_6 : decode cX8_when 6 = .ok (.iload_n 2, 1) := dk_28 ((dQ_X8_when_0 6).trans dk_j6)
theorem dX8_when_7 : decode cX8_when 7 = .ok (.ifCond .eq 7, 3) := dk_153 ((dQ_X8_when_0 7).trans dk_j7) ((dQ_X8_when_0 8).trans dk_j8) ((dQ_X8_when_0 9).trans dk_j9) dk_vs2_0_7
theorem dX8_when_10 : decode cX8_when 10 = .ok (.iload_n 2, 1) := dk_28 ((dQ_X8_when_0 10).trans dk_j10)
theorem dX8_when_11 : decode cX8_when 11 = .ok (.goto 10, 3) := dk_167 ((dQ_X8_when_0 11).trans dk_j11) ((dQ_X8_when_0 12).trans dk_j12) ((dQ_X8_when_0 13).trans dk_j13) dk_vs2_0_10
theorem dX8_when_14 : decode cX8_when 14 = .ok (.aload_n 0, 1) := dk_42 ((dQ_X8_when_0 14).trans dk_j14)
theorem dX8_when_15 : decode cX8_when 15 = .ok (.getfield 68, 3) := dk_180 ((dQ_X8_when_0 15).trans dk_j15) ((dQ_X8_when_1 0).trans dk_j0) ((dQ_X8_when_1 1).trans dk_j1) dk_vu2_0_68
theorem dk_vu2_1_21 : (0x01 : UInt8).toNat * 256 + (0x15 : UInt8).toNat = (277 : Nat) := by decide +kernel
theorem dX8_when_18 : decode cX8_when 18 = .ok (.getfield 277, 3) := dk_180 ((dQ_X8_when_1 2).trans dk_j2) ((dQ_X8_when_1 3).trans dk_j3) ((dQ_X8_when_1 4).trans dk_j4) dk_vu2_1_21
theorem dX8_when_21 : decode cX8_when 21 = .ok (.ireturn, 1) := dk_172 ((dQ_X8_when_1 5).trans dk_j5)
def dT_X8_gust_1 : List UInt8 := (0x00 : UInt8) :: (0x44 : UInt8) :: (0xb4 : UInt8) :: (0x01 : UInt8) :: (0x16 : UInt8) :: (0xac : UInt8) :: []
def dT_X8_gust_0 : List UInt8 := (0x2a : UInt8) :: (0x1b : UInt8) :: (0xb6 : UInt8) :: (0x01 : UInt8) :: (0x0f : UInt8) :: (0x3d : UInt8) :: (0x1c : UInt8) :: (0x99 : UInt8) :: (0x00 : UInt8) :: (0x07 : UInt8) :: (0x1c : UInt8) :: (0xa7 : UInt8) :: (0x00 : UInt8) :: (0x0a : UInt8) :: (0x2a : UInt8) :: (0xb4 : UInt8) :: dT_X8_gust_1
theorem dT_X8_gust : cX8_gust.data.toList = dT_X8_gust_0 := eq_of_beq (show (cX8_gust.data.toList == dT_X8_gust_0) = true by decide +kernel)
theorem dQ_X8_gust_0 : dQ_P cX8_gust 0 dT_X8_gust_0 := fun i => by rw [dT_X8_gust]; rfl
theorem dQ_X8_gust_1 : dQ_P cX8_gust 16 dT_X8_gust_1 := fun i => (dQ_X8_gust_0 (i + 16)).trans dk_t
theorem dX8_gust_0 : decode cX8_gust 0 = .ok (.aload_n 0, 1) := dk_42 ((dQ_X8_gust_0 0).trans dk_j0)
theorem dX8_gust_1 : decode cX8_gust 1 = .ok (.iload_n 1, 1) := dk_27 ((dQ_X8_gust_0 1).trans dk_j1)
theorem dX8_gust_2 : decode cX8_gust 2 = .ok (.invokevirtual 271, 3) := dk_182 ((dQ_X8_gust_0 2).trans dk_j2) ((dQ_X8_gust_0 3).trans dk_j3) ((dQ_X8_gust_0 4).trans dk_j4) dk_vu2_1_15
theorem dX8_gust_5 : decode cX8_gust 5 = .ok (.istore_n 2, 1) := dk_61 ((dQ_X8_gust_0 5).trans dk_j5)
theorem dX8_gust_6 : decode cX8_gust 6 = .ok (.iload_n 2, 1) := dk_28 ((dQ_X8_gust_0 6).trans dk_j6)
theorem dX8_gust_7 : decode cX8_gust 7 = .ok (.ifCond .eq 7, 3) := dk_153 ((dQ_X8_gust_0 7).trans dk_j7) ((dQ_X8_gust_0 8).trans dk_j8) ((dQ_X8_gust_0 9).trans dk_j9) dk_vs2_0_7
theorem dX8_gust_10 : decode cX8_gust 10 = .ok (.iload_n 2, 1) := dk_28 ((dQ_X8_gust_0 10).trans dk_j10)
theorem dX8_gust_11 : decode cX8_gust 11 = .ok (.goto 10, 3) := dk_167 ((dQ_X8_gust_0 11).trans dk_j11) ((dQ_X8_gust_0 12).trans dk_j12) ((dQ_X8_gust_0 13).trans dk_j13) dk_vs2_0_10
theorem dX8_gust_14 : decode cX8_gust 14 = .ok (.aload_n 0, 1) := dk_42 ((dQ_X8_gust_0 14).trans dk_j14)
theorem dX8_gust_15 : decode cX8_gust 15 = .ok (.getfield 68, 3) := dk_180 ((dQ_X8_gust_0 15).trans dk_j15) ((dQ_X8_gust_1 0).trans dk_j0) ((dQ_X8_gust_1 1).trans dk_j1) dk_vu2_0_68
theorem dX8_gust_18 : decode cX8_gust 18 = .ok (.getfield 278, 3) := dk_180 ((dQ_X8_gust_1 2).trans dk_j2) ((dQ_X8_gust_1 3).trans dk_j3) ((dQ_X8_gust_1 4).trans dk_j4) dk_vu2_1_22
theorem dX8_gust_21 : decode cX8_gust 21 = .ok (.ireturn, 1) := dk_172 ((dQ_X8_gust_1 5).trans dk_j5)
def dT_X8_ask_1 : List UInt8 := (0x00 : UInt8) :: (0x44 : UInt8) :: (0x2a : UInt8) :: (0xb4 : UInt8) :: (0x00 : UInt8) :: (0x2c : UInt8) :: (0xb4 : UInt8) :: (0x00 : UInt8) :: (0xa2 : UInt8) :: (0xb6 : UInt8) :: (0x01 : UInt8) :: (0x19 : UInt8) :: (0xac : UInt8) :: []
def dT_X8_ask_0 : List UInt8 := (0x2a : UInt8) :: (0x1b : UInt8) :: (0xb6 : UInt8) :: (0x01 : UInt8) :: (0x0f : UInt8) :: (0x3d : UInt8) :: (0x1c : UInt8) :: (0x99 : UInt8) :: (0x00 : UInt8) :: (0x07 : UInt8) :: (0x1c : UInt8) :: (0xa7 : UInt8) :: (0x00 : UInt8) :: (0x11 : UInt8) :: (0x2a : UInt8) :: (0xb4 : UInt8) :: dT_X8_ask_1
theorem dT_X8_ask : cX8_ask.data.toList = dT_X8_ask_0 := eq_of_beq (show (cX8_ask.data.toList == dT_X8_ask_0) = true by decide +kernel)
theorem dQ_X8_ask_0 : dQ_P cX8_ask 0 dT_X8_ask_0 := fun i => by rw [dT_X8_ask]; rfl
theorem dQ_X8_ask_1 : dQ_P cX8_ask 16 dT_X8_ask_1 := fun i => (dQ_X8_ask_0 (i + 16)).trans dk_t
theorem dX8_ask_0 : decode cX8_ask 0 = .ok (.aload_n 0, 1) := dk_42 ((dQ_X8_ask_0 0).trans dk_j0)
theorem dX8_ask_1 : decode cX8_ask 1 = .ok (.iload_n 1, 1) := dk_27 ((dQ_X8_ask_0 1).trans dk_j1)
theorem dX8_ask_2 : decode cX8_ask 2 = .ok (.invokevirtual 271, 3) := dk_182 ((dQ_X8_ask_0 2).trans dk_j2) ((dQ_X8_ask_0 3).trans dk_j3) ((dQ_X8_ask_0 4).trans dk_j4) dk_vu2_1_15
theorem dX8_ask_5 : decode cX8_ask 5 = .ok (.istore_n 2, 1) := dk_61 ((dQ_X8_ask_0 5).trans dk_j5)
theorem dX8_ask_6 : decode cX8_ask 6 = .ok (.iload_n 2, 1) := dk_28 ((dQ_X8_ask_0 6).trans dk_j6)
theorem dX8_ask_7 : decode cX8_ask 7 = .ok (.ifCond .eq 7, 3) := dk_153 ((dQ_X8_ask_0 7).trans dk_j7) ((dQ_X8_ask_0 8).trans dk_j8) ((dQ_X8_ask_0 9).trans dk_j9) dk_vs2_0_7
theorem dX8_ask_10 : decode cX8_ask 10 = .ok (.iload_n 2, 1) := dk_28 ((dQ_X8_ask_0 10).trans dk_j10)
theorem dX8_ask_11 : decode cX8_ask 11 = .ok (.goto 17, 3) := dk_167 ((dQ_X8_ask_0 11).trans dk_j11) ((dQ_X8_ask_0 12).trans dk_j12) ((dQ_X8_ask_0 13).trans dk_j13) dk_vs2_0_17
theorem dX8_ask_14 : decode cX8_ask 14 = .ok (.aload_n 0, 1) := dk_42 ((dQ_X8_ask_0 14).trans dk_j14)
theorem dX8_ask_15 : decode cX8_ask 15 = .ok (.getfield 68, 3) := dk_180 ((dQ_X8_ask_0 15).trans dk_j15) ((dQ_X8_ask_1 0).trans dk_j0) ((dQ_X8_ask_1 1).trans dk_j1) dk_vu2_0_68
theorem dX8_ask_18 : decode cX8_ask 18 = .ok (.aload_n 0, 1) := dk_42 ((dQ_X8_ask_1 2).trans dk_j2)
theorem dX8_ask_19 : decode cX8_ask 19 = .ok (.getfield 44, 3) := dk_180 ((dQ_X8_ask_1 3).trans dk_j3) ((dQ_X8_ask_1 4).trans dk_j4) ((dQ_X8_ask_1 5).trans dk_j5) dk_vu2_0_44
theorem dX8_ask_22 : decode cX8_ask 22 = .ok (.getfield 162, 3) := dk_180 ((dQ_X8_ask_1 6).trans dk_j6) ((dQ_X8_ask_1 7).trans dk_j7) ((dQ_X8_ask_1 8).trans dk_j8) dk_vu2_0_162
theorem dX8_ask_25 : decode cX8_ask 25 = .ok (.invokevirtual 281, 3) := dk_182 ((dQ_X8_ask_1 9).trans dk_j9) ((dQ_X8_ask_1 10).trans dk_j10) ((dQ_X8_ask_1 11).trans dk_j11) dk_vu2_1_25
theorem dX8_ask_28 : decode cX8_ask 28 = .ok (.ireturn, 1) := dk_172 ((dQ_X8_ask_1 12).trans dk_j12)
def dT_X8_leaves_3 : List UInt8 := (0x01 : UInt8) :: (0x1c : UInt8) :: (0xac : UInt8) :: []
def dT_X8_leaves_2 : List UInt8 := (0x2a : UInt8) :: (0xb4 : UInt8) :: (0x00 : UInt8) :: (0x44 : UInt8) :: (0xb4 : UInt8) :: (0x01 : UInt8) :: (0x12 : UInt8) :: (0xa7 : UInt8) :: (0x00 : UInt8) :: (0x0b : UInt8) :: (0x2a : UInt8) :: (0xb4 : UInt8) :: (0x00 : UInt8) :: (0x44 : UInt8) :: (0x1d : UInt8) :: (0xb6 : UInt8) :: dT_X8_leaves_3
def dT_X8_leaves_1 : List UInt8 := (0x2a : UInt8) :: (0xb4 : UInt8) :: (0x00 : UInt8) :: (0x2c : UInt8) :: (0xb4 : UInt8) :: (0x00 : UInt8) :: (0xa2 : UInt8) :: (0xb6 : UInt8) :: (0x01 : UInt8) :: (0x19 : UInt8) :: (0x3e : UInt8) :: (0x1d : UInt8) :: (0x02 : UInt8) :: (0xa0 : UInt8) :: (0x00 : UInt8) :: (0x0d : UInt8) :: dT_X8_leaves_2
def dT_X8_leaves_0 : List UInt8 := (0x2a : UInt8) :: (0x1b : UInt8) :: (0xb6 : UInt8) :: (0x01 : UInt8) :: (0x0f : UInt8) :: (0x3d : UInt8) :: (0x1c : UInt8) :: (0x99 : UInt8) :: (0x00 : UInt8) :: (0x05 : UInt8) :: (0x1c : UInt8) :: (0xac : UInt8) :: (0x2a : UInt8) :: (0xb4 : UInt8) :: (0x00 : UInt8) :: (0x44 : UInt8) :: dT_X8_leaves_1
theorem dT_X8_leaves : cX8_leaves.data.toList = dT_X8_leaves_0 := eq_of_beq (show (cX8_leaves.data.toList == dT_X8_leaves_0) = true by decide +kernel)
theorem dQ_X8_leaves_0 : dQ_P cX8_leaves 0 dT_X8_leaves_0 := fun i => by rw [dT_X8_leaves]; rfl
theorem dQ_X8_leaves_1 : dQ_P cX8_leaves 16 dT_X8_leaves_1 := fun i => (dQ_X8_leaves_0 (i + 16)).trans dk_t
theorem dQ_X8_leaves_2 : dQ_P cX8_leaves 32 dT_X8_leaves_2 := fun i => (dQ_X8_leaves_1 (i + 16)).trans dk_t
theorem dQ_X8_leaves_3 : dQ_P cX8_leaves 48 dT_X8_leaves_3 := fun i => (dQ_X8_leaves_2 (i + 16)).trans dk_t
theorem dX8_leaves_0 : decode cX8_leaves 0 = .ok (.aload_n 0, 1) := dk_42 ((dQ_X8_leaves_0 0).trans dk_j0)
theorem dX8_leaves_1 : decode cX8_leaves 1 = .ok (.iload_n 1, 1) := dk_27 ((dQ_X8_leaves_0 1).trans dk_j1)
theorem dX8_leaves_2 : decode cX8_leaves 2 = .ok (.invokevirtual 271, 3) := dk_182 ((dQ_X8_leaves_0 2).trans dk_j2) ((dQ_X8_leaves_0 3).trans dk_j3) ((dQ_X8_leaves_0 4).trans dk_j4) dk_vu2_1_15
theorem dX8_leaves_5 : decode cX8_leaves 5 = .ok (.istore_n 2, 1) := dk_61 ((dQ_X8_leaves_0 5).trans dk_j5)
theorem dX8_leaves_6 : decode cX8_leaves 6 = .ok (.iload_n 2, 1) := dk_28 ((dQ_X8_leaves_0 6).trans dk_j6)
theorem dX8_leaves_7 : decode cX8_leaves 7 = .ok (.ifCond .eq 5, 3) := dk_153 ((dQ_X8_leaves_0 7).trans dk_j7) ((dQ_X8_leaves_0 8).trans dk_j8) ((dQ_X8_leaves_0 9).trans dk_j9) dk_vs2_0_5
theorem dX8_leaves_10 : decode cX8_leaves 10 = .ok (.iload_n 2, 1) := dk_28 ((dQ_X8_leaves_0 10).trans dk_j10)
theorem dX8_leaves_11 : decode cX8_leaves 11 = .ok (.ireturn, 1) := dk_172 ((dQ_X8_leaves_0 11).trans dk_j11)
theorem dX8_leaves_12 : decode cX8_leaves 12 = .ok (.aload_n 0, 1) := dk_42 ((dQ_X8_leaves_0 12).trans dk_j12)
theorem dX8_leaves_13 : decode cX8_leaves 13 = .ok (.getfield 68, 3) := dk_180 ((dQ_X8_leaves_0 13).trans dk_j13) ((dQ_X8_leaves_0 14).trans dk_j14) ((dQ_X8_leaves_0 15).trans dk_j15) dk_vu2_0_68
theorem dX8_leaves_16 : decode cX8_leaves 16 = .ok (.aload_n 0, 1) := dk_42 ((dQ_X8_leaves_1 0).trans dk_j0)
theorem dX8_leaves_17 : decode cX8_leaves 17 = .ok (.getfield 44, 3) := dk_180 ((dQ_X8_leaves_1 1).trans dk_j1) ((dQ_X8_leaves_1 2).trans dk_j2) ((dQ_X8_leaves_1 3).trans dk_j3) dk_vu2_0_44
theorem dX8_leaves_20 : decode cX8_leaves 20 = .ok (.getfield 162, 3) := dk_180 ((dQ_X8_leaves_1 4).trans dk_j4) ((dQ_X8_leaves_1 5).trans dk_j5) ((dQ_X8_leaves_1 6).trans dk_j6) dk_vu2_0_162
theorem dX8_leaves_23 : decode cX8_leaves 23 = .ok (.invokevirtual 281, 3) := dk_182 ((dQ_X8_leaves_1 7).trans dk_j7) ((dQ_X8_leaves_1 8).trans dk_j8) ((dQ_X8_leaves_1 9).trans dk_j9) dk_vu2_1_25
theorem dX8_leaves_26 : decode cX8_leaves 26 = .ok (.istore_n 3, 1) := dk_62 ((dQ_X8_leaves_1 10).trans dk_j10)
theorem dX8_leaves_27 : decode cX8_leaves 27 = .ok (.iload_n 3, 1) := dk_29 ((dQ_X8_leaves_1 11).trans dk_j11)
theorem dX8_leaves_28 : decode cX8_leaves 28 = .ok (.iconst (-1), 1) := dk_2 ((dQ_X8_leaves_1 12).trans dk_j12)
theorem dX8_leaves_29 : decode cX8_leaves 29 = .ok (.if_icmp .ne 13, 3) := dk_160 ((dQ_X8_leaves_1 13).trans dk_j13) ((dQ_X8_leaves_1 14).trans dk_j14) ((dQ_X8_leaves_1 15).trans dk_j15) dk_vs2_0_13
theorem dX8_leaves_32 : decode cX8_leaves 32 = .ok (.aload_n 0, 1) := dk_42 ((dQ_X8_leaves_2 0).trans dk_j0)
theorem dX8_leaves_33 : decode cX8_leaves 33 = .ok (.getfield 68, 3) := dk_180 ((dQ_X8_leaves_2 1).trans dk_j1) ((dQ_X8_leaves_2 2).trans dk_j2) ((dQ_X8_leaves_2 3).trans dk_j3) dk_vu2_0_68
theorem dX8_leaves_36 : decode cX8_leaves 36 = .ok (.getfield 274, 3) := dk_180 ((dQ_X8_leaves_2 4).trans dk_j4) ((dQ_X8_leaves_2 5).trans dk_j5) ((dQ_X8_leaves_2 6).trans dk_j6) dk_vu2_1_18
theorem dX8_leaves_39 : decode cX8_leaves 39 = .ok (.goto 11, 3) := dk_167 ((dQ_X8_leaves_2 7).trans dk_j7) ((dQ_X8_leaves_2 8).trans dk_j8) ((dQ_X8_leaves_2 9).trans dk_j9) dk_vs2_0_11
theorem dX8_leaves_42 : decode cX8_leaves 42 = .ok (.aload_n 0, 1) := dk_42 ((dQ_X8_leaves_2 10).trans dk_j10)
theorem dX8_leaves_43 : decode cX8_leaves 43 = .ok (.getfield 68, 3) := dk_180 ((dQ_X8_leaves_2 11).trans dk_j11) ((dQ_X8_leaves_2 12).trans dk_j12) ((dQ_X8_leaves_2 13).trans dk_j13) dk_vu2_0_68
theorem dX8_leaves_46 : decode cX8_leaves 46 = .ok (.iload_n 3, 1) := dk_29 ((dQ_X8_leaves_2 14).trans dk_j14)
theorem dX8_leaves_47 : decode cX8_leaves 47 = .ok (.invokevirtual 284, 3) := dk_182 ((dQ_X8_leaves_2 15).trans dk_j15) ((dQ_X8_leaves_3 0).trans dk_j0) ((dQ_X8_leaves_3 1).trans dk_j1) dk_vu2_1_28
theorem dX8_leaves_50 : decode cX8_leaves 50 = .ok (.ireturn, 1) := dk_172 ((dQ_X8_leaves_3 2).trans dk_j2)
def dT_X8_seek_11 : List UInt8 := (0x00 : UInt8) :: (0x30 : UInt8) :: (0xb6 : UInt8) :: (0x01 : UInt8) :: (0x32 : UInt8) :: (0x03 : UInt8) :: (0xac : UInt8) :: []
def dT_X8_seek_10 : List UInt8 := (0x84 : UInt8) :: (0x02 : UInt8) :: (0x02 : UInt8) :: (0xa7 : UInt8) :: (0xff : UInt8) :: (0x96 : UInt8) :: (0x2a : UInt8) :: (0xb4 : UInt8) :: (0x00 : UInt8) :: (0x44 : UInt8) :: (0x2a : UInt8) :: (0xb4 : UInt8) :: (0x00 : UInt8) :: (0x2c : UInt8) :: (0x2a : UInt8) :: (0xb4 : UInt8) :: dT_X8_seek_11
def dT_X8_seek_9 : List UInt8 := (0x00 : UInt8) :: (0x44 : UInt8) :: (0xb4 : UInt8) :: (0x01 : UInt8) :: (0x2f : UInt8) :: (0x21 : UInt8) :: (0x88 : UInt8) :: (0x5c : UInt8) :: (0x2e : UInt8) :: (0x04 : UInt8) :: (0x16 : UInt8) :: (0x05 : UInt8) :: (0x88 : UInt8) :: (0x78 : UInt8) :: (0x80 : UInt8) :: (0x4f : UInt8) :: dT_X8_seek_10
def dT_X8_seek_8 : List UInt8 := (0xb4 : UInt8) :: (0x00 : UInt8) :: (0x2c : UInt8) :: (0xb4 : UInt8) :: (0x00 : UInt8) :: (0x97 : UInt8) :: (0x85 : UInt8) :: (0x94 : UInt8) :: (0x9b : UInt8) :: (0x00 : UInt8) :: (0x06 : UInt8) :: (0x10 : UInt8) :: (0xfe : UInt8) :: (0xac : UInt8) :: (0x2a : UInt8) :: (0xb4 : UInt8) :: dT_X8_seek_9
def dT_X8_seek_7 : List UInt8 := (0xa2 : UInt8) :: (0x85 : UInt8) :: (0x94 : UInt8) :: (0x9c : UInt8) :: (0x00 : UInt8) :: (0x18 : UInt8) :: (0x16 : UInt8) :: (0x05 : UInt8) :: (0x09 : UInt8) :: (0x94 : UInt8) :: (0x9b : UInt8) :: (0x00 : UInt8) :: (0x11 : UInt8) :: (0x16 : UInt8) :: (0x05 : UInt8) :: (0x2a : UInt8) :: dT_X8_seek_8
def dT_X8_seek_6 : List UInt8 := (0x2f : UInt8) :: (0x37 : UInt8) :: (0x05 : UInt8) :: (0x21 : UInt8) :: (0x09 : UInt8) :: (0x94 : UInt8) :: (0x9b : UInt8) :: (0x00 : UInt8) :: (0x25 : UInt8) :: (0x21 : UInt8) :: (0x2a : UInt8) :: (0xb4 : UInt8) :: (0x00 : UInt8) :: (0x2c : UInt8) :: (0xb4 : UInt8) :: (0x00 : UInt8) :: dT_X8_seek_7
def dT_X8_seek_5 : List UInt8 := (0x32 : UInt8) :: (0x1c : UInt8) :: (0x2f : UInt8) :: (0x42 : UInt8) :: (0x2a : UInt8) :: (0xb4 : UInt8) :: (0x00 : UInt8) :: (0x25 : UInt8) :: (0xb4 : UInt8) :: (0x01 : UInt8) :: (0x2b : UInt8) :: (0x1b : UInt8) :: (0x32 : UInt8) :: (0x1c : UInt8) :: (0x04 : UInt8) :: (0x60 : UInt8) :: dT_X8_seek_6
def dT_X8_seek_4 : List UInt8 := (0xb4 : UInt8) :: (0x01 : UInt8) :: (0x25 : UInt8) :: (0x1b : UInt8) :: (0x2e : UInt8) :: (0xa2 : UInt8) :: (0x00 : UInt8) :: (0x61 : UInt8) :: (0x2a : UInt8) :: (0xb4 : UInt8) :: (0x00 : UInt8) :: (0x25 : UInt8) :: (0xb4 : UInt8) :: (0x01 : UInt8) :: (0x2b : UInt8) :: (0x1b : UInt8) :: dT_X8_seek_5
def dT_X8_seek_3 : List UInt8 := (0x2a : UInt8) :: (0xb4 : UInt8) :: (0x00 : UInt8) :: (0x44 : UInt8) :: (0xb6 : UInt8) :: (0x01 : UInt8) :: (0x28 : UInt8) :: (0x03 : UInt8) :: (0x3d : UInt8) :: (0x1c : UInt8) :: (0x04 : UInt8) :: (0x60 : UInt8) :: (0x2a : UInt8) :: (0xb4 : UInt8) :: (0x00 : UInt8) :: (0x25 : UInt8) :: dT_X8_seek_4
def dT_X8_seek_2 : List UInt8 := (0xb4 : UInt8) :: (0x00 : UInt8) :: (0x25 : UInt8) :: (0xb4 : UInt8) :: (0x01 : UInt8) :: (0x25 : UInt8) :: (0x1b : UInt8) :: (0x2e : UInt8) :: (0x05 : UInt8) :: (0x70 : UInt8) :: (0x99 : UInt8) :: (0x00 : UInt8) :: (0x06 : UInt8) :: (0x10 : UInt8) :: (0xfe : UInt8) :: (0xac : UInt8) :: dT_X8_seek_3
def dT_X8_seek_1 : List UInt8 := (0xac : UInt8) :: (0x2a : UInt8) :: (0xb4 : UInt8) :: (0x00 : UInt8) :: (0x25 : UInt8) :: (0x1b : UInt8) :: (0xb6 : UInt8) :: (0x01 : UInt8) :: (0x22 : UInt8) :: (0x9a : UInt8) :: (0x00 : UInt8) :: (0x06 : UInt8) :: (0x10 : UInt8) :: (0xfa : UInt8) :: (0xac : UInt8) :: (0x2a : UInt8) :: dT_X8_seek_2
def dT_X8_seek_0 : List UInt8 := (0x1b : UInt8) :: (0xb8 : UInt8) :: (0x01 : UInt8) :: (0x1f : UInt8) :: (0x99 : UInt8) :: (0x00 : UInt8) :: (0x0a : UInt8) :: (0x2a : UInt8) :: (0xb6 : UInt8) :: (0x00 : UInt8) :: (0x89 : UInt8) :: (0x9a : UInt8) :: (0x00 : UInt8) :: (0x06 : UInt8) :: (0x10 : UInt8) :: (0xfe : UInt8) :: dT_X8_seek_1
theorem dT_X8_seek : cX8_seek.data.toList = dT_X8_seek_0 := eq_of_beq (show (cX8_seek.data.toList == dT_X8_seek_0) = true by decide +kernel)
theorem dQ_X8_seek_0 : dQ_P cX8_seek 0 dT_X8_seek_0 := fun i => by rw [dT_X8_seek]; rfl
theorem dQ_X8_seek_1 : dQ_P cX8_seek 16 dT_X8_seek_1 := fun i => (dQ_X8_seek_0 (i + 16)).trans dk_t
theorem dQ_X8_seek_2 : dQ_P cX8_seek 32 dT_X8_seek_2 := fun i => (dQ_X8_seek_1 (i + 16)).trans dk_t
theorem dQ_X8_seek_3 : dQ_P cX8_seek 48 dT_X8_seek_3 := fun i => (dQ_X8_seek_2 (i + 16)).trans dk_t
theorem dQ_X8_seek_4 : dQ_P cX8_seek 64 dT_X8_seek_4 := fun i => (dQ_X8_seek_3 (i + 16)).trans dk_t
theorem dQ_X8_seek_5 : dQ_P cX8_seek 80 dT_X8_seek_5 := fun i => (dQ_X8_seek_4 (i + 16)).trans dk_t
theorem dQ_X8_seek_6 : dQ_P cX8_seek 96 dT_X8_seek_6 := fun i => (dQ_X8_seek_5 (i + 16)).trans dk_t
theorem dQ_X8_seek_7 : dQ_P cX8_seek 112 dT_X8_seek_7 := fun i => (dQ_X8_seek_6 (i + 16)).trans dk_t
theorem dQ_X8_seek_8 : dQ_P cX8_seek 128 dT_X8_seek_8 := fun i => (dQ_X8_seek_7 (i + 16)).trans dk_t
theorem dQ_X8_seek_9 : dQ_P cX8_seek 144 dT_X8_seek_9 := fun i => (dQ_X8_seek_8 (i + 16)).trans dk_t
theorem dQ_X8_seek_10 : dQ_P cX8_seek 160 dT_X8_seek_10 := fun i => (dQ_X8_seek_9 (i + 16)).trans dk_t
theorem dQ_X8_seek_11 : dQ_P cX8_seek 176 dT_X8_seek_11 := fun i => (dQ_X8_seek_10 (i + 16)).trans dk_t
theorem dX8_seek_0 : decode cX8_seek 0 = .ok (.iload_n 1, 1) := dk_27 ((dQ_X8_seek_0 0).trans dk_j0)
theorem dX8_seek_1 : decode cX8_seek 1 = .ok (.invokestatic 287, 3) := dk_184 ((dQ_X8_seek_0 1).trans dk_j1) ((dQ_X8_seek_0 2).trans dk_j2) ((dQ_X8_seek_0 3).trans dk_j3) dk_vu2_1_31
theorem dX8_seek_4 : decode cX8_seek 4 = .ok (.ifCond .eq 10, 3) := dk_153 ((dQ_X8_seek_0 4).trans dk_j4) ((dQ_X8_seek_0 5).trans dk_j5) ((dQ_X8_seek_0 6).trans dk_j6) dk_vs2_0_10
theorem dX8_seek_7 : decode cX8_seek 7 = .ok (.aload_n 0, 1) := dk_42 ((dQ_X8_seek_0 7).trans dk_j7)
theorem dX8_seek_8 : decode cX8_seek 8 = .ok (.invokevirtual 137, 3) := dk_182 ((dQ_X8_seek_0 8).trans dk_j8) ((dQ_X8_seek_0 9).trans dk_j9) ((dQ_X8_seek_0 10).trans dk_j10) dk_vu2_0_137
theorem dX8_seek_11 : decode cX8_seek 11 = .ok (.ifCond .ne 6, 3) := dk_154 ((dQ_X8_seek_0 11).trans dk_j11) ((dQ_X8_seek_0 12).trans dk_j12) ((dQ_X8_seek_0 13).trans dk_j13) dk_vs2_0_6
theorem dX8_seek_14 : decode cX8_seek 14 = .ok (.bipush (-2), 2) := dk_16 ((dQ_X8_seek_0 14).trans dk_j14) ((dQ_X8_seek_0 15).trans dk_j15) dk_vs1_254
theorem dX8_seek_16 : decode cX8_seek 16 = .ok (.ireturn, 1) := dk_172 ((dQ_X8_seek_1 0).trans dk_j0)
theorem dX8_seek_17 : decode cX8_seek 17 = .ok (.aload_n 0, 1) := dk_42 ((dQ_X8_seek_1 1).trans dk_j1)
theorem dX8_seek_18 : decode cX8_seek 18 = .ok (.getfield 37, 3) := dk_180 ((dQ_X8_seek_1 2).trans dk_j2) ((dQ_X8_seek_1 3).trans dk_j3) ((dQ_X8_seek_1 4).trans dk_j4) dk_vu2_0_37
theorem dX8_seek_21 : decode cX8_seek 21 = .ok (.iload_n 1, 1) := dk_27 ((dQ_X8_seek_1 5).trans dk_j5)
theorem dX8_seek_22 : decode cX8_seek 22 = .ok (.invokevirtual 290, 3) := dk_182 ((dQ_X8_seek_1 6).trans dk_j6) ((dQ_X8_seek_1 7).trans dk_j7) ((dQ_X8_seek_1 8).trans dk_j8) dk_vu2_1_34
theorem dX8_seek_25 : decode cX8_seek 25 = .ok (.ifCond .ne 6, 3) := dk_154 ((dQ_X8_seek_1 9).trans dk_j9) ((dQ_X8_seek_1 10).trans dk_j10) ((dQ_X8_seek_1 11).trans dk_j11) dk_vs2_0_6
theorem dX8_seek_28 : decode cX8_seek 28 = .ok (.bipush (-6), 2) := dk_16 ((dQ_X8_seek_1 12).trans dk_j12) ((dQ_X8_seek_1 13).trans dk_j13) dk_vs1_250
theorem dX8_seek_30 : decode cX8_seek 30 = .ok (.ireturn, 1) := dk_172 ((dQ_X8_seek_1 14).trans dk_j14)
theorem dX8_seek_31 : decode cX8_seek 31 = .ok (.aload_n 0, 1) := dk_42 ((dQ_X8_seek_1 15).trans dk_j15)
theorem dX8_seek_32 : decode cX8_seek 32 = .ok (.getfield 37, 3) := dk_180 ((dQ_X8_seek_2 0).trans dk_j0) ((dQ_X8_seek_2 1).trans dk_j1) ((dQ_X8_seek_2 2).trans dk_j2) dk_vu2_0_37
theorem dX8_seek_35 : decode cX8_seek 35 = .ok (.getfield 293, 3) := dk_180 ((dQ_X8_seek_2 3).trans dk_j3) ((dQ_X8_seek_2 4).trans dk_j4) ((dQ_X8_seek_2 5).trans dk_j5) dk_vu2_1_37
theorem dX8_seek_38 : decode cX8_seek 38 = .ok (.iload_n 1, 1) := dk_27 ((dQ_X8_seek_2 6).trans dk_j6)
theorem dX8_seek_39 : decode cX8_seek 39 = .ok (.iaload, 1) := dk_46 ((dQ_X8_seek_2 7).trans dk_j7)
theorem dX8_seek_40 : decode cX8_seek 40 = .ok (.iconst 2, 1) := dk_5 ((dQ_X8_seek_2 8).trans dk_j8)
theorem dX8_seek_41 : decode cX8_seek 41 = .ok (.irem, 1) := dk_112 ((dQ_X8_seek_2 9).trans dk_j9)
theorem dX8_seek_42 : decode cX8_seek 42 = .ok (.ifCond .eq 6, 3) := dk_153 ((dQ_X8_seek_2 10).trans dk_j10) ((dQ_X8_seek_2 11).trans dk_j11) ((dQ_X8_seek_2 12).trans dk_j12) dk_vs2_0_6
theorem dX8_seek_45 : decode cX8_seek 45 = .ok (.bipush (-2), 2) := dk_16 ((dQ_X8_seek_2 13).trans dk_j13) ((dQ_X8_seek_2 14).trans dk_j14) dk_vs1_254
theorem dX8_seek_47 : decode cX8_seek 47 = .ok (.ireturn, 1) := dk_172 ((dQ_X8_seek_2 15).trans dk_j15)
theorem dX8_seek_48 : decode cX8_seek 48 = .ok (.aload_n 0, 1) := dk_42 ((dQ_X8_seek_3 0).trans dk_j0)
theorem dX8_seek_49 : decode cX8_seek 49 = .ok (.getfield 68, 3) := dk_180 ((dQ_X8_seek_3 1).trans dk_j1) ((dQ_X8_seek_3 2).trans dk_j2) ((dQ_X8_seek_3 3).trans dk_j3) dk_vu2_0_68
theorem dX8_seek_52 : decode cX8_seek 52 = .ok (.invokevirtual 296, 3) := dk_182 ((dQ_X8_seek_3 4).trans dk_j4) ((dQ_X8_seek_3 5).trans dk_j5) ((dQ_X8_seek_3 6).trans dk_j6) dk_vu2_1_40
theorem dX8_seek_55 : decode cX8_seek 55 = .ok (.iconst 0, 1) := dk_3 ((dQ_X8_seek_3 7).trans dk_j7)
theorem dX8_seek_56 : decode cX8_seek 56 = .ok (.istore_n 2, 1) := dk_61 ((dQ_X8_seek_3 8).trans dk_j8)
theorem dX8_seek_57 : decode cX8_seek 57 = .ok (.iload_n 2, 1) := dk_28 ((dQ_X8_seek_3 9).trans dk_j9)
theorem dX8_seek_58 : decode cX8_seek 58 = .ok (.iconst 1, 1) := dk_4 ((dQ_X8_seek_3 10).trans dk_j10)
theorem dX8_seek_59 : decode cX8_seek 59 = .ok (.iadd, 1) := dk_96 ((dQ_X8_seek_3 11).trans dk_j11)
theorem dX8_seek_60 : decode cX8_seek 60 = .ok (.aload_n 0, 1) := dk_42 ((dQ_X8_seek_3 12).trans dk_j12)
theorem dX8_seek_61 : decode cX8_seek 61 = .ok (.getfield 37, 3) := dk_180 ((dQ_X8_seek_3 13).trans dk_j13) ((dQ_X8_seek_3 14).trans dk_j14) ((dQ_X8_seek_3 15).trans dk_j15) dk_vu2_0_37
theorem dX8_seek_64 : decode cX8_seek 64 = .ok (.getfield 293, 3) := dk_180 ((dQ_X8_seek_4 0).trans dk_j0) ((dQ_X8_seek_4 1).trans dk_j1) ((dQ_X8_seek_4 2).trans dk_j2) dk_vu2_1_37
theorem dX8_seek_67 : decode cX8_seek 67 = .ok (.iload_n 1, 1) := dk_27 ((dQ_X8_seek_4 3).trans dk_j3)
theorem dX8_seek_68 : decode cX8_seek 68 = .ok (.iaload, 1) := dk_46 ((dQ_X8_seek_4 4).trans dk_j4)
theorem dX8_seek_69 : decode cX8_seek 69 = .ok (.if_icmp .ge 97, 3) := dk_162 ((dQ_X8_seek_4 5).trans dk_j5) ((dQ_X8_seek_4 6).trans dk_j6) ((dQ_X8_seek_4 7).trans dk_j7) dk_vs2_0_97
theorem dX8_seek_72 : decode cX8_seek 72 = .ok (.aload_n 0, 1) := dk_42 ((dQ_X8_seek_4 8).trans dk_j8)
theorem dX8_seek_73 : decode cX8_seek 73 = .ok (.getfield 37, 3) := dk_180 ((dQ_X8_seek_4 9).trans dk_j9) ((dQ_X8_seek_4 10).trans dk_j10) ((dQ_X8_seek_4 11).trans dk_j11) dk_vu2_0_37
theorem dk_vu2_1_43 : (0x01 : UInt8).toNat * 256 + (0x2b : UInt8).toNat = (299 : Nat) := by decide +kernel
theorem dX8_seek_76 : decode cX8_seek 76 = .ok (.getfield 299, 3) := dk_180 ((dQ_X8_seek_4 12).trans dk_j12) ((dQ_X8_seek_4 13).trans dk_j13) ((dQ_X8_seek_4 14).trans dk_j14) dk_vu2_1_43
theorem dX8_seek_79 : decode cX8_seek 79 = .ok (.iload_n 1, 1) := dk_27 ((dQ_X8_seek_4 15).trans dk_j15)
theorem dX8_seek_80 : decode cX8_seek 80 = .ok (.aaload, 1) := dk_50 ((dQ_X8_seek_5 0).trans dk_j0)
theorem dX8_seek_81 : decode cX8_seek 81 = .ok (.iload_n 2, 1) := dk_28 ((dQ_X8_seek_5 1).trans dk_j1)
theorem dX8_seek_82 : decode cX8_seek 82 = .ok (.laload, 1) := dk_47 ((dQ_X8_seek_5 2).trans dk_j2)
theorem dX8_seek_83 : decode cX8_seek 83 = .ok (.lstore_n 3, 1) := dk_66 ((dQ_X8_seek_5 3).trans dk_j3)
theorem dX8_seek_84 : decode cX8_seek 84 = .ok (.aload_n 0, 1) := dk_42 ((dQ_X8_seek_5 4).trans dk_j4)
theorem dX8_seek_85 : decode cX8_seek 85 = .ok (.getfield 37, 3) := dk_180 ((dQ_X8_seek_5 5).trans dk_j5) ((dQ_X8_seek_5 6).trans dk_j6) ((dQ_X8_seek_5 7).trans dk_j7) dk_vu2_0_37
theorem dX8_seek_88 : decode cX8_seek 88 = .ok (.getfield 299, 3) := dk_180 ((dQ_X8_seek_5 8).trans dk_j8) ((dQ_X8_seek_5 9).trans dk_j9) ((dQ_X8_seek_5 10).trans dk_j10) dk_vu2_1_43
theorem dX8_seek_91 : decode cX8_seek 91 = .ok (.iload_n 1, 1) := dk_27 ((dQ_X8_seek_5 11).trans dk_j11)
theorem dX8_seek_92 : decode cX8_seek 92 = .ok (.aaload, 1) := dk_50 ((dQ_X8_seek_5 12).trans dk_j12)
theorem dX8_seek_93 : decode cX8_seek 93 = .ok (.iload_n 2, 1) := dk_28 ((dQ_X8_seek_5 13).trans dk_j13)
theorem dX8_seek_94 : decode cX8_seek 94 = .ok (.iconst 1, 1) := dk_4 ((dQ_X8_seek_5 14).trans dk_j14)
theorem dX8_seek_95 : decode cX8_seek 95 = .ok (.iadd, 1) := dk_96 ((dQ_X8_seek_5 15).trans dk_j15)
theorem dX8_seek_96 : decode cX8_seek 96 = .ok (.laload, 1) := dk_47 ((dQ_X8_seek_6 0).trans dk_j0)
theorem dX8_seek_97 : decode cX8_seek 97 = .ok (.lstore 5, 2) := dk_55 ((dQ_X8_seek_6 1).trans dk_j1) ((dQ_X8_seek_6 2).trans dk_j2) dk_vu1_5
theorem dX8_seek_99 : decode cX8_seek 99 = .ok (.lload_n 3, 1) := dk_33 ((dQ_X8_seek_6 3).trans dk_j3)
theorem dX8_seek_100 : decode cX8_seek 100 = .ok (.lconst 0, 1) := dk_9 ((dQ_X8_seek_6 4).trans dk_j4)
theorem dX8_seek_101 : decode cX8_seek 101 = .ok (.lcmp, 1) := dk_148 ((dQ_X8_seek_6 5).trans dk_j5)
theorem dX8_seek_102 : decode cX8_seek 102 = .ok (.ifCond .lt 37, 3) := dk_155 ((dQ_X8_seek_6 6).trans dk_j6) ((dQ_X8_seek_6 7).trans dk_j7) ((dQ_X8_seek_6 8).trans dk_j8) dk_vs2_0_37
theorem dX8_seek_105 : decode cX8_seek 105 = .ok (.lload_n 3, 1) := dk_33 ((dQ_X8_seek_6 9).trans dk_j9)
theorem dX8_seek_106 : decode cX8_seek 106 = .ok (.aload_n 0, 1) := dk_42 ((dQ_X8_seek_6 10).trans dk_j10)
theorem dX8_seek_107 : decode cX8_seek 107 = .ok (.getfield 44, 3) := dk_180 ((dQ_X8_seek_6 11).trans dk_j11) ((dQ_X8_seek_6 12).trans dk_j12) ((dQ_X8_seek_6 13).trans dk_j13) dk_vu2_0_44
theorem dX8_seek_110 : decode cX8_seek 110 = .ok (.getfield 162, 3) := dk_180 ((dQ_X8_seek_6 14).trans dk_j14) ((dQ_X8_seek_6 15).trans dk_j15) ((dQ_X8_seek_7 0).trans dk_j0) dk_vu2_0_162
theorem dX8_seek_113 : decode cX8_seek 113 = .ok (.i2l, 1) := dk_133 ((dQ_X8_seek_7 1).trans dk_j1)
theorem dX8_seek_114 : decode cX8_seek 114 = .ok (.lcmp, 1) := dk_148 ((dQ_X8_seek_7 2).trans dk_j2)
theorem dX8_seek_115 : decode cX8_seek 115 = .ok (.ifCond .ge 24, 3) := dk_156 ((dQ_X8_seek_7 3).trans dk_j3) ((dQ_X8_seek_7 4).trans dk_j4) ((dQ_X8_seek_7 5).trans dk_j5) dk_vs2_0_24
theorem dX8_seek_118 : decode cX8_seek 118 = .ok (.lload 5, 2) := dk_22 ((dQ_X8_seek_7 6).trans dk_j6) ((dQ_X8_seek_7 7).trans dk_j7) dk_vu1_5
theorem dX8_seek_120 : decode cX8_seek 120 = .ok (.lconst 0, 1) := dk_9 ((dQ_X8_seek_7 8).trans dk_j8)
theorem dX8_seek_121 : decode cX8_seek 121 = .ok (.lcmp, 1) := dk_148 ((dQ_X8_seek_7 9).trans dk_j9)
theorem dX8_seek_122 : decode cX8_seek 122 = .ok (.ifCond .lt 17, 3) := dk_155 ((dQ_X8_seek_7 10).trans dk_j10) ((dQ_X8_seek_7 11).trans dk_j11) ((dQ_X8_seek_7 12).trans dk_j12) dk_vs2_0_17
theorem dX8_seek_125 : decode cX8_seek 125 = .ok (.lload 5, 2) := dk_22 ((dQ_X8_seek_7 13).trans dk_j13) ((dQ_X8_seek_7 14).trans dk_j14) dk_vu1_5
theorem dX8_seek_127 : decode cX8_seek 127 = .ok (.aload_n 0, 1) := dk_42 ((dQ_X8_seek_7 15).trans dk_j15)
theorem dX8_seek_128 : decode cX8_seek 128 = .ok (.getfield 44, 3) := dk_180 ((dQ_X8_seek_8 0).trans dk_j0) ((dQ_X8_seek_8 1).trans dk_j1) ((dQ_X8_seek_8 2).trans dk_j2) dk_vu2_0_44
theorem dX8_seek_131 : decode cX8_seek 131 = .ok (.getfield 151, 3) := dk_180 ((dQ_X8_seek_8 3).trans dk_j3) ((dQ_X8_seek_8 4).trans dk_j4) ((dQ_X8_seek_8 5).trans dk_j5) dk_vu2_0_151
theorem dX8_seek_134 : decode cX8_seek 134 = .ok (.i2l, 1) := dk_133 ((dQ_X8_seek_8 6).trans dk_j6)
theorem dX8_seek_135 : decode cX8_seek 135 = .ok (.lcmp, 1) := dk_148 ((dQ_X8_seek_8 7).trans dk_j7)
theorem dX8_seek_136 : decode cX8_seek 136 = .ok (.ifCond .lt 6, 3) := dk_155 ((dQ_X8_seek_8 8).trans dk_j8) ((dQ_X8_seek_8 9).trans dk_j9) ((dQ_X8_seek_8 10).trans dk_j10) dk_vs2_0_6
theorem dX8_seek_139 : decode cX8_seek 139 = .ok (.bipush (-2), 2) := dk_16 ((dQ_X8_seek_8 11).trans dk_j11) ((dQ_X8_seek_8 12).trans dk_j12) dk_vs1_254
theorem dX8_seek_141 : decode cX8_seek 141 = .ok (.ireturn, 1) := dk_172 ((dQ_X8_seek_8 13).trans dk_j13)
theorem dX8_seek_142 : decode cX8_seek 142 = .ok (.aload_n 0, 1) := dk_42 ((dQ_X8_seek_8 14).trans dk_j14)
theorem dX8_seek_143 : decode cX8_seek 143 = .ok (.getfield 68, 3) := dk_180 ((dQ_X8_seek_8 15).trans dk_j15) ((dQ_X8_seek_9 0).trans dk_j0) ((dQ_X8_seek_9 1).trans dk_j1) dk_vu2_0_68
theorem dk_vu2_1_47 : (0x01 : UInt8).toNat * 256 + (0x2f : UInt8).toNat = (303 : Nat) := by decide +kernel
theorem dX8_seek_146 : decode cX8_seek 146 = .ok (.getfield 303, 3) := dk_180 ((dQ_X8_seek_9 2).trans dk_j2) ((dQ_X8_seek_9 3).trans dk_j3) ((dQ_X8_seek_9 4).trans dk_j4) dk_vu2_1_47
theorem dX8_seek_149 : decode cX8_seek 149 = .ok (.lload_n 3, 1) := dk_33 ((dQ_X8_seek_9 5).trans dk_j5)
theorem dX8_seek_150 : decode cX8_seek 150 = .ok (.l2i, 1) := dk_136 ((dQ_X8_seek_9 6).trans dk_j6)
theorem dX8_seek_151 : decode cX8_seek 151 = .ok (.dup2, 1) := dk_92 ((dQ_X8_seek_9 7).trans dk_j7)
theorem dX8_seek_152 : decode cX8_seek 152 = .ok (.iaload, 1) := dk_46 ((dQ_X8_seek_9 8).trans dk_j8)
theorem dX8_seek_153 : decode cX8_seek 153 = .ok (.iconst 1, 1) := dk_4 ((dQ_X8_seek_9 9).trans dk_j9)
theorem dX8_seek_154 : decode cX8_seek 154 = .ok (.lload 5, 2) := dk_22 ((dQ_X8_seek_9 10).trans dk_j10) ((dQ_X8_seek_9 11).trans dk_j11) dk_vu1_5
theorem dX8_seek_156 : decode cX8_seek 156 = .ok (.l2i, 1) := dk_136 ((dQ_X8_seek_9 12).trans dk_j12)
theorem dX8_seek_157 : decode cX8_seek 157 = .ok (.ishl, 1) := dk_120 ((dQ_X8_seek_9 13).trans dk_j13)
theorem dX8_seek_158 : decode cX8_seek 158 = .ok (.ior, 1) := dk_128 ((dQ_X8_seek_9 14).trans dk_j14)
theorem dX8_seek_159 : decode cX8_seek 159 = .ok (.iastore, 1) := dk_79 ((dQ_X8_seek_9 15).trans dk_j15)
theorem dX8_seek_160 : decode cX8_seek 160 = .ok (.iinc 2 2, 3) := dk_132 ((dQ_X8_seek_10 0).trans dk_j0) ((dQ_X8_seek_10 1).trans dk_j1) ((dQ_X8_seek_10 2).trans dk_j2) dk_vu1_2 dk_vs1_2
theorem dk_vs2_255_150 : Reader.signed 16 ((0xff : UInt8).toNat * 256 + (0x96 : UInt8).toNat) = (-106 : Int) := by decide +kernel
theorem dX8_seek_163 : decode cX8_seek 163 = .ok (.goto (-106), 3) := dk_167 ((dQ_X8_seek_10 3).trans dk_j3) ((dQ_X8_seek_10 4).trans dk_j4) ((dQ_X8_seek_10 5).trans dk_j5) dk_vs2_255_150
theorem dX8_seek_166 : decode cX8_seek 166 = .ok (.aload_n 0, 1) := dk_42 ((dQ_X8_seek_10 6).trans dk_j6)
theorem dX8_seek_167 : decode cX8_seek 167 = .ok (.getfield 68, 3) := dk_180 ((dQ_X8_seek_10 7).trans dk_j7) ((dQ_X8_seek_10 8).trans dk_j8) ((dQ_X8_seek_10 9).trans dk_j9) dk_vu2_0_68
theorem dX8_seek_170 : decode cX8_seek 170 = .ok (.aload_n 0, 1) := dk_42 ((dQ_X8_seek_10 10).trans dk_j10)
theorem dX8_seek_171 : decode cX8_seek 171 = .ok (.getfield 44, 3) := dk_180 ((dQ_X8_seek_10 11).trans dk_j11) ((dQ_X8_seek_10 12).trans dk_j12) ((dQ_X8_seek_10 13).trans dk_j13) dk_vu2_0_44
theorem dX8_seek_174 : decode cX8_seek 174 = .ok (.aload_n 0, 1) := dk_42 ((dQ_X8_seek_10 14).trans dk_j14)
theorem dX8_seek_175 : decode cX8_seek 175 = .ok (.getfield 48, 3) := dk_180 ((dQ_X8_seek_10 15).trans dk_j15) ((dQ_X8_seek_11 0).trans dk_j0) ((dQ_X8_seek_11 1).trans dk_j1) dk_vu2_0_48
theorem dk_vu2_1_50 : (0x01 : UInt8).toNat * 256 + (0x32 : UInt8).toNat = (306 : Nat) := by decide +kernel
theorem dX8_seek_178 : decode cX8_seek 178 = .ok (.invokevirtual 306, 3) := dk_182 ((dQ_X8_seek_11 2).trans dk_j2) ((dQ_X8_seek_11 3).trans dk_j3) ((dQ_X8_seek_11 4).trans dk_j4) dk_vu2_1_50
theorem dX8_seek_181 : decode cX8_seek 181 = .ok (.iconst 0, 1) := dk_3 ((dQ_X8_seek_11 5).trans dk_j5)
theorem dX8_seek_182 : decode cX8_seek 182 = .ok (.ireturn, 1) := dk_172 ((dQ_X8_seek_11 6).trans dk_j6)
def dT_X8_rests_8 : List UInt8 := (0xff : UInt8) :: (0x9e : UInt8) :: (0x1d : UInt8) :: (0xac : UInt8) :: []
def dT_X8_rests_7 : List UInt8 := (0x05 : UInt8) :: (0x68 : UInt8) :: (0x60 : UInt8) :: (0x78 : UInt8) :: (0x80 : UInt8) :: (0x3e : UInt8) :: (0x84 : UInt8) :: (0x05 : UInt8) :: (0x01 : UInt8) :: (0xa7 : UInt8) :: (0xff : UInt8) :: (0xad : UInt8) :: (0x84 : UInt8) :: (0x04 : UInt8) :: (0x01 : UInt8) :: (0xa7 : UInt8) :: dT_X8_rests_8
def dT_X8_rests_6 : List UInt8 := (0x05 : UInt8) :: (0x64 : UInt8) :: (0x15 : UInt8) :: (0x04 : UInt8) :: (0xb6 : UInt8) :: (0x01 : UInt8) :: (0x36 : UInt8) :: (0xa3 : UInt8) :: (0x00 : UInt8) :: (0x0f : UInt8) :: (0x1d : UInt8) :: (0x04 : UInt8) :: (0x15 : UInt8) :: (0x04 : UInt8) :: (0x05 : UInt8) :: (0x15 : UInt8) :: dT_X8_rests_7
def dT_X8_rests_5 : List UInt8 := (0x28 : UInt8) :: (0x2a : UInt8) :: (0x1c : UInt8) :: (0x1b : UInt8) :: (0x15 : UInt8) :: (0x05 : UInt8) :: (0x15 : UInt8) :: (0x04 : UInt8) :: (0xb6 : UInt8) :: (0x01 : UInt8) :: (0x36 : UInt8) :: (0x2a : UInt8) :: (0x1c : UInt8) :: (0x1b : UInt8) :: (0x04 : UInt8) :: (0x15 : UInt8) :: dT_X8_rests_6
def dT_X8_rests_4 : List UInt8 := (0x01 : UInt8) :: (0x36 : UInt8) :: (0xa3 : UInt8) :: (0x00 : UInt8) :: (0x07 : UInt8) :: (0x04 : UInt8) :: (0xa7 : UInt8) :: (0x00 : UInt8) :: (0x04 : UInt8) :: (0x03 : UInt8) :: (0x36 : UInt8) :: (0x06 : UInt8) :: (0x15 : UInt8) :: (0x06 : UInt8) :: (0x99 : UInt8) :: (0x00 : UInt8) :: dT_X8_rests_5
def dT_X8_rests_3 : List UInt8 := (0x04 : UInt8) :: (0x15 : UInt8) :: (0x05 : UInt8) :: (0xb6 : UInt8) :: (0x01 : UInt8) :: (0x36 : UInt8) :: (0x2a : UInt8) :: (0x1b : UInt8) :: (0x1c : UInt8) :: (0x04 : UInt8) :: (0x15 : UInt8) :: (0x04 : UInt8) :: (0x64 : UInt8) :: (0x15 : UInt8) :: (0x05 : UInt8) :: (0xb6 : UInt8) :: dT_X8_rests_4
def dT_X8_rests_2 : List UInt8 := (0xa2 : UInt8) :: (0x00 : UInt8) :: (0x62 : UInt8) :: (0x03 : UInt8) :: (0x36 : UInt8) :: (0x05 : UInt8) :: (0x15 : UInt8) :: (0x05 : UInt8) :: (0x05 : UInt8) :: (0xa2 : UInt8) :: (0x00 : UInt8) :: (0x53 : UInt8) :: (0x2a : UInt8) :: (0x1b : UInt8) :: (0x1c : UInt8) :: (0x15 : UInt8) :: dT_X8_rests_3
def dT_X8_rests_1 : List UInt8 := (0x1b : UInt8) :: (0x1c : UInt8) :: (0xa0 : UInt8) :: (0x00 : UInt8) :: (0x06 : UInt8) :: (0x10 : UInt8) :: (0xfe : UInt8) :: (0xac : UInt8) :: (0x03 : UInt8) :: (0x3e : UInt8) :: (0x03 : UInt8) :: (0x36 : UInt8) :: (0x04 : UInt8) :: (0x15 : UInt8) :: (0x04 : UInt8) :: (0x05 : UInt8) :: dT_X8_rests_2
def dT_X8_rests_0 : List UInt8 := (0x2a : UInt8) :: (0x1b : UInt8) :: (0xb6 : UInt8) :: (0x00 : UInt8) :: (0x6b : UInt8) :: (0x99 : UInt8) :: (0x00 : UInt8) :: (0x10 : UInt8) :: (0x2a : UInt8) :: (0x1c : UInt8) :: (0xb6 : UInt8) :: (0x00 : UInt8) :: (0x6b : UInt8) :: (0x99 : UInt8) :: (0x00 : UInt8) :: (0x08 : UInt8) :: dT_X8_rests_1
theorem dT_X8_rests : cX8_rests.data.toList = dT_X8_rests_0 := eq_of_beq (show (cX8_rests.data.toList == dT_X8_rests_0) = true by decide +kernel)
theorem dQ_X8_rests_0 : dQ_P cX8_rests 0 dT_X8_rests_0 := fun i => by rw [dT_X8_rests]; rfl
theorem dQ_X8_rests_1 : dQ_P cX8_rests 16 dT_X8_rests_1 := fun i => (dQ_X8_rests_0 (i + 16)).trans dk_t
theorem dQ_X8_rests_2 : dQ_P cX8_rests 32 dT_X8_rests_2 := fun i => (dQ_X8_rests_1 (i + 16)).trans dk_t
theorem dQ_X8_rests_3 : dQ_P cX8_rests 48 dT_X8_rests_3 := fun i => (dQ_X8_rests_2 (i + 16)).trans dk_t
theorem dQ_X8_rests_4 : dQ_P cX8_rests 64 dT_X8_rests_4 := fun i => (dQ_X8_rests_3 (i + 16)).trans dk_t
theorem dQ_X8_rests_5 : dQ_P cX8_rests 80 dT_X8_rests_5 := fun i => (dQ_X8_rests_4 (i + 16)).trans dk_t
theorem dQ_X8_rests_6 : dQ_P cX8_rests 96 dT_X8_rests_6 := fun i => (dQ_X8_rests_5 (i + 16)).trans dk_t
theorem dQ_X8_rests_7 : dQ_P cX8_rests 112 dT_X8_rests_7 := fun i => (dQ_X8_rests_6 (i + 16)).trans dk_t
theorem dQ_X8_rests_8 : dQ_P cX8_rests 128 dT_X8_rests_8 := fun i => (dQ_X8_rests_7 (i + 16)).trans dk_t
theorem dX8_rests_0 : decode cX8_rests 0 = .ok (.aload_n 0, 1) := dk_42 ((dQ_X8_rests_0 0).trans dk_j0)
theorem dX8_rests_1 : decode cX8_rests 1 = .ok (.iload_n 1, 1) := dk_27 ((dQ_X8_rests_0 1).trans dk_j1)
theorem dX8_rests_2 : decode cX8_rests 2 = .ok (.invokevirtual 107, 3) := dk_182 ((dQ_X8_rests_0 2).trans dk_j2) ((dQ_X8_rests_0 3).trans dk_j3) ((dQ_X8_rests_0 4).trans dk_j4) dk_vu2_0_107
theorem dX8_rests_5 : decode cX8_rests 5 = .ok (.ifCond .eq 16, 3) := dk_153 ((dQ_X8_rests_0 5).trans dk_j5) ((dQ_X8_rests_0 6).trans dk_j6) ((dQ_X8_rests_0 7).trans dk_j7) dk_vs2_0_16
theorem dX8_rests_8 : decode cX8_rests 8 = .ok (.aload_n 0, 1) := dk_42 ((dQ_X8_rests_0 8).trans dk_j8)
theorem dX8_rests_9 : decode cX8_rests 9 = .ok (.iload_n 2, 1) := dk_28 ((dQ_X8_rests_0 9).trans dk_j9)
theorem dX8_rests_10 : decode cX8_rests 10 = .ok (.invokevirtual 107, 3) := dk_182 ((dQ_X8_rests_0 10).trans dk_j10) ((dQ_X8_rests_0 11).trans dk_j11) ((dQ_X8_rests_0 12).trans dk_j12) dk_vu2_0_107
theorem dX8_rests_13 : decode cX8_rests 13 = .ok (.ifCond .eq 8, 3) := dk_153 ((dQ_X8_rests_0 13).trans dk_j13) ((dQ_X8_rests_0 14).trans dk_j14) ((dQ_X8_rests_0 15).trans dk_j15) dk_vs2_0_8
theorem dX8_rests_16 : decode cX8_rests 16 = .ok (.iload_n 1, 1) := dk_27 ((dQ_X8_rests_1 0).trans dk_j0)
theorem dX8_rests_17 : decode cX8_rests 17 = .ok (.iload_n 2, 1) := dk_28 ((dQ_X8_rests_1 1).trans dk_j1)
theorem dX8_rests_18 : decode cX8_rests 18 = .ok (.if_icmp .ne 6, 3) := dk_160 ((dQ_X8_rests_1 2).trans dk_j2) ((dQ_X8_rests_1 3).trans dk_j3) ((dQ_X8_rests_1 4).trans dk_j4) dk_vs2_0_6
theorem dX8_rests_21 : decode cX8_rests 21 = .ok (.bipush (-2), 2) := dk_16 ((dQ_X8_rests_1 5).trans dk_j5) ((dQ_X8_rests_1 6).trans dk_j6) dk_vs1_254
theorem dX8_rests_23 : decode cX8_rests 23 = .ok (.ireturn, 1) := dk_172 ((dQ_X8_rests_1 7).trans dk_j7)
theorem dX8_rests_24 : decode cX8_rests 24 = .ok (.iconst 0, 1) := dk_3 ((dQ_X8_rests_1 8).trans dk_j8)
theorem dX8_rests_25 : decode cX8_rests 25 = .ok (.istore_n 3, 1) := dk_62 ((dQ_X8_rests_1 9).trans dk_j9)
theorem dX8_rests_26 : decode cX8_rests 26 = .ok (.iconst 0, 1) := dk_3 ((dQ_X8_rests_1 10).trans dk_j10)
theorem dX8_rests_27 : decode cX8_rests 27 = .ok (.istore 4, 2) := dk_54 ((dQ_X8_rests_1 11).trans dk_j11) ((dQ_X8_rests_1 12).trans dk_j12) dk_vu1_4
theorem dX8_rests_29 : decode cX8_rests 29 = .ok (.iload 4, 2) := dk_21 ((dQ_X8_rests_1 13).trans dk_j13) ((dQ_X8_rests_1 14).trans dk_j14) dk_vu1_4
theorem dX8_rests_31 : decode cX8_rests 31 = .ok (.iconst 2, 1) := dk_5 ((dQ_X8_rests_1 15).trans dk_j15)
theorem dX8_rests_32 : decode cX8_rests 32 = .ok (.if_icmp .ge 98, 3) := dk_162 ((dQ_X8_rests_2 0).trans dk_j0) ((dQ_X8_rests_2 1).trans dk_j1) ((dQ_X8_rests_2 2).trans dk_j2) dk_vs2_0_98
theorem dX8_rests_35 : decode cX8_rests 35 = .ok (.iconst 0, 1) := dk_3 ((dQ_X8_rests_2 3).trans dk_j3)
theorem dX8_rests_36 : decode cX8_rests 36 = .ok (.istore 5, 2) := dk_54 ((dQ_X8_rests_2 4).trans dk_j4) ((dQ_X8_rests_2 5).trans dk_j5) dk_vu1_5
theorem dX8_rests_38 : decode cX8_rests 38 = .ok (.iload 5, 2) := dk_21 ((dQ_X8_rests_2 6).trans dk_j6) ((dQ_X8_rests_2 7).trans dk_j7) dk_vu1_5
theorem dX8_rests_40 : decode cX8_rests 40 = .ok (.iconst 2, 1) := dk_5 ((dQ_X8_rests_2 8).trans dk_j8)
theorem dX8_rests_41 : decode cX8_rests 41 = .ok (.if_icmp .ge 83, 3) := dk_162 ((dQ_X8_rests_2 9).trans dk_j9) ((dQ_X8_rests_2 10).trans dk_j10) ((dQ_X8_rests_2 11).trans dk_j11) dk_vs2_0_83
theorem dX8_rests_44 : decode cX8_rests 44 = .ok (.aload_n 0, 1) := dk_42 ((dQ_X8_rests_2 12).trans dk_j12)
theorem dX8_rests_45 : decode cX8_rests 45 = .ok (.iload_n 1, 1) := dk_27 ((dQ_X8_rests_2 13).trans dk_j13)
theorem dX8_rests_46 : decode cX8_rests 46 = .ok (.iload_n 2, 1) := dk_28 ((dQ_X8_rests_2 14).trans dk_j14)
theorem dX8_rests_47 : decode cX8_rests 47 = .ok (.iload 4, 2) := dk_21 ((dQ_X8_rests_2 15).trans dk_j15) ((dQ_X8_rests_3 0).trans dk_j0) dk_vu1_4
theorem dX8_rests_49 : decode cX8_rests 49 = .ok (.iload 5, 2) := dk_21 ((dQ_X8_rests_3 1).trans dk_j1) ((dQ_X8_rests_3 2).trans dk_j2) dk_vu1_5
theorem dX8_rests_51 : decode cX8_rests 51 = .ok (.invokevirtual 310, 3) := dk_182 ((dQ_X8_rests_3 3).trans dk_j3) ((dQ_X8_rests_3 4).trans dk_j4) ((dQ_X8_rests_3 5).trans dk_j5) dk_vu2_1_54
theorem dX8_rests_54 : decode cX8_rests 54 = .ok (.aload_n 0, 1) := dk_42 ((dQ_X8_rests_3 6).trans dk_j6)
theorem dX8_rests_55 : decode cX8_rests 55 = .ok (.iload_n 1, 1) := dk_27 ((dQ_X8_rests_3 7).trans dk_j7)
theorem dX8_rests_56 : decode cX8_rests 56 = .ok (.iload_n 2, 1) := dk_28 ((dQ_X8_rests_3 8).trans dk_j8)
theorem dX8_rests_57 : decode cX8_rests 57 = .ok (.iconst 1, 1) := dk_4 ((dQ_X8_rests_3 9).trans dk_j9)
theorem dX8_rests_58 : decode cX8_rests 58 = .ok (.iload 4, 2) := dk_21 ((dQ_X8_rests_3 10).trans dk_j10) ((dQ_X8_rests_3 11).trans dk_j11) dk_vu1_4
theorem dX8_rests_60 : decode cX8_rests 60 = .ok (.isub, 1) := dk_100 ((dQ_X8_rests_3 12).trans dk_j12)
theorem dX8_rests_61 : decode cX8_rests 61 = .ok (.iload 5, 2) := dk_21 ((dQ_X8_rests_3 13).trans dk_j13) ((dQ_X8_rests_3 14).trans dk_j14) dk_vu1_5
theorem dX8_rests_63 : decode cX8_rests 63 = .ok (.invokevirtual 310, 3) := dk_182 ((dQ_X8_rests_3 15).trans dk_j15) ((dQ_X8_rests_4 0).trans dk_j0) ((dQ_X8_rests_4 1).trans dk_j1) dk_vu2_1_54
theorem dX8_rests_66 : decode cX8_rests 66 = .ok (.if_icmp .gt 7, 3) := dk_163 ((dQ_X8_rests_4 2).trans dk_j2) ((dQ_X8_rests_4 3).trans dk_j3) ((dQ_X8_rests_4 4).trans dk_j4) dk_vs2_0_7
theorem dX8_rests_69 : decode cX8_rests 69 = .ok (.iconst 1, 1) := dk_4 ((dQ_X8_rests_4 5).trans dk_j5)
theorem dX8_rests_70 : decode cX8_rests 70 = .ok (.goto 4, 3) := dk_167 ((dQ_X8_rests_4 6).trans dk_j6) ((dQ_X8_rests_4 7).trans dk_j7) ((dQ_X8_rests_4 8).trans dk_j8) dk_vs2_0_4
theorem dX8_rests_73 : decode cX8_rests 73 = .ok (.iconst 0, 1) := dk_3 ((dQ_X8_rests_4 9).trans dk_j9)
theorem dX8_rests_74 : decode cX8_rests 74 = .ok (.istore 6, 2) := dk_54 ((dQ_X8_rests_4 10).trans dk_j10) ((dQ_X8_rests_4 11).trans dk_j11) dk_vu1_6
theorem dX8_rests_76 : decode cX8_rests 76 = .ok (.iload 6, 2) := dk_21 ((dQ_X8_rests_4 12).trans dk_j12) ((dQ_X8_rests_4 13).trans dk_j13) dk_vu1_6
theorem dX8_rests_78 : decode cX8_rests 78 = .ok (.ifCond .eq 40, 3) := dk_153 ((dQ_X8_rests_4 14).trans dk_j14) ((dQ_X8_rests_4 15).trans dk_j15) ((dQ_X8_rests_5 0).trans dk_j0) dk_vs2_0_40
theorem dX8_rests_81 : decode cX8_rests 81 = .ok (.aload_n 0, 1) := dk_42 ((dQ_X8_rests_5 1).trans dk_j1)
theorem dX8_rests_82 : decode cX8_rests 82 = .ok (.iload_n 2, 1) := dk_28 ((dQ_X8_rests_5 2).trans dk_j2)
theorem dX8_rests_83 : decode cX8_rests 83 = .ok (.iload_n 1, 1) := dk_27 ((dQ_X8_rests_5 3).trans dk_j3)
theorem dX8_rests_84 : decode cX8_rests 84 = .ok (.iload 5, 2) := dk_21 ((dQ_X8_rests_5 4).trans dk_j4) ((dQ_X8_rests_5 5).trans dk_j5) dk_vu1_5
theorem dX8_rests_86 : decode cX8_rests 86 = .ok (.iload 4, 2) := dk_21 ((dQ_X8_rests_5 6).trans dk_j6) ((dQ_X8_rests_5 7).trans dk_j7) dk_vu1_4
theorem dX8_rests_88 : decode cX8_rests 88 = .ok (.invokevirtual 310, 3) := dk_182 ((dQ_X8_rests_5 8).trans dk_j8) ((dQ_X8_rests_5 9).trans dk_j9) ((dQ_X8_rests_5 10).trans dk_j10) dk_vu2_1_54
theorem dX8_rests_91 : decode cX8_rests 91 = .ok (.aload_n 0, 1) := dk_42 ((dQ_X8_rests_5 11).trans dk_j11)
theorem dX8_rests_92 : decode cX8_rests 92 = .ok (.iload_n 2, 1) := dk_28 ((dQ_X8_rests_5 12).trans dk_j12)
theorem dX8_rests_93 : decode cX8_rests 93 = .ok (.iload_n 1, 1) := dk_27 ((dQ_X8_rests_5 13).trans dk_j13)
theorem dX8_rests_94 : decode cX8_rests 94 = .ok (.iconst 1, 1) := dk_4 ((dQ_X8_rests_5 14).trans dk_j14)
theorem dX8_rests_95 : decode cX8_rests 95 = .ok (.iload 5, 2) := dk_21 ((dQ_X8_rests_5 15).trans dk_j15) ((dQ_X8_rests_6 0).trans dk_j0) dk_vu1_5
theorem dX8_rests_97 : decode cX8_rests 97 = .ok (.isub, 1) := dk_100 ((dQ_X8_rests_6 1).trans dk_j1)
theorem dX8_rests_98 : decode cX8_rests 98 = .ok (.iload 4, 2) := dk_21 ((dQ_X8_rests_6 2).trans dk_j2) ((dQ_X8_rests_6 3).trans dk_j3) dk_vu1_4
theorem dX8_rests_100 : decode cX8_rests 100 = .ok (.invokevirtual 310, 3) := dk_182 ((dQ_X8_rests_6 4).trans dk_j4) ((dQ_X8_rests_6 5).trans dk_j5) ((dQ_X8_rests_6 6).trans dk_j6) dk_vu2_1_54
theorem dX8_rests_103 : decode cX8_rests 103 = .ok (.if_icmp .gt 15, 3) := dk_163 ((dQ_X8_rests_6 7).trans dk_j7) ((dQ_X8_rests_6 8).trans dk_j8) ((dQ_X8_rests_6 9).trans dk_j9) dk_vs2_0_15
theorem dX8_rests_106 : decode cX8_rests 106 = .ok (.iload_n 3, 1) := dk_29 ((dQ_X8_rests_6 10).trans dk_j10)
theorem dX8_rests_107 : decode cX8_rests 107 = .ok (.iconst 1, 1) := dk_4 ((dQ_X8_rests_6 11).trans dk_j11)
theorem dX8_rests_108 : decode cX8_rests 108 = .ok (.iload 4, 2) := dk_21 ((dQ_X8_rests_6 12).trans dk_j12) ((dQ_X8_rests_6 13).trans dk_j13) dk_vu1_4
theorem dX8_rests_110 : decode cX8_rests 110 = .ok (.iconst 2, 1) := dk_5 ((dQ_X8_rests_6 14).trans dk_j14)
theorem dX8_rests_111 : decode cX8_rests 111 = .ok (.iload 5, 2) := dk_21 ((dQ_X8_rests_6 15).trans dk_j15) ((dQ_X8_rests_7 0).trans dk_j0) dk_vu1_5
theorem dX8_rests_113 : decode cX8_rests 113 = .ok (.imul, 1) := dk_104 ((dQ_X8_rests_7 1).trans dk_j1)
theorem dX8_rests_114 : decode cX8_rests 114 = .ok (.iadd, 1) := dk_96 ((dQ_X8_rests_7 2).trans dk_j2)
theorem dX8_rests_115 : decode cX8_rests 115 = .ok (.ishl, 1) := dk_120 ((dQ_X8_rests_7 3).trans dk_j3)
theorem dX8_rests_116 : decode cX8_rests 116 = .ok (.ior, 1) := dk_128 ((dQ_X8_rests_7 4).trans dk_j4)
theorem dX8_rests_117 : decode cX8_rests 117 = .ok (.istore_n 3, 1) := dk_62 ((dQ_X8_rests_7 5).trans dk_j5)
theorem dX8_rests_118 : decode cX8_rests 118 = .ok (.iinc 5 1, 3) := dk_132 ((dQ_X8_rests_7 6).trans dk_j6) ((dQ_X8_rests_7 7).trans dk_j7) ((dQ_X8_rests_7 8).trans dk_j8) dk_vu1_5 dk_vs1_1
theorem dk_vs2_255_173 : Reader.signed 16 ((0xff : UInt8).toNat * 256 + (0xad : UInt8).toNat) = (-83 : Int) := by decide +kernel
theorem dX8_rests_121 : decode cX8_rests 121 = .ok (.goto (-83), 3) := dk_167 ((dQ_X8_rests_7 9).trans dk_j9) ((dQ_X8_rests_7 10).trans dk_j10) ((dQ_X8_rests_7 11).trans dk_j11) dk_vs2_255_173
theorem dX8_rests_124 : decode cX8_rests 124 = .ok (.iinc 4 1, 3) := dk_132 ((dQ_X8_rests_7 12).trans dk_j12) ((dQ_X8_rests_7 13).trans dk_j13) ((dQ_X8_rests_7 14).trans dk_j14) dk_vu1_4 dk_vs1_1
theorem dX8_rests_127 : decode cX8_rests 127 = .ok (.goto (-98), 3) := dk_167 ((dQ_X8_rests_7 15).trans dk_j15) ((dQ_X8_rests_8 0).trans dk_j0) ((dQ_X8_rests_8 1).trans dk_j1) dk_vs2_255_158
theorem dX8_rests_130 : decode cX8_rests 130 = .ok (.iload_n 3, 1) := dk_29 ((dQ_X8_rests_8 2).trans dk_j2)
theorem dX8_rests_131 : decode cX8_rests 131 = .ok (.ireturn, 1) := dk_172 ((dQ_X8_rests_8 3).trans dk_j3)
def dT_X8_loses_3 : List UInt8 := (0x1b : UInt8) :: (0x1c : UInt8) :: (0x1d : UInt8) :: (0x15 : UInt8) :: (0x04 : UInt8) :: (0xb6 : UInt8) :: (0x01 : UInt8) :: (0x36 : UInt8) :: (0xac : UInt8) :: []
def dT_X8_loses_2 : List UInt8 := (0x0e : UInt8) :: (0x15 : UInt8) :: (0x04 : UInt8) :: (0x9b : UInt8) :: (0x00 : UInt8) :: (0x09 : UInt8) :: (0x15 : UInt8) :: (0x04 : UInt8) :: (0x04 : UInt8) :: (0xa4 : UInt8) :: (0x00 : UInt8) :: (0x06 : UInt8) :: (0x10 : UInt8) :: (0xfe : UInt8) :: (0xac : UInt8) :: (0x2a : UInt8) :: dT_X8_loses_3
def dT_X8_loses_1 : List UInt8 := (0x1b : UInt8) :: (0x1c : UInt8) :: (0xa0 : UInt8) :: (0x00 : UInt8) :: (0x06 : UInt8) :: (0x10 : UInt8) :: (0xfe : UInt8) :: (0xac : UInt8) :: (0x1d : UInt8) :: (0x9b : UInt8) :: (0x00 : UInt8) :: (0x13 : UInt8) :: (0x1d : UInt8) :: (0x04 : UInt8) :: (0xa3 : UInt8) :: (0x00 : UInt8) :: dT_X8_loses_2
def dT_X8_loses_0 : List UInt8 := (0x2a : UInt8) :: (0x1b : UInt8) :: (0xb6 : UInt8) :: (0x00 : UInt8) :: (0x6b : UInt8) :: (0x99 : UInt8) :: (0x00 : UInt8) :: (0x10 : UInt8) :: (0x2a : UInt8) :: (0x1c : UInt8) :: (0xb6 : UInt8) :: (0x00 : UInt8) :: (0x6b : UInt8) :: (0x99 : UInt8) :: (0x00 : UInt8) :: (0x08 : UInt8) :: dT_X8_loses_1
theorem dT_X8_loses : cX8_loses.data.toList = dT_X8_loses_0 := eq_of_beq (show (cX8_loses.data.toList == dT_X8_loses_0) = true by decide +kernel)
theorem dQ_X8_loses_0 : dQ_P cX8_loses 0 dT_X8_loses_0 := fun i => by rw [dT_X8_loses]; rfl
theorem dQ_X8_loses_1 : dQ_P cX8_loses 16 dT_X8_loses_1 := fun i => (dQ_X8_loses_0 (i + 16)).trans dk_t
theorem dQ_X8_loses_2 : dQ_P cX8_loses 32 dT_X8_loses_2 := fun i => (dQ_X8_loses_1 (i + 16)).trans dk_t
theorem dQ_X8_loses_3 : dQ_P cX8_loses 48 dT_X8_loses_3 := fun i => (dQ_X8_loses_2 (i + 16)).trans dk_t
theorem dX8_loses_0 : decode cX8_loses 0 = .ok (.aload_n 0, 1) := dk_42 ((dQ_X8_loses_0 0).trans dk_j0)
theorem dX8_loses_1 : decode cX8_loses 1 = .ok (.iload_n 1, 1) := dk_27 ((dQ_X8_loses_0 1).trans dk_j1)
theorem dX8_loses_2 : decode cX8_loses 2 = .ok (.invokevirtual 107, 3) := dk_182 ((dQ_X8_loses_0 2).trans dk_j2) ((dQ_X8_loses_0 3).trans dk_j3) ((dQ_X8_loses_0 4).trans dk_j4) dk_vu2_0_107
theorem dX8_loses_5 : decode cX8_loses 5 = .ok (.ifCond .eq 16, 3) := dk_153 ((dQ_X8_loses_0 5).trans dk_j5) ((dQ_X8_loses_0 6).trans dk_j6) ((dQ_X8_loses_0 7).trans dk_j7) dk_vs2_0_16
theorem dX8_loses_8 : decode cX8_loses 8 = .ok (.aload_n 0, 1) := dk_42 ((dQ_X8_loses_0 8).trans dk_j8)
theorem dX8_loses_9 : decode cX8_loses 9 = .ok (.iload_n 2, 1) := dk_28 ((dQ_X8_loses_0 9).trans dk_j9)
theorem dX8_loses_10 : decode cX8_loses 10 = .ok (.invokevirtual 107, 3) := dk_182 ((dQ_X8_loses_0 10).trans dk_j10) ((dQ_X8_loses_0 11).trans dk_j11) ((dQ_X8_loses_0 12).trans dk_j12) dk_vu2_0_107
theorem dX8_loses_13 : decode cX8_loses 13 = .ok (.ifCond .eq 8, 3) := dk_153 ((dQ_X8_loses_0 13).trans dk_j13) ((dQ_X8_loses_0 14).trans dk_j14) ((dQ_X8_loses_0 15).trans dk_j15) dk_vs2_0_8
theorem dX8_loses_16 : decode cX8_loses 16 = .ok (.iload_n 1, 1) := dk_27 ((dQ_X8_loses_1 0).trans dk_j0)
theorem dX8_loses_17 : decode cX8_loses 17 = .ok (.iload_n 2, 1) := dk_28 ((dQ_X8_loses_1 1).trans dk_j1)
theorem dX8_loses_18 : decode cX8_loses 18 = .ok (.if_icmp .ne 6, 3) := dk_160 ((dQ_X8_loses_1 2).trans dk_j2) ((dQ_X8_loses_1 3).trans dk_j3) ((dQ_X8_loses_1 4).trans dk_j4) dk_vs2_0_6
theorem dX8_loses_21 : decode cX8_loses 21 = .ok (.bipush (-2), 2) := dk_16 ((dQ_X8_loses_1 5).trans dk_j5) ((dQ_X8_loses_1 6).trans dk_j6) dk_vs1_254
theorem dX8_loses_23 : decode cX8_loses 23 = .ok (.ireturn, 1) := dk_172 ((dQ_X8_loses_1 7).trans dk_j7)
theorem dX8_loses_24 : decode cX8_loses 24 = .ok (.iload_n 3, 1) := dk_29 ((dQ_X8_loses_1 8).trans dk_j8)
theorem dX8_loses_25 : decode cX8_loses 25 = .ok (.ifCond .lt 19, 3) := dk_155 ((dQ_X8_loses_1 9).trans dk_j9) ((dQ_X8_loses_1 10).trans dk_j10) ((dQ_X8_loses_1 11).trans dk_j11) dk_vs2_0_19
theorem dX8_loses_28 : decode cX8_loses 28 = .ok (.iload_n 3, 1) := dk_29 ((dQ_X8_loses_1 12).trans dk_j12)
theorem dX8_loses_29 : decode cX8_loses 29 = .ok (.iconst 1, 1) := dk_4 ((dQ_X8_loses_1 13).trans dk_j13)
theorem dX8_loses_30 : decode cX8_loses 30 = .ok (.if_icmp .gt 14, 3) := dk_163 ((dQ_X8_loses_1 14).trans dk_j14) ((dQ_X8_loses_1 15).trans dk_j15) ((dQ_X8_loses_2 0).trans dk_j0) dk_vs2_0_14
theorem dX8_loses_33 : decode cX8_loses 33 = .ok (.iload 4, 2) := dk_21 ((dQ_X8_loses_2 1).trans dk_j1) ((dQ_X8_loses_2 2).trans dk_j2) dk_vu1_4
theorem dX8_loses_35 : decode cX8_loses 35 = .ok (.ifCond .lt 9, 3) := dk_155 ((dQ_X8_loses_2 3).trans dk_j3) ((dQ_X8_loses_2 4).trans dk_j4) ((dQ_X8_loses_2 5).trans dk_j5) dk_vs2_0_9
theorem dX8_loses_38 : decode cX8_loses 38 = .ok (.iload 4, 2) := dk_21 ((dQ_X8_loses_2 6).trans dk_j6) ((dQ_X8_loses_2 7).trans dk_j7) dk_vu1_4
theorem dX8_loses_40 : decode cX8_loses 40 = .ok (.iconst 1, 1) := dk_4 ((dQ_X8_loses_2 8).trans dk_j8)
theorem dX8_loses_41 : decode cX8_loses 41 = .ok (.if_icmp .le 6, 3) := dk_164 ((dQ_X8_loses_2 9).trans dk_j9) ((dQ_X8_loses_2 10).trans dk_j10) ((dQ_X8_loses_2 11).trans dk_j11) dk_vs2_0_6
theorem dX8_loses_44 : decode cX8_loses 44 = .ok (.bipush (-2), 2) := dk_16 ((dQ_X8_loses_2 12).trans dk_j12) ((dQ_X8_loses_2 13).trans dk_j13) dk_vs1_254
theorem dX8_loses_46 : decode cX8_loses 46 = .ok (.ireturn, 1) := dk_172 ((dQ_X8_loses_2 14).trans dk_j14)
theorem dX8_loses_47 : decode cX8_loses 47 = .ok (.aload_n 0, 1) := dk_42 ((dQ_X8_loses_2 15).trans dk_j15)
theorem dX8_loses_48 : decode cX8_loses 48 = .ok (.iload_n 1, 1) := dk_27 ((dQ_X8_loses_3 0).trans dk_j0)
theorem dX8_loses_49 : decode cX8_loses 49 = .ok (.iload_n 2, 1) := dk_28 ((dQ_X8_loses_3 1).trans dk_j1)
theorem dX8_loses_50 : decode cX8_loses 50 = .ok (.iload_n 3, 1) := dk_29 ((dQ_X8_loses_3 2).trans dk_j2)
theorem dX8_loses_51 : decode cX8_loses 51 = .ok (.iload 4, 2) := dk_21 ((dQ_X8_loses_3 3).trans dk_j3) ((dQ_X8_loses_3 4).trans dk_j4) dk_vu1_4
theorem dX8_loses_53 : decode cX8_loses 53 = .ok (.invokevirtual 310, 3) := dk_182 ((dQ_X8_loses_3 5).trans dk_j5) ((dQ_X8_loses_3 6).trans dk_j6) ((dQ_X8_loses_3 7).trans dk_j7) dk_vu2_1_54
theorem dX8_loses_56 : decode cX8_loses 56 = .ok (.ireturn, 1) := dk_172 ((dQ_X8_loses_3 8).trans dk_j8)
def dT_X8_lossOf_6 : List UInt8 := (0x2e : UInt8) :: (0xb8 : UInt8) :: (0x00 : UInt8) :: (0xa5 : UInt8) :: (0x68 : UInt8) :: (0x15 : UInt8) :: (0x05 : UInt8) :: (0x60 : UInt8) :: (0xac : UInt8) :: []
def dT_X8_lossOf_5 : List UInt8 := (0x6c : UInt8) :: (0xa7 : UInt8) :: (0x00 : UInt8) :: (0x04 : UInt8) :: (0x03 : UInt8) :: (0x36 : UInt8) :: (0x05 : UInt8) :: (0x06 : UInt8) :: (0x2a : UInt8) :: (0xb4 : UInt8) :: (0x00 : UInt8) :: (0x30 : UInt8) :: (0xb4 : UInt8) :: (0x00 : UInt8) :: (0x83 : UInt8) :: (0x1b : UInt8) :: dT_X8_lossOf_6
def dT_X8_lossOf_4 : List UInt8 := (0xb6 : UInt8) :: (0x00 : UInt8) :: (0xbd : UInt8) :: (0x1d : UInt8) :: (0x04 : UInt8) :: (0xa0 : UInt8) :: (0x00 : UInt8) :: (0x0f : UInt8) :: (0x2a : UInt8) :: (0xb4 : UInt8) :: (0x00 : UInt8) :: (0x2c : UInt8) :: (0xb4 : UInt8) :: (0x00 : UInt8) :: (0x97 : UInt8) :: (0x07 : UInt8) :: dT_X8_lossOf_5
def dT_X8_lossOf_3 : List UInt8 := (0x1c : UInt8) :: (0x2a : UInt8) :: (0xb4 : UInt8) :: (0x00 : UInt8) :: (0x2c : UInt8) :: (0xb4 : UInt8) :: (0x00 : UInt8) :: (0x97 : UInt8) :: (0xb8 : UInt8) :: (0x00 : UInt8) :: (0xae : UInt8) :: (0x4f : UInt8) :: (0x2a : UInt8) :: (0xb4 : UInt8) :: (0x00 : UInt8) :: (0x30 : UInt8) :: dT_X8_lossOf_4
def dT_X8_lossOf_2 : List UInt8 := (0x00 : UInt8) :: (0xae : UInt8) :: (0x4f : UInt8) :: (0x15 : UInt8) :: (0x04 : UInt8) :: (0x04 : UInt8) :: (0xa0 : UInt8) :: (0x00 : UInt8) :: (0x16 : UInt8) :: (0x2a : UInt8) :: (0xb4 : UInt8) :: (0x00 : UInt8) :: (0x30 : UInt8) :: (0xb4 : UInt8) :: (0x00 : UInt8) :: (0xc4 : UInt8) :: dT_X8_lossOf_3
def dT_X8_lossOf_1 : List UInt8 := (0x2a : UInt8) :: (0xb4 : UInt8) :: (0x00 : UInt8) :: (0x30 : UInt8) :: (0xb4 : UInt8) :: (0x00 : UInt8) :: (0xc4 : UInt8) :: (0x1b : UInt8) :: (0x2a : UInt8) :: (0xb4 : UInt8) :: (0x00 : UInt8) :: (0x2c : UInt8) :: (0xb4 : UInt8) :: (0x00 : UInt8) :: (0x97 : UInt8) :: (0xb8 : UInt8) :: dT_X8_lossOf_2
def dT_X8_lossOf_0 : List UInt8 := (0x2a : UInt8) :: (0xb4 : UInt8) :: (0x00 : UInt8) :: (0x30 : UInt8) :: (0x2a : UInt8) :: (0xb4 : UInt8) :: (0x00 : UInt8) :: (0x2c : UInt8) :: (0xb6 : UInt8) :: (0x00 : UInt8) :: (0xb7 : UInt8) :: (0x1d : UInt8) :: (0x04 : UInt8) :: (0xa0 : UInt8) :: (0x00 : UInt8) :: (0x16 : UInt8) :: dT_X8_lossOf_1
theorem dT_X8_lossOf : cX8_lossOf.data.toList = dT_X8_lossOf_0 := eq_of_beq (show (cX8_lossOf.data.toList == dT_X8_lossOf_0) = true by decide +kernel)
theorem dQ_X8_lossOf_0 : dQ_P cX8_lossOf 0 dT_X8_lossOf_0 := fun i => by rw [dT_X8_lossOf]; rfl
theorem dQ_X8_lossOf_1 : dQ_P cX8_lossOf 16 dT_X8_lossOf_1 := fun i => (dQ_X8_lossOf_0 (i + 16)).trans dk_t
theorem dQ_X8_lossOf_2 : dQ_P cX8_lossOf 32 dT_X8_lossOf_2 := fun i => (dQ_X8_lossOf_1 (i + 16)).trans dk_t
theorem dQ_X8_lossOf_3 : dQ_P cX8_lossOf 48 dT_X8_lossOf_3 := fun i => (dQ_X8_lossOf_2 (i + 16)).trans dk_t
theorem dQ_X8_lossOf_4 : dQ_P cX8_lossOf 64 dT_X8_lossOf_4 := fun i => (dQ_X8_lossOf_3 (i + 16)).trans dk_t
theorem dQ_X8_lossOf_5 : dQ_P cX8_lossOf 80 dT_X8_lossOf_5 := fun i => (dQ_X8_lossOf_4 (i + 16)).trans dk_t
theorem dQ_X8_lossOf_6 : dQ_P cX8_lossOf 96 dT_X8_lossOf_6 := fun i => (dQ_X8_lossOf_5 (i + 16)).trans dk_t
theorem dX8_lossOf_0 : decode cX8_lossOf 0 = .ok (.aload_n 0, 1) := dk_42 ((dQ_X8_lossOf_0 0).trans dk_j0)
theorem dX8_lossOf_1 : decode cX8_lossOf 1 = .ok (.getfield 48, 3) := dk_180 ((dQ_X8_lossOf_0 1).trans dk_j1) ((dQ_X8_lossOf_0 2).trans dk_j2) ((dQ_X8_lossOf_0 3).trans dk_j3) dk_vu2_0_48
theorem dX8_lossOf_4 : decode cX8_lossOf 4 = .ok (.aload_n 0, 1) := dk_42 ((dQ_X8_lossOf_0 4).trans dk_j4)
theorem dX8_lossOf_5 : decode cX8_lossOf 5 = .ok (.getfield 44, 3) := dk_180 ((dQ_X8_lossOf_0 5).trans dk_j5) ((dQ_X8_lossOf_0 6).trans dk_j6) ((dQ_X8_lossOf_0 7).trans dk_j7) dk_vu2_0_44
theorem dX8_lossOf_8 : decode cX8_lossOf 8 = .ok (.invokevirtual 183, 3) := dk_182 ((dQ_X8_lossOf_0 8).trans dk_j8) ((dQ_X8_lossOf_0 9).trans dk_j9) ((dQ_X8_lossOf_0 10).trans dk_j10) dk_vu2_0_183
theorem dX8_lossOf_11 : decode cX8_lossOf 11 = .ok (.iload_n 3, 1) := dk_29 ((dQ_X8_lossOf_0 11).trans dk_j11)
theorem dX8_lossOf_12 : decode cX8_lossOf 12 = .ok (.iconst 1, 1) := dk_4 ((dQ_X8_lossOf_0 12).trans dk_j12)
theorem dX8_lossOf_13 : decode cX8_lossOf 13 = .ok (.if_icmp .ne 22, 3) := dk_160 ((dQ_X8_lossOf_0 13).trans dk_j13) ((dQ_X8_lossOf_0 14).trans dk_j14) ((dQ_X8_lossOf_0 15).trans dk_j15) dk_vs2_0_22
theorem dX8_lossOf_16 : decode cX8_lossOf 16 = .ok (.aload_n 0, 1) := dk_42 ((dQ_X8_lossOf_1 0).trans dk_j0)
theorem dX8_lossOf_17 : decode cX8_lossOf 17 = .ok (.getfield 48, 3) := dk_180 ((dQ_X8_lossOf_1 1).trans dk_j1) ((dQ_X8_lossOf_1 2).trans dk_j2) ((dQ_X8_lossOf_1 3).trans dk_j3) dk_vu2_0_48
theorem dX8_lossOf_20 : decode cX8_lossOf 20 = .ok (.getfield 196, 3) := dk_180 ((dQ_X8_lossOf_1 4).trans dk_j4) ((dQ_X8_lossOf_1 5).trans dk_j5) ((dQ_X8_lossOf_1 6).trans dk_j6) dk_vu2_0_196
theorem dX8_lossOf_23 : decode cX8_lossOf 23 = .ok (.iload_n 1, 1) := dk_27 ((dQ_X8_lossOf_1 7).trans dk_j7)
theorem dX8_lossOf_24 : decode cX8_lossOf 24 = .ok (.aload_n 0, 1) := dk_42 ((dQ_X8_lossOf_1 8).trans dk_j8)
theorem dX8_lossOf_25 : decode cX8_lossOf 25 = .ok (.getfield 44, 3) := dk_180 ((dQ_X8_lossOf_1 9).trans dk_j9) ((dQ_X8_lossOf_1 10).trans dk_j10) ((dQ_X8_lossOf_1 11).trans dk_j11) dk_vu2_0_44
theorem dX8_lossOf_28 : decode cX8_lossOf 28 = .ok (.getfield 151, 3) := dk_180 ((dQ_X8_lossOf_1 12).trans dk_j12) ((dQ_X8_lossOf_1 13).trans dk_j13) ((dQ_X8_lossOf_1 14).trans dk_j14) dk_vu2_0_151
theorem dX8_lossOf_31 : decode cX8_lossOf 31 = .ok (.invokestatic 174, 3) := dk_184 ((dQ_X8_lossOf_1 15).trans dk_j15) ((dQ_X8_lossOf_2 0).trans dk_j0) ((dQ_X8_lossOf_2 1).trans dk_j1) dk_vu2_0_174
theorem dX8_lossOf_34 : decode cX8_lossOf 34 = .ok (.iastore, 1) := dk_79 ((dQ_X8_lossOf_2 2).trans dk_j2)
theorem dX8_lossOf_35 : decode cX8_lossOf 35 = .ok (.iload 4, 2) := dk_21 ((dQ_X8_lossOf_2 3).trans dk_j3) ((dQ_X8_lossOf_2 4).trans dk_j4) dk_vu1_4
theorem dX8_lossOf_37 : decode cX8_lossOf 37 = .ok (.iconst 1, 1) := dk_4 ((dQ_X8_lossOf_2 5).trans dk_j5)
theorem dX8_lossOf_38 : decode cX8_lossOf 38 = .ok (.if_icmp .ne 22, 3) := dk_160 ((dQ_X8_lossOf_2 6).trans dk_j6) ((dQ_X8_lossOf_2 7).trans dk_j7) ((dQ_X8_lossOf_2 8).trans dk_j8) dk_vs2_0_22
theorem dX8_lossOf_41 : decode cX8_lossOf 41 = .ok (.aload_n 0, 1) := dk_42 ((dQ_X8_lossOf_2 9).trans dk_j9)
theorem dX8_lossOf_42 : decode cX8_lossOf 42 = .ok (.getfield 48, 3) := dk_180 ((dQ_X8_lossOf_2 10).trans dk_j10) ((dQ_X8_lossOf_2 11).trans dk_j11) ((dQ_X8_lossOf_2 12).trans dk_j12) dk_vu2_0_48
theorem dX8_lossOf_45 : decode cX8_lossOf 45 = .ok (.getfield 196, 3) := dk_180 ((dQ_X8_lossOf_2 13).trans dk_j13) ((dQ_X8_lossOf_2 14).trans dk_j14) ((dQ_X8_lossOf_2 15).trans dk_j15) dk_vu2_0_196
theorem dX8_lossOf_48 : decode cX8_lossOf 48 = .ok (.iload_n 2, 1) := dk_28 ((dQ_X8_lossOf_3 0).trans dk_j0)
theorem dX8_lossOf_49 : decode cX8_lossOf 49 = .ok (.aload_n 0, 1) := dk_42 ((dQ_X8_lossOf_3 1).trans dk_j1)
theorem dX8_lossOf_50 : decode cX8_lossOf 50 = .ok (.getfield 44, 3) := dk_180 ((dQ_X8_lossOf_3 2).trans dk_j2) ((dQ_X8_lossOf_3 3).trans dk_j3) ((dQ_X8_lossOf_3 4).trans dk_j4) dk_vu2_0_44
theorem dX8_lossOf_53 : decode cX8_lossOf 53 = .ok (.getfield 151, 3) := dk_180 ((dQ_X8_lossOf_3 5).trans dk_j5) ((dQ_X8_lossOf_3 6).trans dk_j6) ((dQ_X8_lossOf_3 7).trans dk_j7) dk_vu2_0_151
theorem dX8_lossOf_56 : decode cX8_lossOf 56 = .ok (.invokestatic 174, 3) := dk_184 ((dQ_X8_lossOf_3 8).trans dk_j8) ((dQ_X8_lossOf_3 9).trans dk_j9) ((dQ_X8_lossOf_3 10).trans dk_j10) dk_vu2_0_174
theorem dX8_lossOf_59 : decode cX8_lossOf 59 = .ok (.iastore, 1) := dk_79 ((dQ_X8_lossOf_3 11).trans dk_j11)
theorem dX8_lossOf_60 : decode cX8_lossOf 60 = .ok (.aload_n 0, 1) := dk_42 ((dQ_X8_lossOf_3 12).trans dk_j12)
theorem dX8_lossOf_61 : decode cX8_lossOf 61 = .ok (.getfield 48, 3) := dk_180 ((dQ_X8_lossOf_3 13).trans dk_j13) ((dQ_X8_lossOf_3 14).trans dk_j14) ((dQ_X8_lossOf_3 15).trans dk_j15) dk_vu2_0_48
theorem dX8_lossOf_64 : decode cX8_lossOf 64 = .ok (.invokevirtual 189, 3) := dk_182 ((dQ_X8_lossOf_4 0).trans dk_j0) ((dQ_X8_lossOf_4 1).trans dk_j1) ((dQ_X8_lossOf_4 2).trans dk_j2) dk_vu2_0_189
theorem dX8_lossOf_67 : decode cX8_lossOf 67 = .ok (.iload_n 3, 1) := dk_29 ((dQ_X8_lossOf_4 3).trans dk_j3)
theorem dX8_lossOf_68 : decode cX8_lossOf 68 = .ok (.iconst 1, 1) := dk_4 ((dQ_X8_lossOf_4 4).trans dk_j4)
theorem dX8_lossOf_69 : decode cX8_lossOf 69 = .ok (.if_icmp .ne 15, 3) := dk_160 ((dQ_X8_lossOf_4 5).trans dk_j5) ((dQ_X8_lossOf_4 6).trans dk_j6) ((dQ_X8_lossOf_4 7).trans dk_j7) dk_vs2_0_15
theorem dX8_lossOf_72 : decode cX8_lossOf 72 = .ok (.aload_n 0, 1) := dk_42 ((dQ_X8_lossOf_4 8).trans dk_j8)
theorem dX8_lossOf_73 : decode cX8_lossOf 73 = .ok (.getfield 44, 3) := dk_180 ((dQ_X8_lossOf_4 9).trans dk_j9) ((dQ_X8_lossOf_4 10).trans dk_j10) ((dQ_X8_lossOf_4 11).trans dk_j11) dk_vu2_0_44
theorem dX8_lossOf_76 : decode cX8_lossOf 76 = .ok (.getfield 151, 3) := dk_180 ((dQ_X8_lossOf_4 12).trans dk_j12) ((dQ_X8_lossOf_4 13).trans dk_j13) ((dQ_X8_lossOf_4 14).trans dk_j14) dk_vu2_0_151
theorem dX8_lossOf_79 : decode cX8_lossOf 79 = .ok (.iconst 4, 1) := dk_7 ((dQ_X8_lossOf_4 15).trans dk_j15)
theorem dX8_lossOf_80 : decode cX8_lossOf 80 = .ok (.idiv, 1) := dk_108 ((dQ_X8_lossOf_5 0).trans dk_j0)
theorem dX8_lossOf_81 : decode cX8_lossOf 81 = .ok (.goto 4, 3) := dk_167 ((dQ_X8_lossOf_5 1).trans dk_j1) ((dQ_X8_lossOf_5 2).trans dk_j2) ((dQ_X8_lossOf_5 3).trans dk_j3) dk_vs2_0_4
theorem dX8_lossOf_84 : decode cX8_lossOf 84 = .ok (.iconst 0, 1) := dk_3 ((dQ_X8_lossOf_5 4).trans dk_j4)
theorem dX8_lossOf_85 : decode cX8_lossOf 85 = .ok (.istore 5, 2) := dk_54 ((dQ_X8_lossOf_5 5).trans dk_j5) ((dQ_X8_lossOf_5 6).trans dk_j6) dk_vu1_5
theorem dX8_lossOf_87 : decode cX8_lossOf 87 = .ok (.iconst 3, 1) := dk_6 ((dQ_X8_lossOf_5 7).trans dk_j7)
theorem dX8_lossOf_88 : decode cX8_lossOf 88 = .ok (.aload_n 0, 1) := dk_42 ((dQ_X8_lossOf_5 8).trans dk_j8)
theorem dX8_lossOf_89 : decode cX8_lossOf 89 = .ok (.getfield 48, 3) := dk_180 ((dQ_X8_lossOf_5 9).trans dk_j9) ((dQ_X8_lossOf_5 10).trans dk_j10) ((dQ_X8_lossOf_5 11).trans dk_j11) dk_vu2_0_48
theorem dX8_lossOf_92 : decode cX8_lossOf 92 = .ok (.getfield 131, 3) := dk_180 ((dQ_X8_lossOf_5 12).trans dk_j12) ((dQ_X8_lossOf_5 13).trans dk_j13) ((dQ_X8_lossOf_5 14).trans dk_j14) dk_vu2_0_131
theorem dX8_lossOf_95 : decode cX8_lossOf 95 = .ok (.iload_n 1, 1) := dk_27 ((dQ_X8_lossOf_5 15).trans dk_j15)
theorem dX8_lossOf_96 : decode cX8_lossOf 96 = .ok (.iaload, 1) := dk_46 ((dQ_X8_lossOf_6 0).trans dk_j0)
theorem dX8_lossOf_97 : decode cX8_lossOf 97 = .ok (.invokestatic 165, 3) := dk_184 ((dQ_X8_lossOf_6 1).trans dk_j1) ((dQ_X8_lossOf_6 2).trans dk_j2) ((dQ_X8_lossOf_6 3).trans dk_j3) dk_vu2_0_165
theorem dX8_lossOf_100 : decode cX8_lossOf 100 = .ok (.imul, 1) := dk_104 ((dQ_X8_lossOf_6 4).trans dk_j4)
theorem dX8_lossOf_101 : decode cX8_lossOf 101 = .ok (.iload 5, 2) := dk_21 ((dQ_X8_lossOf_6 5).trans dk_j5) ((dQ_X8_lossOf_6 6).trans dk_j6) dk_vu1_5
theorem dX8_lossOf_103 : decode cX8_lossOf 103 = .ok (.iadd, 1) := dk_96 ((dQ_X8_lossOf_6 7).trans dk_j7)
theorem dX8_lossOf_104 : decode cX8_lossOf 104 = .ok (.ireturn, 1) := dk_172 ((dQ_X8_lossOf_6 8).trans dk_j8)
def dT_X8_chance_4 : List UInt8 := (0x4b : UInt8) :: (0xb4 : UInt8) :: (0x01 : UInt8) :: (0x46 : UInt8) :: (0xad : UInt8) :: []
def dT_X8_chance_3 : List UInt8 := (0x9a : UInt8) :: (0x00 : UInt8) :: (0x0d : UInt8) :: (0x2a : UInt8) :: (0xb4 : UInt8) :: (0x00 : UInt8) :: (0x4b : UInt8) :: (0xb4 : UInt8) :: (0x01 : UInt8) :: (0x42 : UInt8) :: (0xa7 : UInt8) :: (0x00 : UInt8) :: (0x0a : UInt8) :: (0x2a : UInt8) :: (0xb4 : UInt8) :: (0x00 : UInt8) :: dT_X8_chance_4
def dT_X8_chance_2 : List UInt8 := (0x4b : UInt8) :: (0x2a : UInt8) :: (0xb4 : UInt8) :: (0x00 : UInt8) :: (0x0a : UInt8) :: (0x2a : UInt8) :: (0xb4 : UInt8) :: (0x00 : UInt8) :: (0x2c : UInt8) :: (0x03 : UInt8) :: (0x1b : UInt8) :: (0x1c : UInt8) :: (0xb6 : UInt8) :: (0x01 : UInt8) :: (0x3f : UInt8) :: (0x1d : UInt8) :: dT_X8_chance_3
def dT_X8_chance_1 : List UInt8 := (0x1d : UInt8) :: (0x9b : UInt8) :: (0x00 : UInt8) :: (0x08 : UInt8) :: (0x1d : UInt8) :: (0x04 : UInt8) :: (0xa4 : UInt8) :: (0x00 : UInt8) :: (0x07 : UInt8) :: (0x14 : UInt8) :: (0x01 : UInt8) :: (0x3d : UInt8) :: (0xad : UInt8) :: (0x2a : UInt8) :: (0xb4 : UInt8) :: (0x00 : UInt8) :: dT_X8_chance_2
def dT_X8_chance_0 : List UInt8 := (0x2a : UInt8) :: (0x1b : UInt8) :: (0xb6 : UInt8) :: (0x00 : UInt8) :: (0x6b : UInt8) :: (0x99 : UInt8) :: (0x00 : UInt8) :: (0x14 : UInt8) :: (0x2a : UInt8) :: (0x1c : UInt8) :: (0xb6 : UInt8) :: (0x01 : UInt8) :: (0x3a : UInt8) :: (0x99 : UInt8) :: (0x00 : UInt8) :: (0x0c : UInt8) :: dT_X8_chance_1
theorem dT_X8_chance : cX8_chance.data.toList = dT_X8_chance_0 := eq_of_beq (show (cX8_chance.data.toList == dT_X8_chance_0) = true by decide +kernel)
theorem dQ_X8_chance_0 : dQ_P cX8_chance 0 dT_X8_chance_0 := fun i => by rw [dT_X8_chance]; rfl
theorem dQ_X8_chance_1 : dQ_P cX8_chance 16 dT_X8_chance_1 := fun i => (dQ_X8_chance_0 (i + 16)).trans dk_t
theorem dQ_X8_chance_2 : dQ_P cX8_chance 32 dT_X8_chance_2 := fun i => (dQ_X8_chance_1 (i + 16)).trans dk_t
theorem dQ_X8_chance_3 : dQ_P cX8_chance 48 dT_X8_chance_3 := fun i => (dQ_X8_chance_2 (i + 16)).trans dk_t
theorem dQ_X8_chance_4 : dQ_P cX8_chance 64 dT_X8_chance_4 := fun i => (dQ_X8_chance_3 (i + 16)).trans dk_t
theorem dX8_chance_0 : decode cX8_chance 0 = .ok (.aload_n 0, 1) := dk_42 ((dQ_X8_chance_0 0).trans dk_j0)
theorem dX8_chance_1 : decode cX8_chance 1 = .ok (.iload_n 1, 1) := dk_27 ((dQ_X8_chance_0 1).trans dk_j1)
theorem dX8_chance_2 : decode cX8_chance 2 = .ok (.invokevirtual 107, 3) := dk_182 ((dQ_X8_chance_0 2).trans dk_j2) ((dQ_X8_chance_0 3).trans dk_j3) ((dQ_X8_chance_0 4).trans dk_j4) dk_vu2_0_107
theorem dX8_chance_5 : decode cX8_chance 5 = .ok (.ifCond .eq 20, 3) := dk_153 ((dQ_X8_chance_0 5).trans dk_j5) ((dQ_X8_chance_0 6).trans dk_j6) ((dQ_X8_chance_0 7).trans dk_j7) dk_vs2_0_20
theorem dX8_chance_8 : decode cX8_chance 8 = .ok (.aload_n 0, 1) := dk_42 ((dQ_X8_chance_0 8).trans dk_j8)
theorem dX8_chance_9 : decode cX8_chance 9 = .ok (.iload_n 2, 1) := dk_28 ((dQ_X8_chance_0 9).trans dk_j9)
theorem dk_vu2_1_58 : (0x01 : UInt8).toNat * 256 + (0x3a : UInt8).toNat = (314 : Nat) := by decide +kernel
theorem dX8_chance_10 : decode cX8_chance 10 = .ok (.invokevirtual 314, 3) := dk_182 ((dQ_X8_chance_0 10).trans dk_j10) ((dQ_X8_chance_0 11).trans dk_j11) ((dQ_X8_chance_0 12).trans dk_j12) dk_vu2_1_58
theorem dX8_chance_13 : decode cX8_chance 13 = .ok (.ifCond .eq 12, 3) := dk_153 ((dQ_X8_chance_0 13).trans dk_j13) ((dQ_X8_chance_0 14).trans dk_j14) ((dQ_X8_chance_0 15).trans dk_j15) dk_vs2_0_12
theorem dX8_chance_16 : decode cX8_chance 16 = .ok (.iload_n 3, 1) := dk_29 ((dQ_X8_chance_1 0).trans dk_j0)
theorem dX8_chance_17 : decode cX8_chance 17 = .ok (.ifCond .lt 8, 3) := dk_155 ((dQ_X8_chance_1 1).trans dk_j1) ((dQ_X8_chance_1 2).trans dk_j2) ((dQ_X8_chance_1 3).trans dk_j3) dk_vs2_0_8
theorem dX8_chance_20 : decode cX8_chance 20 = .ok (.iload_n 3, 1) := dk_29 ((dQ_X8_chance_1 4).trans dk_j4)
theorem dX8_chance_21 : decode cX8_chance 21 = .ok (.iconst 1, 1) := dk_4 ((dQ_X8_chance_1 5).trans dk_j5)
theorem dX8_chance_22 : decode cX8_chance 22 = .ok (.if_icmp .le 7, 3) := dk_164 ((dQ_X8_chance_1 6).trans dk_j6) ((dQ_X8_chance_1 7).trans dk_j7) ((dQ_X8_chance_1 8).trans dk_j8) dk_vs2_0_7
theorem dX8_chance_25 : decode cX8_chance 25 = .ok (.ldc2_w 317, 3) := dk_20 ((dQ_X8_chance_1 9).trans dk_j9) ((dQ_X8_chance_1 10).trans dk_j10) ((dQ_X8_chance_1 11).trans dk_j11) dk_vu2_1_61
theorem dX8_chance_28 : decode cX8_chance 28 = .ok (.lreturn, 1) := dk_173 ((dQ_X8_chance_1 12).trans dk_j12)
theorem dX8_chance_29 : decode cX8_chance 29 = .ok (.aload_n 0, 1) := dk_42 ((dQ_X8_chance_1 13).trans dk_j13)
theorem dX8_chance_30 : decode cX8_chance 30 = .ok (.getfield 75, 3) := dk_180 ((dQ_X8_chance_1 14).trans dk_j14) ((dQ_X8_chance_1 15).trans dk_j15) ((dQ_X8_chance_2 0).trans dk_j0) dk_vu2_0_75
theorem dX8_chance_33 : decode cX8_chance 33 = .ok (.aload_n 0, 1) := dk_42 ((dQ_X8_chance_2 1).trans dk_j1)
theorem dX8_chance_34 : decode cX8_chance 34 = .ok (.getfield 10, 3) := dk_180 ((dQ_X8_chance_2 2).trans dk_j2) ((dQ_X8_chance_2 3).trans dk_j3) ((dQ_X8_chance_2 4).trans dk_j4) dk_vu2_0_10
theorem dX8_chance_37 : decode cX8_chance 37 = .ok (.aload_n 0, 1) := dk_42 ((dQ_X8_chance_2 5).trans dk_j5)
theorem dX8_chance_38 : decode cX8_chance 38 = .ok (.getfield 44, 3) := dk_180 ((dQ_X8_chance_2 6).trans dk_j6) ((dQ_X8_chance_2 7).trans dk_j7) ((dQ_X8_chance_2 8).trans dk_j8) dk_vu2_0_44
theorem dX8_chance_41 : decode cX8_chance 41 = .ok (.iconst 0, 1) := dk_3 ((dQ_X8_chance_2 9).trans dk_j9)
theorem dX8_chance_42 : decode cX8_chance 42 = .ok (.iload_n 1, 1) := dk_27 ((dQ_X8_chance_2 10).trans dk_j10)
theorem dX8_chance_43 : decode cX8_chance 43 = .ok (.iload_n 2, 1) := dk_28 ((dQ_X8_chance_2 11).trans dk_j11)
theorem dk_vu2_1_63 : (0x01 : UInt8).toNat * 256 + (0x3f : UInt8).toNat = (319 : Nat) := by decide +kernel
theorem dX8_chance_44 : decode cX8_chance 44 = .ok (.invokevirtual 319, 3) := dk_182 ((dQ_X8_chance_2 12).trans dk_j12) ((dQ_X8_chance_2 13).trans dk_j13) ((dQ_X8_chance_2 14).trans dk_j14) dk_vu2_1_63
theorem dX8_chance_47 : decode cX8_chance 47 = .ok (.iload_n 3, 1) := dk_29 ((dQ_X8_chance_2 15).trans dk_j15)
theorem dX8_chance_48 : decode cX8_chance 48 = .ok (.ifCond .ne 13, 3) := dk_154 ((dQ_X8_chance_3 0).trans dk_j0) ((dQ_X8_chance_3 1).trans dk_j1) ((dQ_X8_chance_3 2).trans dk_j2) dk_vs2_0_13
theorem dX8_chance_51 : decode cX8_chance 51 = .ok (.aload_n 0, 1) := dk_42 ((dQ_X8_chance_3 3).trans dk_j3)
theorem dX8_chance_52 : decode cX8_chance 52 = .ok (.getfield 75, 3) := dk_180 ((dQ_X8_chance_3 4).trans dk_j4) ((dQ_X8_chance_3 5).trans dk_j5) ((dQ_X8_chance_3 6).trans dk_j6) dk_vu2_0_75
theorem dk_vu2_1_66 : (0x01 : UInt8).toNat * 256 + (0x42 : UInt8).toNat = (322 : Nat) := by decide +kernel
theorem dX8_chance_55 : decode cX8_chance 55 = .ok (.getfield 322, 3) := dk_180 ((dQ_X8_chance_3 7).trans dk_j7) ((dQ_X8_chance_3 8).trans dk_j8) ((dQ_X8_chance_3 9).trans dk_j9) dk_vu2_1_66
theorem dX8_chance_58 : decode cX8_chance 58 = .ok (.goto 10, 3) := dk_167 ((dQ_X8_chance_3 10).trans dk_j10) ((dQ_X8_chance_3 11).trans dk_j11) ((dQ_X8_chance_3 12).trans dk_j12) dk_vs2_0_10
theorem dX8_chance_61 : decode cX8_chance 61 = .ok (.aload_n 0, 1) := dk_42 ((dQ_X8_chance_3 13).trans dk_j13)
theorem dX8_chance_62 : decode cX8_chance 62 = .ok (.getfield 75, 3) := dk_180 ((dQ_X8_chance_3 14).trans dk_j14) ((dQ_X8_chance_3 15).trans dk_j15) ((dQ_X8_chance_4 0).trans dk_j0) dk_vu2_0_75
theorem dX8_chance_65 : decode cX8_chance 65 = .ok (.getfield 326, 3) := dk_180 ((dQ_X8_chance_4 1).trans dk_j1) ((dQ_X8_chance_4 2).trans dk_j2) ((dQ_X8_chance_4 3).trans dk_j3) dk_vu2_1_70
theorem dX8_chance_68 : decode cX8_chance 68 = .ok (.lreturn, 1) := dk_173 ((dQ_X8_chance_4 4).trans dk_j4)
def dT_X8_fair_4 : List UInt8 := (0x4b : UInt8) :: (0xb4 : UInt8) :: (0x01 : UInt8) :: (0x46 : UInt8) :: (0xad : UInt8) :: []
def dT_X8_fair_3 : List UInt8 := (0x9a : UInt8) :: (0x00 : UInt8) :: (0x0d : UInt8) :: (0x2a : UInt8) :: (0xb4 : UInt8) :: (0x00 : UInt8) :: (0x4b : UInt8) :: (0xb4 : UInt8) :: (0x01 : UInt8) :: (0x42 : UInt8) :: (0xa7 : UInt8) :: (0x00 : UInt8) :: (0x0a : UInt8) :: (0x2a : UInt8) :: (0xb4 : UInt8) :: (0x00 : UInt8) :: dT_X8_fair_4
def dT_X8_fair_2 : List UInt8 := (0x4b : UInt8) :: (0x2a : UInt8) :: (0xb4 : UInt8) :: (0x00 : UInt8) :: (0x0a : UInt8) :: (0x2a : UInt8) :: (0xb4 : UInt8) :: (0x00 : UInt8) :: (0x2c : UInt8) :: (0x04 : UInt8) :: (0x1b : UInt8) :: (0x1c : UInt8) :: (0xb6 : UInt8) :: (0x01 : UInt8) :: (0x3f : UInt8) :: (0x1d : UInt8) :: dT_X8_fair_3
def dT_X8_fair_1 : List UInt8 := (0x1d : UInt8) :: (0x9b : UInt8) :: (0x00 : UInt8) :: (0x08 : UInt8) :: (0x1d : UInt8) :: (0x04 : UInt8) :: (0xa4 : UInt8) :: (0x00 : UInt8) :: (0x07 : UInt8) :: (0x14 : UInt8) :: (0x01 : UInt8) :: (0x3d : UInt8) :: (0xad : UInt8) :: (0x2a : UInt8) :: (0xb4 : UInt8) :: (0x00 : UInt8) :: dT_X8_fair_2
def dT_X8_fair_0 : List UInt8 := (0x2a : UInt8) :: (0x1b : UInt8) :: (0xb6 : UInt8) :: (0x00 : UInt8) :: (0x72 : UInt8) :: (0x99 : UInt8) :: (0x00 : UInt8) :: (0x14 : UInt8) :: (0x2a : UInt8) :: (0x1c : UInt8) :: (0xb6 : UInt8) :: (0x01 : UInt8) :: (0x3a : UInt8) :: (0x99 : UInt8) :: (0x00 : UInt8) :: (0x0c : UInt8) :: dT_X8_fair_1
theorem dT_X8_fair : cX8_fair.data.toList = dT_X8_fair_0 := eq_of_beq (show (cX8_fair.data.toList == dT_X8_fair_0) = true by decide +kernel)
theorem dQ_X8_fair_0 : dQ_P cX8_fair 0 dT_X8_fair_0 := fun i => by rw [dT_X8_fair]; rfl
theorem dQ_X8_fair_1 : dQ_P cX8_fair 16 dT_X8_fair_1 := fun i => (dQ_X8_fair_0 (i + 16)).trans dk_t
theorem dQ_X8_fair_2 : dQ_P cX8_fair 32 dT_X8_fair_2 := fun i => (dQ_X8_fair_1 (i + 16)).trans dk_t
theorem dQ_X8_fair_3 : dQ_P cX8_fair 48 dT_X8_fair_3 := fun i => (dQ_X8_fair_2 (i + 16)).trans dk_t
theorem dQ_X8_fair_4 : dQ_P cX8_fair 64 dT_X8_fair_4 := fun i => (dQ_X8_fair_3 (i + 16)).trans dk_t
theorem dX8_fair_0 : decode cX8_fair 0 = .ok (.aload_n 0, 1) := dk_42 ((dQ_X8_fair_0 0).trans dk_j0)
theorem dX8_fair_1 : decode cX8_fair 1 = .ok (.iload_n 1, 1) := dk_27 ((dQ_X8_fair_0 1).trans dk_j1)
theorem dX8_fair_2 : decode cX8_fair 2 = .ok (.invokevirtual 114, 3) := dk_182 ((dQ_X8_fair_0 2).trans dk_j2) ((dQ_X8_fair_0 3).trans dk_j3) ((dQ_X8_fair_0 4).trans dk_j4) dk_vu2_0_114
theorem dX8_fair_5 : decode cX8_fair 5 = .ok (.ifCond .eq 20, 3) := dk_153 ((dQ_X8_fair_0 5).trans dk_j5) ((dQ_X8_fair_0 6).trans dk_j6) ((dQ_X8_fair_0 7).trans dk_j7) dk_vs2_0_20
theorem dX8_fair_8 : decode cX8_fair 8 = .ok (.aload_n 0, 1) := dk_42 ((dQ_X8_fair_0 8).trans dk_j8)
theorem dX8_fair_9 : decode cX8_fair 9 = .ok (.iload_n 2, 1) := dk_28 ((dQ_X8_fair_0 9).trans dk_j9)
theorem dX8_fair_10 : decode cX8_fair 10 = .ok (.invokevirtual 314, 3) := dk_182 ((dQ_X8_fair_0 10).trans dk_j10) ((dQ_X8_fair_0 11).trans dk_j11) ((dQ_X8_fair_0 12).trans dk_j12) dk_vu2_1_58
theorem dX8_fair_13 : decode cX8_fair 13 = .ok (.ifCond .eq 12, 3) := dk_153 ((dQ_X8_fair_0 13).trans dk_j13) ((dQ_X8_fair_0 14).trans dk_j14) ((dQ_X8_fair_0 15).trans dk_j15) dk_vs2_0_12
theorem dX8_fair_16 : decode cX8_fair 16 = .ok (.iload_n 3, 1) := dk_29 ((dQ_X8_fair_1 0).trans dk_j0)
theorem dX8_fair_17 : decode cX8_fair 17 = .ok (.ifCond .lt 8, 3) := dk_155 ((dQ_X8_fair_1 1).trans dk_j1) ((dQ_X8_fair_1 2).trans dk_j2) ((dQ_X8_fair_1 3).trans dk_j3) dk_vs2_0_8
theorem dX8_fair_20 : decode cX8_fair 20 = .ok (.iload_n 3, 1) := dk_29 ((dQ_X8_fair_1 4).trans dk_j4)
theorem dX8_fair_21 : decode cX8_fair 21 = .ok (.iconst 1, 1) := dk_4 ((dQ_X8_fair_1 5).trans dk_j5)
theorem dX8_fair_22 : decode cX8_fair 22 = .ok (.if_icmp .le 7, 3) := dk_164 ((dQ_X8_fair_1 6).trans dk_j6) ((dQ_X8_fair_1 7).trans dk_j7) ((dQ_X8_fair_1 8).trans dk_j8) dk_vs2_0_7
theorem dX8_fair_25 : decode cX8_fair 25 = .ok (.ldc2_w 317, 3) := dk_20 ((dQ_X8_fair_1 9).trans dk_j9) ((dQ_X8_fair_1 10).trans dk_j10) ((dQ_X8_fair_1 11).trans dk_j11) dk_vu2_1_61
theorem dX8_fair_28 : decode cX8_fair 28 = .ok (.lreturn, 1) := dk_173 ((dQ_X8_fair_1 12).trans dk_j12)
theorem dX8_fair_29 : decode cX8_fair 29 = .ok (.aload_n 0, 1) := dk_42 ((dQ_X8_fair_1 13).trans dk_j13)
theorem dX8_fair_30 : decode cX8_fair 30 = .ok (.getfield 75, 3) := dk_180 ((dQ_X8_fair_1 14).trans dk_j14) ((dQ_X8_fair_1 15).trans dk_j15) ((dQ_X8_fair_2 0).trans dk_j0) dk_vu2_0_75
theorem dX8_fair_33 : decode cX8_fair 33 = .ok (.aload_n 0, 1) := dk_42 ((dQ_X8_fair_2 1).trans dk_j1)
theorem dX8_fair_34 : decode cX8_fair 34 = .ok (.getfield 10, 3) := dk_180 ((dQ_X8_fair_2 2).trans dk_j2) ((dQ_X8_fair_2 3).trans dk_j3) ((dQ_X8_fair_2 4).trans dk_j4) dk_vu2_0_10
theorem dX8_fair_37 : decode cX8_fair 37 = .ok (.aload_n 0, 1) := dk_42 ((dQ_X8_fair_2 5).trans dk_j5)
theorem dX8_fair_38 : decode cX8_fair 38 = .ok (.getfield 44, 3) := dk_180 ((dQ_X8_fair_2 6).trans dk_j6) ((dQ_X8_fair_2 7).trans dk_j7) ((dQ_X8_fair_2 8).trans dk_j8) dk_vu2_0_44
theorem dX8_fair_41 : decode cX8_fair 41 = .ok (.iconst 1, 1) := dk_4 ((dQ_X8_fair_2 9).trans dk_j9)
theorem dX8_fair_42 : decode cX8_fair 42 = .ok (.iload_n 1, 1) := dk_27 ((dQ_X8_fair_2 10).trans dk_j10)
theorem dX8_fair_43 : decode cX8_fair 43 = .ok (.iload_n 2, 1) := dk_28 ((dQ_X8_fair_2 11).trans dk_j11)
theorem dX8_fair_44 : decode cX8_fair 44 = .ok (.invokevirtual 319, 3) := dk_182 ((dQ_X8_fair_2 12).trans dk_j12) ((dQ_X8_fair_2 13).trans dk_j13) ((dQ_X8_fair_2 14).trans dk_j14) dk_vu2_1_63
theorem dX8_fair_47 : decode cX8_fair 47 = .ok (.iload_n 3, 1) := dk_29 ((dQ_X8_fair_2 15).trans dk_j15)
theorem dX8_fair_48 : decode cX8_fair 48 = .ok (.ifCond .ne 13, 3) := dk_154 ((dQ_X8_fair_3 0).trans dk_j0) ((dQ_X8_fair_3 1).trans dk_j1) ((dQ_X8_fair_3 2).trans dk_j2) dk_vs2_0_13
theorem dX8_fair_51 : decode cX8_fair 51 = .ok (.aload_n 0, 1) := dk_42 ((dQ_X8_fair_3 3).trans dk_j3)
theorem dX8_fair_52 : decode cX8_fair 52 = .ok (.getfield 75, 3) := dk_180 ((dQ_X8_fair_3 4).trans dk_j4) ((dQ_X8_fair_3 5).trans dk_j5) ((dQ_X8_fair_3 6).trans dk_j6) dk_vu2_0_75
theorem dX8_fair_55 : decode cX8_fair 55 = .ok (.getfield 322, 3) := dk_180 ((dQ_X8_fair_3 7).trans dk_j7) ((dQ_X8_fair_3 8).trans dk_j8) ((dQ_X8_fair_3 9).trans dk_j9) dk_vu2_1_66
theorem dX8_fair_58 : decode cX8_fair 58 = .ok (.goto 10, 3) := dk_167 ((dQ_X8_fair_3 10).trans dk_j10) ((dQ_X8_fair_3 11).trans dk_j11) ((dQ_X8_fair_3 12).trans dk_j12) dk_vs2_0_10
theorem dX8_fair_61 : decode cX8_fair 61 = .ok (.aload_n 0, 1) := dk_42 ((dQ_X8_fair_3 13).trans dk_j13)
theorem dX8_fair_62 : decode cX8_fair 62 = .ok (.getfield 75, 3) := dk_180 ((dQ_X8_fair_3 14).trans dk_j14) ((dQ_X8_fair_3 15).trans dk_j15) ((dQ_X8_fair_4 0).trans dk_j0) dk_vu2_0_75
theorem dX8_fair_65 : decode cX8_fair 65 = .ok (.getfield 326, 3) := dk_180 ((dQ_X8_fair_4 1).trans dk_j1) ((dQ_X8_fair_4 2).trans dk_j2) ((dQ_X8_fair_4 3).trans dk_j3) dk_vu2_1_70
theorem dX8_fair_68 : decode cX8_fair 68 = .ok (.lreturn, 1) := dk_173 ((dQ_X8_fair_4 4).trans dk_j4)
def dT_X8_risk_3 : List UInt8 := (0x01 : UInt8) :: (0x42 : UInt8) :: (0xa7 : UInt8) :: (0x00 : UInt8) :: (0x0a : UInt8) :: (0x2a : UInt8) :: (0xb4 : UInt8) :: (0x00 : UInt8) :: (0x4b : UInt8) :: (0xb4 : UInt8) :: (0x01 : UInt8) :: (0x46 : UInt8) :: (0xad : UInt8) :: []
def dT_X8_risk_2 : List UInt8 := (0x2c : UInt8) :: (0x05 : UInt8) :: (0x02 : UInt8) :: (0x1b : UInt8) :: (0xb6 : UInt8) :: (0x01 : UInt8) :: (0x3f : UInt8) :: (0x1c : UInt8) :: (0x9a : UInt8) :: (0x00 : UInt8) :: (0x0d : UInt8) :: (0x2a : UInt8) :: (0xb4 : UInt8) :: (0x00 : UInt8) :: (0x4b : UInt8) :: (0xb4 : UInt8) :: dT_X8_risk_3
def dT_X8_risk_1 : List UInt8 := (0x07 : UInt8) :: (0x14 : UInt8) :: (0x01 : UInt8) :: (0x3d : UInt8) :: (0xad : UInt8) :: (0x2a : UInt8) :: (0xb4 : UInt8) :: (0x00 : UInt8) :: (0x4b : UInt8) :: (0x2a : UInt8) :: (0xb4 : UInt8) :: (0x00 : UInt8) :: (0x0a : UInt8) :: (0x2a : UInt8) :: (0xb4 : UInt8) :: (0x00 : UInt8) :: dT_X8_risk_2
def dT_X8_risk_0 : List UInt8 := (0x2a : UInt8) :: (0x1b : UInt8) :: (0xb6 : UInt8) :: (0x01 : UInt8) :: (0x3a : UInt8) :: (0x99 : UInt8) :: (0x00 : UInt8) :: (0x0c : UInt8) :: (0x1c : UInt8) :: (0x9b : UInt8) :: (0x00 : UInt8) :: (0x08 : UInt8) :: (0x1c : UInt8) :: (0x04 : UInt8) :: (0xa4 : UInt8) :: (0x00 : UInt8) :: dT_X8_risk_1
theorem dT_X8_risk : cX8_risk.data.toList = dT_X8_risk_0 := eq_of_beq (show (cX8_risk.data.toList == dT_X8_risk_0) = true by decide +kernel)
theorem dQ_X8_risk_0 : dQ_P cX8_risk 0 dT_X8_risk_0 := fun i => by rw [dT_X8_risk]; rfl
theorem dQ_X8_risk_1 : dQ_P cX8_risk 16 dT_X8_risk_1 := fun i => (dQ_X8_risk_0 (i + 16)).trans dk_t
theorem dQ_X8_risk_2 : dQ_P cX8_risk 32 dT_X8_risk_2 := fun i => (dQ_X8_risk_1 (i + 16)).trans dk_t
theorem dQ_X8_risk_3 : dQ_P cX8_risk 48 dT_X8_risk_3 := fun i => (dQ_X8_risk_2 (i + 16)).trans dk_t
theorem dX8_risk_0 : decode cX8_risk 0 = .ok (.aload_n 0, 1) := dk_42 ((dQ_X8_risk_0 0).trans dk_j0)
theorem dX8_risk_1 : decode cX8_risk 1 = .ok (.iload_n 1, 1) := dk_27 ((dQ_X8_risk_0 1).trans dk_j1)
theorem dX8_risk_2 : decode cX8_risk 2 = .ok (.invokevirtual 314, 3) := dk_182 ((dQ_X8_risk_0 2).trans dk_j2) ((dQ_X8_risk_0 3).trans dk_j3) ((dQ_X8_risk_0 4).trans dk_j4) dk_vu2_1_58
theorem dX8_risk_5 : decode cX8_risk 5 = .ok (.ifCond .eq 12, 3) := dk_153 ((dQ_X8_risk_0 5).trans dk_j5) ((dQ_X8_risk_0 6).trans dk_j6) ((dQ_X8_risk_0 7).trans dk_j7) dk_vs2_0_12
theorem dX8_risk_8 : decode cX8_risk 8 = .ok (.iload_n 2, 1) := dk_28 ((dQ_X8_risk_0 8).trans dk_j8)
theorem dX8_risk_9 : decode cX8_risk 9 = .ok (.ifCond .lt 8, 3) := dk_155 ((dQ_X8_risk_0 9).trans dk_j9) ((dQ_X8_risk_0 10).trans dk_j10) ((dQ_X8_risk_0 11).trans dk_j11) dk_vs2_0_8
theorem dX8_risk_12 : decode cX8_risk 12 = .ok (.iload_n 2, 1) := dk_28 ((dQ_X8_risk_0 12).trans dk_j12)
theorem dX8_risk_13 : decode cX8_risk 13 = .ok (.iconst 1, 1) := dk_4 ((dQ_X8_risk_0 13).trans dk_j13)
theorem dX8_risk_14 : decode cX8_risk 14 = .ok (.if_icmp .le 7, 3) := dk_164 ((dQ_X8_risk_0 14).trans dk_j14) ((dQ_X8_risk_0 15).trans dk_j15) ((dQ_X8_risk_1 0).trans dk_j0) dk_vs2_0_7
theorem dX8_risk_17 : decode cX8_risk 17 = .ok (.ldc2_w 317, 3) := dk_20 ((dQ_X8_risk_1 1).trans dk_j1) ((dQ_X8_risk_1 2).trans dk_j2) ((dQ_X8_risk_1 3).trans dk_j3) dk_vu2_1_61
theorem dX8_risk_20 : decode cX8_risk 20 = .ok (.lreturn, 1) := dk_173 ((dQ_X8_risk_1 4).trans dk_j4)
theorem dX8_risk_21 : decode cX8_risk 21 = .ok (.aload_n 0, 1) := dk_42 ((dQ_X8_risk_1 5).trans dk_j5)
theorem dX8_risk_22 : decode cX8_risk 22 = .ok (.getfield 75, 3) := dk_180 ((dQ_X8_risk_1 6).trans dk_j6) ((dQ_X8_risk_1 7).trans dk_j7) ((dQ_X8_risk_1 8).trans dk_j8) dk_vu2_0_75
theorem dX8_risk_25 : decode cX8_risk 25 = .ok (.aload_n 0, 1) := dk_42 ((dQ_X8_risk_1 9).trans dk_j9)
theorem dX8_risk_26 : decode cX8_risk 26 = .ok (.getfield 10, 3) := dk_180 ((dQ_X8_risk_1 10).trans dk_j10) ((dQ_X8_risk_1 11).trans dk_j11) ((dQ_X8_risk_1 12).trans dk_j12) dk_vu2_0_10
theorem dX8_risk_29 : decode cX8_risk 29 = .ok (.aload_n 0, 1) := dk_42 ((dQ_X8_risk_1 13).trans dk_j13)
theorem dX8_risk_30 : decode cX8_risk 30 = .ok (.getfield 44, 3) := dk_180 ((dQ_X8_risk_1 14).trans dk_j14) ((dQ_X8_risk_1 15).trans dk_j15) ((dQ_X8_risk_2 0).trans dk_j0) dk_vu2_0_44
theorem dX8_risk_33 : decode cX8_risk 33 = .ok (.iconst 2, 1) := dk_5 ((dQ_X8_risk_2 1).trans dk_j1)
theorem dX8_risk_34 : decode cX8_risk 34 = .ok (.iconst (-1), 1) := dk_2 ((dQ_X8_risk_2 2).trans dk_j2)
theorem dX8_risk_35 : decode cX8_risk 35 = .ok (.iload_n 1, 1) := dk_27 ((dQ_X8_risk_2 3).trans dk_j3)
theorem dX8_risk_36 : decode cX8_risk 36 = .ok (.invokevirtual 319, 3) := dk_182 ((dQ_X8_risk_2 4).trans dk_j4) ((dQ_X8_risk_2 5).trans dk_j5) ((dQ_X8_risk_2 6).trans dk_j6) dk_vu2_1_63
theorem dX8_risk_39 : decode cX8_risk 39 = .ok (.iload_n 2, 1) := dk_28 ((dQ_X8_risk_2 7).trans dk_j7)
theorem dX8_risk_40 : decode cX8_risk 40 = .ok (.ifCond .ne 13, 3) := dk_154 ((dQ_X8_risk_2 8).trans dk_j8) ((dQ_X8_risk_2 9).trans dk_j9) ((dQ_X8_risk_2 10).trans dk_j10) dk_vs2_0_13
theorem dX8_risk_43 : decode cX8_risk 43 = .ok (.aload_n 0, 1) := dk_42 ((dQ_X8_risk_2 11).trans dk_j11)
theorem dX8_risk_44 : decode cX8_risk 44 = .ok (.getfield 75, 3) := dk_180 ((dQ_X8_risk_2 12).trans dk_j12) ((dQ_X8_risk_2 13).trans dk_j13) ((dQ_X8_risk_2 14).trans dk_j14) dk_vu2_0_75
theorem dX8_risk_47 : decode cX8_risk 47 = .ok (.getfield 322, 3) := dk_180 ((dQ_X8_risk_2 15).trans dk_j15) ((dQ_X8_risk_3 0).trans dk_j0) ((dQ_X8_risk_3 1).trans dk_j1) dk_vu2_1_66
theorem dX8_risk_50 : decode cX8_risk 50 = .ok (.goto 10, 3) := dk_167 ((dQ_X8_risk_3 2).trans dk_j2) ((dQ_X8_risk_3 3).trans dk_j3) ((dQ_X8_risk_3 4).trans dk_j4) dk_vs2_0_10
theorem dX8_risk_53 : decode cX8_risk 53 = .ok (.aload_n 0, 1) := dk_42 ((dQ_X8_risk_3 5).trans dk_j5)
theorem dX8_risk_54 : decode cX8_risk 54 = .ok (.getfield 75, 3) := dk_180 ((dQ_X8_risk_3 6).trans dk_j6) ((dQ_X8_risk_3 7).trans dk_j7) ((dQ_X8_risk_3 8).trans dk_j8) dk_vu2_0_75
theorem dX8_risk_57 : decode cX8_risk 57 = .ok (.getfield 326, 3) := dk_180 ((dQ_X8_risk_3 9).trans dk_j9) ((dQ_X8_risk_3 10).trans dk_j10) ((dQ_X8_risk_3 11).trans dk_j11) dk_vu2_1_70
theorem dX8_risk_60 : decode cX8_risk 60 = .ok (.lreturn, 1) := dk_173 ((dQ_X8_risk_3 12).trans dk_j12)
def dT_X8_drawn_5 : List UInt8 := (0xb4 : UInt8) :: (0x00 : UInt8) :: (0x30 : UInt8) :: (0xb4 : UInt8) :: (0x00 : UInt8) :: (0x97 : UInt8) :: (0xb6 : UInt8) :: (0x00 : UInt8) :: (0xe4 : UInt8) :: (0xac : UInt8) :: []
def dT_X8_drawn_4 : List UInt8 := (0xb4 : UInt8) :: (0x00 : UInt8) :: (0x0a : UInt8) :: (0xb4 : UInt8) :: (0x00 : UInt8) :: (0x64 : UInt8) :: (0x05 : UInt8) :: (0x2e : UInt8) :: (0xb6 : UInt8) :: (0x00 : UInt8) :: (0xea : UInt8) :: (0x2a : UInt8) :: (0xb4 : UInt8) :: (0x00 : UInt8) :: (0x36 : UInt8) :: (0x2a : UInt8) :: dT_X8_drawn_5
def dT_X8_drawn_3 : List UInt8 := (0x00 : UInt8) :: (0x8d : UInt8) :: (0xac : UInt8) :: (0x2a : UInt8) :: (0xb4 : UInt8) :: (0x00 : UInt8) :: (0x36 : UInt8) :: (0x2a : UInt8) :: (0xb4 : UInt8) :: (0x00 : UInt8) :: (0x0a : UInt8) :: (0x2a : UInt8) :: (0xb4 : UInt8) :: (0x00 : UInt8) :: (0x30 : UInt8) :: (0x2a : UInt8) :: dT_X8_drawn_4
def dT_X8_drawn_2 : List UInt8 := (0x1c : UInt8) :: (0x9a : UInt8) :: (0x00 : UInt8) :: (0x05 : UInt8) :: (0x1d : UInt8) :: (0xac : UInt8) :: (0x1c : UInt8) :: (0x04 : UInt8) :: (0xa0 : UInt8) :: (0x00 : UInt8) :: (0x0b : UInt8) :: (0x2a : UInt8) :: (0xb4 : UInt8) :: (0x00 : UInt8) :: (0x30 : UInt8) :: (0xb6 : UInt8) :: dT_X8_drawn_3
def dT_X8_drawn_1 : List UInt8 := (0x00 : UInt8) :: (0x08 : UInt8) :: (0x1c : UInt8) :: (0x05 : UInt8) :: (0xa4 : UInt8) :: (0x00 : UInt8) :: (0x06 : UInt8) :: (0x10 : UInt8) :: (0xfe : UInt8) :: (0xac : UInt8) :: (0x2a : UInt8) :: (0x1b : UInt8) :: (0xb6 : UInt8) :: (0x01 : UInt8) :: (0x4c : UInt8) :: (0x3e : UInt8) :: dT_X8_drawn_2
def dT_X8_drawn_0 : List UInt8 := (0x2a : UInt8) :: (0xb6 : UInt8) :: (0x00 : UInt8) :: (0x89 : UInt8) :: (0x99 : UInt8) :: (0x00 : UInt8) :: (0x13 : UInt8) :: (0x1b : UInt8) :: (0xb8 : UInt8) :: (0x01 : UInt8) :: (0x49 : UInt8) :: (0x99 : UInt8) :: (0x00 : UInt8) :: (0x0c : UInt8) :: (0x1c : UInt8) :: (0x9b : UInt8) :: dT_X8_drawn_1
theorem dT_X8_drawn : cX8_drawn.data.toList = dT_X8_drawn_0 := eq_of_beq (show (cX8_drawn.data.toList == dT_X8_drawn_0) = true by decide +kernel)
theorem dQ_X8_drawn_0 : dQ_P cX8_drawn 0 dT_X8_drawn_0 := fun i => by rw [dT_X8_drawn]; rfl
theorem dQ_X8_drawn_1 : dQ_P cX8_drawn 16 dT_X8_drawn_1 := fun i => (dQ_X8_drawn_0 (i + 16)).trans dk_t
theorem dQ_X8_drawn_2 : dQ_P cX8_drawn 32 dT_X8_drawn_2 := fun i => (dQ_X8_drawn_1 (i + 16)).trans dk_t
theorem dQ_X8_drawn_3 : dQ_P cX8_drawn 48 dT_X8_drawn_3 := fun i => (dQ_X8_drawn_2 (i + 16)).trans dk_t
theorem dQ_X8_drawn_4 : dQ_P cX8_drawn 64 dT_X8_drawn_4 := fun i => (dQ_X8_drawn_3 (i + 16)).trans dk_t
theorem dQ_X8_drawn_5 : dQ_P cX8_drawn 80 dT_X8_drawn_5 := fun i => (dQ_X8_drawn_4 (i + 16)).trans dk_t
theorem dX8_drawn_0 : decode cX8_drawn 0 = .ok (.aload_n 0, 1) := dk_42 ((dQ_X8_drawn_0 0).trans dk_j0)
theorem dX8_drawn_1 : decode cX8_drawn 1 = .ok (.invokevirtual 137, 3) := dk_182 ((dQ_X8_drawn_0 1).trans dk_j1) ((dQ_X8_drawn_0 2).trans dk_j2) ((dQ_X8_drawn_0 3).trans dk_j3) dk_vu2_0_137
theorem dX8_drawn_4 : decode cX8_drawn 4 = .ok (.ifCond .eq 19, 3) := dk_153 ((dQ_X8_drawn_0 4).trans dk_j4) ((dQ_X8_drawn_0 5).trans dk_j5) ((dQ_X8_drawn_0 6).trans dk_j6) dk_vs2_0_19
theorem dX8_drawn_7 : decode cX8_drawn 7 = .ok (.iload_n 1, 1) := dk_27 ((dQ_X8_drawn_0 7).trans dk_j7)
theorem dX8_drawn_8 : decode cX8_drawn 8 = .ok (.invokestatic 329, 3) := dk_184 ((dQ_X8_drawn_0 8).trans dk_j8) ((dQ_X8_drawn_0 9).trans dk_j9) ((dQ_X8_drawn_0 10).trans dk_j10) dk_vu2_1_73
theorem dX8_drawn_11 : decode cX8_drawn 11 = .ok (.ifCond .eq 12, 3) := dk_153 ((dQ_X8_drawn_0 11).trans dk_j11) ((dQ_X8_drawn_0 12).trans dk_j12) ((dQ_X8_drawn_0 13).trans dk_j13) dk_vs2_0_12
theorem dX8_drawn_14 : decode cX8_drawn 14 = .ok (.iload_n 2, 1) := dk_28 ((dQ_X8_drawn_0 14).trans dk_j14)
theorem dX8_drawn_15 : decode cX8_drawn 15 = .ok (.ifCond .lt 8, 3) := dk_155 ((dQ_X8_drawn_0 15).trans dk_j15) ((dQ_X8_drawn_1 0).trans dk_j0) ((dQ_X8_drawn_1 1).trans dk_j1) dk_vs2_0_8
theorem dX8_drawn_18 : decode cX8_drawn 18 = .ok (.iload_n 2, 1) := dk_28 ((dQ_X8_drawn_1 2).trans dk_j2)
theorem dX8_drawn_19 : decode cX8_drawn 19 = .ok (.iconst 2, 1) := dk_5 ((dQ_X8_drawn_1 3).trans dk_j3)
theorem dX8_drawn_20 : decode cX8_drawn 20 = .ok (.if_icmp .le 6, 3) := dk_164 ((dQ_X8_drawn_1 4).trans dk_j4) ((dQ_X8_drawn_1 5).trans dk_j5) ((dQ_X8_drawn_1 6).trans dk_j6) dk_vs2_0_6
theorem dX8_drawn_23 : decode cX8_drawn 23 = .ok (.bipush (-2), 2) := dk_16 ((dQ_X8_drawn_1 7).trans dk_j7) ((dQ_X8_drawn_1 8).trans dk_j8) dk_vs1_254
theorem dX8_drawn_25 : decode cX8_drawn 25 = .ok (.ireturn, 1) := dk_172 ((dQ_X8_drawn_1 9).trans dk_j9)
theorem dX8_drawn_26 : decode cX8_drawn 26 = .ok (.aload_n 0, 1) := dk_42 ((dQ_X8_drawn_1 10).trans dk_j10)
theorem dX8_drawn_27 : decode cX8_drawn 27 = .ok (.iload_n 1, 1) := dk_27 ((dQ_X8_drawn_1 11).trans dk_j11)
theorem dX8_drawn_28 : decode cX8_drawn 28 = .ok (.invokevirtual 332, 3) := dk_182 ((dQ_X8_drawn_1 12).trans dk_j12) ((dQ_X8_drawn_1 13).trans dk_j13) ((dQ_X8_drawn_1 14).trans dk_j14) dk_vu2_1_76
theorem dX8_drawn_31 : decode cX8_drawn 31 = .ok (.istore_n 3, 1) := dk_62 ((dQ_X8_drawn_1 15).trans dk_j15)
theorem dX8_drawn_32 : decode cX8_drawn 32 = .ok (.iload_n 2, 1) := dk_28 ((dQ_X8_drawn_2 0).trans dk_j0)
theorem dX8_drawn_33 : decode cX8_drawn 33 = .ok (.ifCond .ne 5, 3) := dk_154 ((dQ_X8_drawn_2 1).trans dk_j1) ((dQ_X8_drawn_2 2).trans dk_j2) ((dQ_X8_drawn_2 3).trans dk_j3) dk_vs2_0_5
theorem dX8_drawn_36 : decode cX8_drawn 36 = .ok (.iload_n 3, 1) := dk_29 ((dQ_X8_drawn_2 4).trans dk_j4)
theorem dX8_drawn_37 : decode cX8_drawn 37 = .ok (.ireturn, 1) := dk_172 ((dQ_X8_drawn_2 5).trans dk_j5)
theorem dX8_drawn_38 : decode cX8_drawn 38 = .ok (.iload_n 2, 1) := dk_28 ((dQ_X8_drawn_2 6).trans dk_j6)
theorem dX8_drawn_39 : decode cX8_drawn 39 = .ok (.iconst 1, 1) := dk_4 ((dQ_X8_drawn_2 7).trans dk_j7)
theorem dX8_drawn_40 : decode cX8_drawn 40 = .ok (.if_icmp .ne 11, 3) := dk_160 ((dQ_X8_drawn_2 8).trans dk_j8) ((dQ_X8_drawn_2 9).trans dk_j9) ((dQ_X8_drawn_2 10).trans dk_j10) dk_vs2_0_11
theorem dX8_drawn_43 : decode cX8_drawn 43 = .ok (.aload_n 0, 1) := dk_42 ((dQ_X8_drawn_2 11).trans dk_j11)
theorem dX8_drawn_44 : decode cX8_drawn 44 = .ok (.getfield 48, 3) := dk_180 ((dQ_X8_drawn_2 12).trans dk_j12) ((dQ_X8_drawn_2 13).trans dk_j13) ((dQ_X8_drawn_2 14).trans dk_j14) dk_vu2_0_48
theorem dX8_drawn_47 : decode cX8_drawn 47 = .ok (.invokevirtual 141, 3) := dk_182 ((dQ_X8_drawn_2 15).trans dk_j15) ((dQ_X8_drawn_3 0).trans dk_j0) ((dQ_X8_drawn_3 1).trans dk_j1) dk_vu2_0_141
theorem dX8_drawn_50 : decode cX8_drawn 50 = .ok (.ireturn, 1) := dk_172 ((dQ_X8_drawn_3 2).trans dk_j2)
theorem dX8_drawn_51 : decode cX8_drawn 51 = .ok (.aload_n 0, 1) := dk_42 ((dQ_X8_drawn_3 3).trans dk_j3)
theorem dX8_drawn_52 : decode cX8_drawn 52 = .ok (.getfield 54, 3) := dk_180 ((dQ_X8_drawn_3 4).trans dk_j4) ((dQ_X8_drawn_3 5).trans dk_j5) ((dQ_X8_drawn_3 6).trans dk_j6) dk_vu2_0_54
theorem dX8_drawn_55 : decode cX8_drawn 55 = .ok (.aload_n 0, 1) := dk_42 ((dQ_X8_drawn_3 7).trans dk_j7)
theorem dX8_drawn_56 : decode cX8_drawn 56 = .ok (.getfield 10, 3) := dk_180 ((dQ_X8_drawn_3 8).trans dk_j8) ((dQ_X8_drawn_3 9).trans dk_j9) ((dQ_X8_drawn_3 10).trans dk_j10) dk_vu2_0_10
theorem dX8_drawn_59 : decode cX8_drawn 59 = .ok (.aload_n 0, 1) := dk_42 ((dQ_X8_drawn_3 11).trans dk_j11)
theorem dX8_drawn_60 : decode cX8_drawn 60 = .ok (.getfield 48, 3) := dk_180 ((dQ_X8_drawn_3 12).trans dk_j12) ((dQ_X8_drawn_3 13).trans dk_j13) ((dQ_X8_drawn_3 14).trans dk_j14) dk_vu2_0_48
theorem dX8_drawn_63 : decode cX8_drawn 63 = .ok (.aload_n 0, 1) := dk_42 ((dQ_X8_drawn_3 15).trans dk_j15)
theorem dX8_drawn_64 : decode cX8_drawn 64 = .ok (.getfield 10, 3) := dk_180 ((dQ_X8_drawn_4 0).trans dk_j0) ((dQ_X8_drawn_4 1).trans dk_j1) ((dQ_X8_drawn_4 2).trans dk_j2) dk_vu2_0_10
theorem dX8_drawn_67 : decode cX8_drawn 67 = .ok (.getfield 100, 3) := dk_180 ((dQ_X8_drawn_4 3).trans dk_j3) ((dQ_X8_drawn_4 4).trans dk_j4) ((dQ_X8_drawn_4 5).trans dk_j5) dk_vu2_0_100
theorem dX8_drawn_70 : decode cX8_drawn 70 = .ok (.iconst 2, 1) := dk_5 ((dQ_X8_drawn_4 6).trans dk_j6)
theorem dX8_drawn_71 : decode cX8_drawn 71 = .ok (.iaload, 1) := dk_46 ((dQ_X8_drawn_4 7).trans dk_j7)
theorem dX8_drawn_72 : decode cX8_drawn 72 = .ok (.invokevirtual 234, 3) := dk_182 ((dQ_X8_drawn_4 8).trans dk_j8) ((dQ_X8_drawn_4 9).trans dk_j9) ((dQ_X8_drawn_4 10).trans dk_j10) dk_vu2_0_234
theorem dX8_drawn_75 : decode cX8_drawn 75 = .ok (.aload_n 0, 1) := dk_42 ((dQ_X8_drawn_4 11).trans dk_j11)
theorem dX8_drawn_76 : decode cX8_drawn 76 = .ok (.getfield 54, 3) := dk_180 ((dQ_X8_drawn_4 12).trans dk_j12) ((dQ_X8_drawn_4 13).trans dk_j13) ((dQ_X8_drawn_4 14).trans dk_j14) dk_vu2_0_54
theorem dX8_drawn_79 : decode cX8_drawn 79 = .ok (.aload_n 0, 1) := dk_42 ((dQ_X8_drawn_4 15).trans dk_j15)
theorem dX8_drawn_80 : decode cX8_drawn 80 = .ok (.getfield 48, 3) := dk_180 ((dQ_X8_drawn_5 0).trans dk_j0) ((dQ_X8_drawn_5 1).trans dk_j1) ((dQ_X8_drawn_5 2).trans dk_j2) dk_vu2_0_48
theorem dX8_drawn_83 : decode cX8_drawn 83 = .ok (.getfield 151, 3) := dk_180 ((dQ_X8_drawn_5 3).trans dk_j3) ((dQ_X8_drawn_5 4).trans dk_j4) ((dQ_X8_drawn_5 5).trans dk_j5) dk_vu2_0_151
theorem dX8_drawn_86 : decode cX8_drawn 86 = .ok (.invokevirtual 228, 3) := dk_182 ((dQ_X8_drawn_5 6).trans dk_j6) ((dQ_X8_drawn_5 7).trans dk_j7) ((dQ_X8_drawn_5 8).trans dk_j8) dk_vu2_0_228
theorem dX8_drawn_89 : decode cX8_drawn 89 = .ok (.ireturn, 1) := dk_172 ((dQ_X8_drawn_5 9).trans dk_j9)
def dT_X8_luck_6 : List UInt8 := (0x04 : UInt8) :: (0xac : UInt8) :: []
def dT_X8_luck_5 : List UInt8 := (0xd4 : UInt8) :: (0x1d : UInt8) :: (0x2e : UInt8) :: (0x9e : UInt8) :: (0x00 : UInt8) :: (0x06 : UInt8) :: (0x84 : UInt8) :: (0x04 : UInt8) :: (0x01 : UInt8) :: (0x84 : UInt8) :: (0x05 : UInt8) :: (0x01 : UInt8) :: (0xa7 : UInt8) :: (0xff : UInt8) :: (0xc7 : UInt8) :: (0x15 : UInt8) :: dT_X8_luck_6
def dT_X8_luck_4 : List UInt8 := (0x00 : UInt8) :: (0x0a : UInt8) :: (0xb4 : UInt8) :: (0x00 : UInt8) :: (0x64 : UInt8) :: (0x05 : UInt8) :: (0x2e : UInt8) :: (0xb6 : UInt8) :: (0x00 : UInt8) :: (0xea : UInt8) :: (0x2a : UInt8) :: (0xb4 : UInt8) :: (0x00 : UInt8) :: (0x36 : UInt8) :: (0xb4 : UInt8) :: (0x00 : UInt8) :: dT_X8_luck_5
def dT_X8_luck_3 : List UInt8 := (0x4c : UInt8) :: (0x57 : UInt8) :: (0x2a : UInt8) :: (0xb4 : UInt8) :: (0x00 : UInt8) :: (0x36 : UInt8) :: (0x2a : UInt8) :: (0xb4 : UInt8) :: (0x00 : UInt8) :: (0x0a : UInt8) :: (0x2a : UInt8) :: (0xb4 : UInt8) :: (0x00 : UInt8) :: (0x30 : UInt8) :: (0x2a : UInt8) :: (0xb4 : UInt8) :: dT_X8_luck_4
def dT_X8_luck_2 : List UInt8 := (0x03 : UInt8) :: (0x36 : UInt8) :: (0x05 : UInt8) :: (0x15 : UInt8) :: (0x05 : UInt8) :: (0x1c : UInt8) :: (0xa2 : UInt8) :: (0x00 : UInt8) :: (0x39 : UInt8) :: (0x2a : UInt8) :: (0x1b : UInt8) :: (0x15 : UInt8) :: (0x05 : UInt8) :: (0x60 : UInt8) :: (0xb6 : UInt8) :: (0x01 : UInt8) :: dT_X8_luck_3
def dT_X8_luck_1 : List UInt8 := (0x04 : UInt8) :: (0xa1 : UInt8) :: (0x00 : UInt8) :: (0x09 : UInt8) :: (0x1c : UInt8) :: (0x10 : UInt8) :: (0x14 : UInt8) :: (0xa4 : UInt8) :: (0x00 : UInt8) :: (0x06 : UInt8) :: (0x10 : UInt8) :: (0xfe : UInt8) :: (0xac : UInt8) :: (0x03 : UInt8) :: (0x36 : UInt8) :: (0x04 : UInt8) :: dT_X8_luck_2
def dT_X8_luck_0 : List UInt8 := (0x2a : UInt8) :: (0x1d : UInt8) :: (0xb6 : UInt8) :: (0x00 : UInt8) :: (0x72 : UInt8) :: (0x99 : UInt8) :: (0x00 : UInt8) :: (0x15 : UInt8) :: (0x1b : UInt8) :: (0xb8 : UInt8) :: (0x01 : UInt8) :: (0x49 : UInt8) :: (0x99 : UInt8) :: (0x00 : UInt8) :: (0x0e : UInt8) :: (0x1c : UInt8) :: dT_X8_luck_1
theorem dT_X8_luck : cX8_luck.data.toList = dT_X8_luck_0 := eq_of_beq (show (cX8_luck.data.toList == dT_X8_luck_0) = true by decide +kernel)
theorem dQ_X8_luck_0 : dQ_P cX8_luck 0 dT_X8_luck_0 := fun i => by rw [dT_X8_luck]; rfl
theorem dQ_X8_luck_1 : dQ_P cX8_luck 16 dT_X8_luck_1 := fun i => (dQ_X8_luck_0 (i + 16)).trans dk_t
theorem dQ_X8_luck_2 : dQ_P cX8_luck 32 dT_X8_luck_2 := fun i => (dQ_X8_luck_1 (i + 16)).trans dk_t
theorem dQ_X8_luck_3 : dQ_P cX8_luck 48 dT_X8_luck_3 := fun i => (dQ_X8_luck_2 (i + 16)).trans dk_t
theorem dQ_X8_luck_4 : dQ_P cX8_luck 64 dT_X8_luck_4 := fun i => (dQ_X8_luck_3 (i + 16)).trans dk_t
theorem dQ_X8_luck_5 : dQ_P cX8_luck 80 dT_X8_luck_5 := fun i => (dQ_X8_luck_4 (i + 16)).trans dk_t
theorem dQ_X8_luck_6 : dQ_P cX8_luck 96 dT_X8_luck_6 := fun i => (dQ_X8_luck_5 (i + 16)).trans dk_t
theorem dX8_luck_0 : decode cX8_luck 0 = .ok (.aload_n 0, 1) := dk_42 ((dQ_X8_luck_0 0).trans dk_j0)
theorem dX8_luck_1 : decode cX8_luck 1 = .ok (.iload_n 3, 1) := dk_29 ((dQ_X8_luck_0 1).trans dk_j1)
theorem dX8_luck_2 : decode cX8_luck 2 = .ok (.invokevirtual 114, 3) := dk_182 ((dQ_X8_luck_0 2).trans dk_j2) ((dQ_X8_luck_0 3).trans dk_j3) ((dQ_X8_luck_0 4).trans dk_j4) dk_vu2_0_114
theorem dX8_luck_5 : decode cX8_luck 5 = .ok (.ifCond .eq 21, 3) := dk_153 ((dQ_X8_luck_0 5).trans dk_j5) ((dQ_X8_luck_0 6).trans dk_j6) ((dQ_X8_luck_0 7).trans dk_j7) dk_vs2_0_21
theorem dX8_luck_8 : decode cX8_luck 8 = .ok (.iload_n 1, 1) := dk_27 ((dQ_X8_luck_0 8).trans dk_j8)
theorem dX8_luck_9 : decode cX8_luck 9 = .ok (.invokestatic 329, 3) := dk_184 ((dQ_X8_luck_0 9).trans dk_j9) ((dQ_X8_luck_0 10).trans dk_j10) ((dQ_X8_luck_0 11).trans dk_j11) dk_vu2_1_73
theorem dX8_luck_12 : decode cX8_luck 12 = .ok (.ifCond .eq 14, 3) := dk_153 ((dQ_X8_luck_0 12).trans dk_j12) ((dQ_X8_luck_0 13).trans dk_j13) ((dQ_X8_luck_0 14).trans dk_j14) dk_vs2_0_14
theorem dX8_luck_15 : decode cX8_luck 15 = .ok (.iload_n 2, 1) := dk_28 ((dQ_X8_luck_0 15).trans dk_j15)
theorem dX8_luck_16 : decode cX8_luck 16 = .ok (.iconst 1, 1) := dk_4 ((dQ_X8_luck_1 0).trans dk_j0)
theorem dX8_luck_17 : decode cX8_luck 17 = .ok (.if_icmp .lt 9, 3) := dk_161 ((dQ_X8_luck_1 1).trans dk_j1) ((dQ_X8_luck_1 2).trans dk_j2) ((dQ_X8_luck_1 3).trans dk_j3) dk_vs2_0_9
theorem dX8_luck_20 : decode cX8_luck 20 = .ok (.iload_n 2, 1) := dk_28 ((dQ_X8_luck_1 4).trans dk_j4)
theorem dX8_luck_21 : decode cX8_luck 21 = .ok (.bipush 20, 2) := dk_16 ((dQ_X8_luck_1 5).trans dk_j5) ((dQ_X8_luck_1 6).trans dk_j6) dk_vs1_20
theorem dX8_luck_23 : decode cX8_luck 23 = .ok (.if_icmp .le 6, 3) := dk_164 ((dQ_X8_luck_1 7).trans dk_j7) ((dQ_X8_luck_1 8).trans dk_j8) ((dQ_X8_luck_1 9).trans dk_j9) dk_vs2_0_6
theorem dX8_luck_26 : decode cX8_luck 26 = .ok (.bipush (-2), 2) := dk_16 ((dQ_X8_luck_1 10).trans dk_j10) ((dQ_X8_luck_1 11).trans dk_j11) dk_vs1_254
theorem dX8_luck_28 : decode cX8_luck 28 = .ok (.ireturn, 1) := dk_172 ((dQ_X8_luck_1 12).trans dk_j12)
theorem dX8_luck_29 : decode cX8_luck 29 = .ok (.iconst 0, 1) := dk_3 ((dQ_X8_luck_1 13).trans dk_j13)
theorem dX8_luck_30 : decode cX8_luck 30 = .ok (.istore 4, 2) := dk_54 ((dQ_X8_luck_1 14).trans dk_j14) ((dQ_X8_luck_1 15).trans dk_j15) dk_vu1_4
theorem dX8_luck_32 : decode cX8_luck 32 = .ok (.iconst 0, 1) := dk_3 ((dQ_X8_luck_2 0).trans dk_j0)
theorem dX8_luck_33 : decode cX8_luck 33 = .ok (.istore 5, 2) := dk_54 ((dQ_X8_luck_2 1).trans dk_j1) ((dQ_X8_luck_2 2).trans dk_j2) dk_vu1_5
theorem dX8_luck_35 : decode cX8_luck 35 = .ok (.iload 5, 2) := dk_21 ((dQ_X8_luck_2 3).trans dk_j3) ((dQ_X8_luck_2 4).trans dk_j4) dk_vu1_5
theorem dX8_luck_37 : decode cX8_luck 37 = .ok (.iload_n 2, 1) := dk_28 ((dQ_X8_luck_2 5).trans dk_j5)
theorem dk_vs2_0_57 : Reader.signed 16 ((0x00 : UInt8).toNat * 256 + (0x39 : UInt8).toNat) = (57 : Int) := by decide +kernel
theorem dX8_luck_38 : decode cX8_luck 38 = .ok (.if_icmp .ge 57, 3) := dk_162 ((dQ_X8_luck_2 6).trans dk_j6) ((dQ_X8_luck_2 7).trans dk_j7) ((dQ_X8_luck_2 8).trans dk_j8) dk_vs2_0_57
theorem dX8_luck_41 : decode cX8_luck 41 = .ok (.aload_n 0, 1) := dk_42 ((dQ_X8_luck_2 9).trans dk_j9)
theorem dX8_luck_42 : decode cX8_luck 42 = .ok (.iload_n 1, 1) := dk_27 ((dQ_X8_luck_2 10).trans dk_j10)
theorem dX8_luck_43 : decode cX8_luck 43 = .ok (.iload 5, 2) := dk_21 ((dQ_X8_luck_2 11).trans dk_j11) ((dQ_X8_luck_2 12).trans dk_j12) dk_vu1_5
theorem dX8_luck_45 : decode cX8_luck 45 = .ok (.iadd, 1) := dk_96 ((dQ_X8_luck_2 13).trans dk_j13)
theorem dX8_luck_46 : decode cX8_luck 46 = .ok (.invokevirtual 332, 3) := dk_182 ((dQ_X8_luck_2 14).trans dk_j14) ((dQ_X8_luck_2 15).trans dk_j15) ((dQ_X8_luck_3 0).trans dk_j0) dk_vu2_1_76
theorem dX8_luck_49 : decode cX8_luck 49 = .ok (.pop, 1) := dk_87 ((dQ_X8_luck_3 1).trans dk_j1)
theorem dX8_luck_50 : decode cX8_luck 50 = .ok (.aload_n 0, 1) := dk_42 ((dQ_X8_luck_3 2).trans dk_j2)
theorem dX8_luck_51 : decode cX8_luck 51 = .ok (.getfield 54, 3) := dk_180 ((dQ_X8_luck_3 3).trans dk_j3) ((dQ_X8_luck_3 4).trans dk_j4) ((dQ_X8_luck_3 5).trans dk_j5) dk_vu2_0_54
theorem dX8_luck_54 : decode cX8_luck 54 = .ok (.aload_n 0, 1) := dk_42 ((dQ_X8_luck_3 6).trans dk_j6)
theorem dX8_luck_55 : decode cX8_luck 55 = .ok (.getfield 10, 3) := dk_180 ((dQ_X8_luck_3 7).trans dk_j7) ((dQ_X8_luck_3 8).trans dk_j8) ((dQ_X8_luck_3 9).trans dk_j9) dk_vu2_0_10
theorem dX8_luck_58 : decode cX8_luck 58 = .ok (.aload_n 0, 1) := dk_42 ((dQ_X8_luck_3 10).trans dk_j10)
theorem dX8_luck_59 : decode cX8_luck 59 = .ok (.getfield 48, 3) := dk_180 ((dQ_X8_luck_3 11).trans dk_j11) ((dQ_X8_luck_3 12).trans dk_j12) ((dQ_X8_luck_3 13).trans dk_j13) dk_vu2_0_48
theorem dX8_luck_62 : decode cX8_luck 62 = .ok (.aload_n 0, 1) := dk_42 ((dQ_X8_luck_3 14).trans dk_j14)
theorem dX8_luck_63 : decode cX8_luck 63 = .ok (.getfield 10, 3) := dk_180 ((dQ_X8_luck_3 15).trans dk_j15) ((dQ_X8_luck_4 0).trans dk_j0) ((dQ_X8_luck_4 1).trans dk_j1) dk_vu2_0_10
theorem dX8_luck_66 : decode cX8_luck 66 = .ok (.getfield 100, 3) := dk_180 ((dQ_X8_luck_4 2).trans dk_j2) ((dQ_X8_luck_4 3).trans dk_j3) ((dQ_X8_luck_4 4).trans dk_j4) dk_vu2_0_100
theorem dX8_luck_69 : decode cX8_luck 69 = .ok (.iconst 2, 1) := dk_5 ((dQ_X8_luck_4 5).trans dk_j5)
theorem dX8_luck_70 : decode cX8_luck 70 = .ok (.iaload, 1) := dk_46 ((dQ_X8_luck_4 6).trans dk_j6)
theorem dX8_luck_71 : decode cX8_luck 71 = .ok (.invokevirtual 234, 3) := dk_182 ((dQ_X8_luck_4 7).trans dk_j7) ((dQ_X8_luck_4 8).trans dk_j8) ((dQ_X8_luck_4 9).trans dk_j9) dk_vu2_0_234
theorem dX8_luck_74 : decode cX8_luck 74 = .ok (.aload_n 0, 1) := dk_42 ((dQ_X8_luck_4 10).trans dk_j10)
theorem dX8_luck_75 : decode cX8_luck 75 = .ok (.getfield 54, 3) := dk_180 ((dQ_X8_luck_4 11).trans dk_j11) ((dQ_X8_luck_4 12).trans dk_j12) ((dQ_X8_luck_4 13).trans dk_j13) dk_vu2_0_54
theorem dX8_luck_78 : decode cX8_luck 78 = .ok (.getfield 212, 3) := dk_180 ((dQ_X8_luck_4 14).trans dk_j14) ((dQ_X8_luck_4 15).trans dk_j15) ((dQ_X8_luck_5 0).trans dk_j0) dk_vu2_0_212
theorem dX8_luck_81 : decode cX8_luck 81 = .ok (.iload_n 3, 1) := dk_29 ((dQ_X8_luck_5 1).trans dk_j1)
theorem dX8_luck_82 : decode cX8_luck 82 = .ok (.iaload, 1) := dk_46 ((dQ_X8_luck_5 2).trans dk_j2)
theorem dX8_luck_83 : decode cX8_luck 83 = .ok (.ifCond .le 6, 3) := dk_158 ((dQ_X8_luck_5 3).trans dk_j3) ((dQ_X8_luck_5 4).trans dk_j4) ((dQ_X8_luck_5 5).trans dk_j5) dk_vs2_0_6
theorem dX8_luck_86 : decode cX8_luck 86 = .ok (.iinc 4 1, 3) := dk_132 ((dQ_X8_luck_5 6).trans dk_j6) ((dQ_X8_luck_5 7).trans dk_j7) ((dQ_X8_luck_5 8).trans dk_j8) dk_vu1_4 dk_vs1_1
theorem dX8_luck_89 : decode cX8_luck 89 = .ok (.iinc 5 1, 3) := dk_132 ((dQ_X8_luck_5 9).trans dk_j9) ((dQ_X8_luck_5 10).trans dk_j10) ((dQ_X8_luck_5 11).trans dk_j11) dk_vu1_5 dk_vs1_1
theorem dk_vs2_255_199 : Reader.signed 16 ((0xff : UInt8).toNat * 256 + (0xc7 : UInt8).toNat) = (-57 : Int) := by decide +kernel
theorem dX8_luck_92 : decode cX8_luck 92 = .ok (.goto (-57), 3) := dk_167 ((dQ_X8_luck_5 12).trans dk_j12) ((dQ_X8_luck_5 13).trans dk_j13) ((dQ_X8_luck_5 14).trans dk_j14) dk_vs2_255_199
theorem dX8_luck_95 : decode cX8_luck 95 = .ok (.iload 4, 2) := dk_21 ((dQ_X8_luck_5 15).trans dk_j15) ((dQ_X8_luck_6 0).trans dk_j0) dk_vu1_4
theorem dX8_luck_97 : decode cX8_luck 97 = .ok (.ireturn, 1) := dk_172 ((dQ_X8_luck_6 1).trans dk_j1)
def dT_X8_liveDrawn_6 : List UInt8 := (0xb4 : UInt8) :: (0x00 : UInt8) :: (0x30 : UInt8) :: (0xb6 : UInt8) :: (0x00 : UInt8) :: (0xbd : UInt8) :: (0x1c : UInt8) :: (0xac : UInt8) :: []
def dT_X8_liveDrawn_5 : List UInt8 := (0x00 : UInt8) :: (0x80 : UInt8) :: (0x15 : UInt8) :: (0x05 : UInt8) :: (0x5c : UInt8) :: (0x2e : UInt8) :: (0x06 : UInt8) :: (0x60 : UInt8) :: (0x4f : UInt8) :: (0x84 : UInt8) :: (0x05 : UInt8) :: (0x01 : UInt8) :: (0xa7 : UInt8) :: (0xff : UInt8) :: (0xb7 : UInt8) :: (0x2a : UInt8) :: dT_X8_liveDrawn_6
def dT_X8_liveDrawn_4 : List UInt8 := (0x94 : UInt8) :: (0x9c : UInt8) :: (0x00 : UInt8) :: (0x18 : UInt8) :: (0x1c : UInt8) :: (0x04 : UInt8) :: (0x15 : UInt8) :: (0x05 : UInt8) :: (0x78 : UInt8) :: (0x80 : UInt8) :: (0x3d : UInt8) :: (0x2a : UInt8) :: (0xb4 : UInt8) :: (0x00 : UInt8) :: (0x30 : UInt8) :: (0xb4 : UInt8) :: dT_X8_liveDrawn_5
def dT_X8_liveDrawn_3 : List UInt8 := (0x55 : UInt8) :: (0x6d : UInt8) :: (0x14 : UInt8) :: (0x01 : UInt8) :: (0x57 : UInt8) :: (0x71 : UInt8) :: (0x2a : UInt8) :: (0xb4 : UInt8) :: (0x00 : UInt8) :: (0x0a : UInt8) :: (0xb4 : UInt8) :: (0x00 : UInt8) :: (0x64 : UInt8) :: (0x07 : UInt8) :: (0x2e : UInt8) :: (0x85 : UInt8) :: dT_X8_liveDrawn_4
def dT_X8_liveDrawn_2 : List UInt8 := (0x01 : UInt8) :: (0x4f : UInt8) :: (0x21 : UInt8) :: (0x69 : UInt8) :: (0x14 : UInt8) :: (0x01 : UInt8) :: (0x51 : UInt8) :: (0x61 : UInt8) :: (0x14 : UInt8) :: (0x01 : UInt8) :: (0x53 : UInt8) :: (0x71 : UInt8) :: (0x42 : UInt8) :: (0x21 : UInt8) :: (0x14 : UInt8) :: (0x01 : UInt8) :: dT_X8_liveDrawn_3
def dT_X8_liveDrawn_1 : List UInt8 := (0x03 : UInt8) :: (0x36 : UInt8) :: (0x05 : UInt8) :: (0x15 : UInt8) :: (0x05 : UInt8) :: (0x2a : UInt8) :: (0xb4 : UInt8) :: (0x00 : UInt8) :: (0x2c : UInt8) :: (0xb4 : UInt8) :: (0x00 : UInt8) :: (0x97 : UInt8) :: (0xa2 : UInt8) :: (0x00 : UInt8) :: (0x43 : UInt8) :: (0x14 : UInt8) :: dT_X8_liveDrawn_2
def dT_X8_liveDrawn_0 : List UInt8 := (0x2a : UInt8) :: (0xb4 : UInt8) :: (0x00 : UInt8) :: (0x30 : UInt8) :: (0x2a : UInt8) :: (0xb4 : UInt8) :: (0x00 : UInt8) :: (0x2c : UInt8) :: (0xb6 : UInt8) :: (0x00 : UInt8) :: (0xb7 : UInt8) :: (0x03 : UInt8) :: (0x3d : UInt8) :: (0x1b : UInt8) :: (0x85 : UInt8) :: (0x42 : UInt8) :: dT_X8_liveDrawn_1
theorem dT_X8_liveDrawn : cX8_liveDrawn.data.toList = dT_X8_liveDrawn_0 := eq_of_beq (show (cX8_liveDrawn.data.toList == dT_X8_liveDrawn_0) = true by decide +kernel)
theorem dQ_X8_liveDrawn_0 : dQ_P cX8_liveDrawn 0 dT_X8_liveDrawn_0 := fun i => by rw [dT_X8_liveDrawn]; rfl
theorem dQ_X8_liveDrawn_1 : dQ_P cX8_liveDrawn 16 dT_X8_liveDrawn_1 := fun i => (dQ_X8_liveDrawn_0 (i + 16)).trans dk_t
theorem dQ_X8_liveDrawn_2 : dQ_P cX8_liveDrawn 32 dT_X8_liveDrawn_2 := fun i => (dQ_X8_liveDrawn_1 (i + 16)).trans dk_t
theorem dQ_X8_liveDrawn_3 : dQ_P cX8_liveDrawn 48 dT_X8_liveDrawn_3 := fun i => (dQ_X8_liveDrawn_2 (i + 16)).trans dk_t
theorem dQ_X8_liveDrawn_4 : dQ_P cX8_liveDrawn 64 dT_X8_liveDrawn_4 := fun i => (dQ_X8_liveDrawn_3 (i + 16)).trans dk_t
theorem dQ_X8_liveDrawn_5 : dQ_P cX8_liveDrawn 80 dT_X8_liveDrawn_5 := fun i => (dQ_X8_liveDrawn_4 (i + 16)).trans dk_t
theorem dQ_X8_liveDrawn_6 : dQ_P cX8_liveDrawn 96 dT_X8_liveDrawn_6 := fun i => (dQ_X8_liveDrawn_5 (i + 16)).trans dk_t
theorem dX8_liveDrawn_0 : decode cX8_liveDrawn 0 = .ok (.aload_n 0, 1) := dk_42 ((dQ_X8_liveDrawn_0 0).trans dk_j0)
theorem dX8_liveDrawn_1 : decode cX8_liveDrawn 1 = .ok (.getfield 48, 3) := dk_180 ((dQ_X8_liveDrawn_0 1).trans dk_j1) ((dQ_X8_liveDrawn_0 2).trans dk_j2) ((dQ_X8_liveDrawn_0 3).trans dk_j3) dk_vu2_0_48
theorem dX8_liveDrawn_4 : decode cX8_liveDrawn 4 = .ok (.aload_n 0, 1) := dk_42 ((dQ_X8_liveDrawn_0 4).trans dk_j4)
theorem dX8_liveDrawn_5 : decode cX8_liveDrawn 5 = .ok (.getfield 44, 3) := dk_180 ((dQ_X8_liveDrawn_0 5).trans dk_j5) ((dQ_X8_liveDrawn_0 6).trans dk_j6) ((dQ_X8_liveDrawn_0 7).trans dk_j7) dk_vu2_0_44
theorem dX8_liveDrawn_8 : decode cX8_liveDrawn 8 = .ok (.invokevirtual 183, 3) := dk_182 ((dQ_X8_liveDrawn_0 8).trans dk_j8) ((dQ_X8_liveDrawn_0 9).trans dk_j9) ((dQ_X8_liveDrawn_0 10).trans dk_j10) dk_vu2_0_183
theorem dX8_liveDrawn_11 : decode cX8_liveDrawn 11 = .ok (.iconst 0, 1) := dk_3 ((dQ_X8_liveDrawn_0 11).trans dk_j11)
theorem dX8_liveDrawn_12 : decode cX8_liveDrawn 12 = .ok (.istore_n 2, 1) := dk_61 ((dQ_X8_liveDrawn_0 12).trans dk_j12)
theorem dX8_liveDrawn_13 : decode cX8_liveDrawn 13 = .ok (.iload_n 1, 1) := dk_27 ((dQ_X8_liveDrawn_0 13).trans dk_j13)
theorem dX8_liveDrawn_14 : decode cX8_liveDrawn 14 = .ok (.i2l, 1) := dk_133 ((dQ_X8_liveDrawn_0 14).trans dk_j14)
theorem dX8_liveDrawn_15 : decode cX8_liveDrawn 15 = .ok (.lstore_n 3, 1) := dk_66 ((dQ_X8_liveDrawn_0 15).trans dk_j15)
theorem dX8_liveDrawn_16 : decode cX8_liveDrawn 16 = .ok (.iconst 0, 1) := dk_3 ((dQ_X8_liveDrawn_1 0).trans dk_j0)
theorem dX8_liveDrawn_17 : decode cX8_liveDrawn 17 = .ok (.istore 5, 2) := dk_54 ((dQ_X8_liveDrawn_1 1).trans dk_j1) ((dQ_X8_liveDrawn_1 2).trans dk_j2) dk_vu1_5
theorem dX8_liveDrawn_19 : decode cX8_liveDrawn 19 = .ok (.iload 5, 2) := dk_21 ((dQ_X8_liveDrawn_1 3).trans dk_j3) ((dQ_X8_liveDrawn_1 4).trans dk_j4) dk_vu1_5
theorem dX8_liveDrawn_21 : decode cX8_liveDrawn 21 = .ok (.aload_n 0, 1) := dk_42 ((dQ_X8_liveDrawn_1 5).trans dk_j5)
theorem dX8_liveDrawn_22 : decode cX8_liveDrawn 22 = .ok (.getfield 44, 3) := dk_180 ((dQ_X8_liveDrawn_1 6).trans dk_j6) ((dQ_X8_liveDrawn_1 7).trans dk_j7) ((dQ_X8_liveDrawn_1 8).trans dk_j8) dk_vu2_0_44
theorem dX8_liveDrawn_25 : decode cX8_liveDrawn 25 = .ok (.getfield 151, 3) := dk_180 ((dQ_X8_liveDrawn_1 9).trans dk_j9) ((dQ_X8_liveDrawn_1 10).trans dk_j10) ((dQ_X8_liveDrawn_1 11).trans dk_j11) dk_vu2_0_151
theorem dk_vs2_0_67 : Reader.signed 16 ((0x00 : UInt8).toNat * 256 + (0x43 : UInt8).toNat) = (67 : Int) := by decide +kernel
theorem dX8_liveDrawn_28 : decode cX8_liveDrawn 28 = .ok (.if_icmp .ge 67, 3) := dk_162 ((dQ_X8_liveDrawn_1 12).trans dk_j12) ((dQ_X8_liveDrawn_1 13).trans dk_j13) ((dQ_X8_liveDrawn_1 14).trans dk_j14) dk_vs2_0_67
theorem dX8_liveDrawn_31 : decode cX8_liveDrawn 31 = .ok (.ldc2_w 335, 3) := dk_20 ((dQ_X8_liveDrawn_1 15).trans dk_j15) ((dQ_X8_liveDrawn_2 0).trans dk_j0) ((dQ_X8_liveDrawn_2 1).trans dk_j1) dk_vu2_1_79
theorem dX8_liveDrawn_34 : decode cX8_liveDrawn 34 = .ok (.lload_n 3, 1) := dk_33 ((dQ_X8_liveDrawn_2 2).trans dk_j2)
theorem dX8_liveDrawn_35 : decode cX8_liveDrawn 35 = .ok (.lmul, 1) := dk_105 ((dQ_X8_liveDrawn_2 3).trans dk_j3)
theorem dk_vu2_1_81 : (0x01 : UInt8).toNat * 256 + (0x51 : UInt8).toNat = (337 : Nat) := by decide +kernel
theorem dX8_liveDrawn_36 : decode cX8_liveDrawn 36 = .ok (.ldc2_w 337, 3) := dk_20 ((dQ_X8_liveDrawn_2 4).trans dk_j4) ((dQ_X8_liveDrawn_2 5).trans dk_j5) ((dQ_X8_liveDrawn_2 6).trans dk_j6) dk_vu2_1_81
theorem dX8_liveDrawn_39 : decode cX8_liveDrawn 39 = .ok (.ladd, 1) := dk_97 ((dQ_X8_liveDrawn_2 7).trans dk_j7)
theorem dk_vu2_1_83 : (0x01 : UInt8).toNat * 256 + (0x53 : UInt8).toNat = (339 : Nat) := by decide +kernel
theorem dX8_liveDrawn_40 : decode cX8_liveDrawn 40 = .ok (.ldc2_w 339, 3) := dk_20 ((dQ_X8_liveDrawn_2 8).trans dk_j8) ((dQ_X8_liveDrawn_2 9).trans dk_j9) ((dQ_X8_liveDrawn_2 10).trans dk_j10) dk_vu2_1_83
theorem dX8_liveDrawn_43 : decode cX8_liveDrawn 43 = .ok (.lrem, 1) := dk_113 ((dQ_X8_liveDrawn_2 11).trans dk_j11)
theorem dX8_liveDrawn_44 : decode cX8_liveDrawn 44 = .ok (.lstore_n 3, 1) := dk_66 ((dQ_X8_liveDrawn_2 12).trans dk_j12)
theorem dX8_liveDrawn_45 : decode cX8_liveDrawn 45 = .ok (.lload_n 3, 1) := dk_33 ((dQ_X8_liveDrawn_2 13).trans dk_j13)
theorem dX8_liveDrawn_46 : decode cX8_liveDrawn 46 = .ok (.ldc2_w 341, 3) := dk_20 ((dQ_X8_liveDrawn_2 14).trans dk_j14) ((dQ_X8_liveDrawn_2 15).trans dk_j15) ((dQ_X8_liveDrawn_3 0).trans dk_j0) dk_vu2_1_85
theorem dX8_liveDrawn_49 : decode cX8_liveDrawn 49 = .ok (.ldiv, 1) := dk_109 ((dQ_X8_liveDrawn_3 1).trans dk_j1)
theorem dk_vu2_1_87 : (0x01 : UInt8).toNat * 256 + (0x57 : UInt8).toNat = (343 : Nat) := by decide +kernel
theorem dX8_liveDrawn_50 : decode cX8_liveDrawn 50 = .ok (.ldc2_w 343, 3) := dk_20 ((dQ_X8_liveDrawn_3 2).trans dk_j2) ((dQ_X8_liveDrawn_3 3).trans dk_j3) ((dQ_X8_liveDrawn_3 4).trans dk_j4) dk_vu2_1_87
theorem dX8_liveDrawn_53 : decode cX8_liveDrawn 53 = .ok (.lrem, 1) := dk_113 ((dQ_X8_liveDrawn_3 5).trans dk_j5)
theorem dX8_liveDrawn_54 : decode cX8_liveDrawn 54 = .ok (.aload_n 0, 1) := dk_42 ((dQ_X8_liveDrawn_3 6).trans dk_j6)
theorem dX8_liveDrawn_55 : decode cX8_liveDrawn 55 = .ok (.getfield 10, 3) := dk_180 ((dQ_X8_liveDrawn_3 7).trans dk_j7) ((dQ_X8_liveDrawn_3 8).trans dk_j8) ((dQ_X8_liveDrawn_3 9).trans dk_j9) dk_vu2_0_10
theorem dX8_liveDrawn_58 : decode cX8_liveDrawn 58 = .ok (.getfield 100, 3) := dk_180 ((dQ_X8_liveDrawn_3 10).trans dk_j10) ((dQ_X8_liveDrawn_3 11).trans dk_j11) ((dQ_X8_liveDrawn_3 12).trans dk_j12) dk_vu2_0_100
theorem dX8_liveDrawn_61 : decode cX8_liveDrawn 61 = .ok (.iconst 4, 1) := dk_7 ((dQ_X8_liveDrawn_3 13).trans dk_j13)
theorem dX8_liveDrawn_62 : decode cX8_liveDrawn 62 = .ok (.iaload, 1) := dk_46 ((dQ_X8_liveDrawn_3 14).trans dk_j14)
theorem dX8_liveDrawn_63 : decode cX8_liveDrawn 63 = .ok (.i2l, 1) := dk_133 ((dQ_X8_liveDrawn_3 15).trans dk_j15)
theorem dX8_liveDrawn_64 : decode cX8_liveDrawn 64 = .ok (.lcmp, 1) := dk_148 ((dQ_X8_liveDrawn_4 0).trans dk_j0)
theorem dX8_liveDrawn_65 : decode cX8_liveDrawn 65 = .ok (.ifCond .ge 24, 3) := dk_156 ((dQ_X8_liveDrawn_4 1).trans dk_j1) ((dQ_X8_liveDrawn_4 2).trans dk_j2) ((dQ_X8_liveDrawn_4 3).trans dk_j3) dk_vs2_0_24
theorem dX8_liveDrawn_68 : decode cX8_liveDrawn 68 = .ok (.iload_n 2, 1) := dk_28 ((dQ_X8_liveDrawn_4 4).trans dk_j4)
theorem dX8_liveDrawn_69 : decode cX8_liveDrawn 69 = .ok (.iconst 1, 1) := dk_4 ((dQ_X8_liveDrawn_4 5).trans dk_j5)
theorem dX8_liveDrawn_70 : decode cX8_liveDrawn 70 = .ok (.iload 5, 2) := dk_21 ((dQ_X8_liveDrawn_4 6).trans dk_j6) ((dQ_X8_liveDrawn_4 7).trans dk_j7) dk_vu1_5
theorem dX8_liveDrawn_72 : decode cX8_liveDrawn 72 = .ok (.ishl, 1) := dk_120 ((dQ_X8_liveDrawn_4 8).trans dk_j8)
theorem dX8_liveDrawn_73 : decode cX8_liveDrawn 73 = .ok (.ior, 1) := dk_128 ((dQ_X8_liveDrawn_4 9).trans dk_j9)
theorem dX8_liveDrawn_74 : decode cX8_liveDrawn 74 = .ok (.istore_n 2, 1) := dk_61 ((dQ_X8_liveDrawn_4 10).trans dk_j10)
theorem dX8_liveDrawn_75 : decode cX8_liveDrawn 75 = .ok (.aload_n 0, 1) := dk_42 ((dQ_X8_liveDrawn_4 11).trans dk_j11)
theorem dX8_liveDrawn_76 : decode cX8_liveDrawn 76 = .ok (.getfield 48, 3) := dk_180 ((dQ_X8_liveDrawn_4 12).trans dk_j12) ((dQ_X8_liveDrawn_4 13).trans dk_j13) ((dQ_X8_liveDrawn_4 14).trans dk_j14) dk_vu2_0_48
theorem dX8_liveDrawn_79 : decode cX8_liveDrawn 79 = .ok (.getfield 128, 3) := dk_180 ((dQ_X8_liveDrawn_4 15).trans dk_j15) ((dQ_X8_liveDrawn_5 0).trans dk_j0) ((dQ_X8_liveDrawn_5 1).trans dk_j1) dk_vu2_0_128
theorem dX8_liveDrawn_82 : decode cX8_liveDrawn 82 = .ok (.iload 5, 2) := dk_21 ((dQ_X8_liveDrawn_5 2).trans dk_j2) ((dQ_X8_liveDrawn_5 3).trans dk_j3) dk_vu1_5
theorem dX8_liveDrawn_84 : decode cX8_liveDrawn 84 = .ok (.dup2, 1) := dk_92 ((dQ_X8_liveDrawn_5 4).trans dk_j4)
theorem dX8_liveDrawn_85 : decode cX8_liveDrawn 85 = .ok (.iaload, 1) := dk_46 ((dQ_X8_liveDrawn_5 5).trans dk_j5)
theorem dX8_liveDrawn_86 : decode cX8_liveDrawn 86 = .ok (.iconst 3, 1) := dk_6 ((dQ_X8_liveDrawn_5 6).trans dk_j6)
theorem dX8_liveDrawn_87 : decode cX8_liveDrawn 87 = .ok (.iadd, 1) := dk_96 ((dQ_X8_liveDrawn_5 7).trans dk_j7)
theorem dX8_liveDrawn_88 : decode cX8_liveDrawn 88 = .ok (.iastore, 1) := dk_79 ((dQ_X8_liveDrawn_5 8).trans dk_j8)
theorem dX8_liveDrawn_89 : decode cX8_liveDrawn 89 = .ok (.iinc 5 1, 3) := dk_132 ((dQ_X8_liveDrawn_5 9).trans dk_j9) ((dQ_X8_liveDrawn_5 10).trans dk_j10) ((dQ_X8_liveDrawn_5 11).trans dk_j11) dk_vu1_5 dk_vs1_1
theorem dk_vs2_255_183 : Reader.signed 16 ((0xff : UInt8).toNat * 256 + (0xb7 : UInt8).toNat) = (-73 : Int) := by decide +kernel
theorem dX8_liveDrawn_92 : decode cX8_liveDrawn 92 = .ok (.goto (-73), 3) := dk_167 ((dQ_X8_liveDrawn_5 12).trans dk_j12) ((dQ_X8_liveDrawn_5 13).trans dk_j13) ((dQ_X8_liveDrawn_5 14).trans dk_j14) dk_vs2_255_183
theorem dX8_liveDrawn_95 : decode cX8_liveDrawn 95 = .ok (.aload_n 0, 1) := dk_42 ((dQ_X8_liveDrawn_5 15).trans dk_j15)
theorem dX8_liveDrawn_96 : decode cX8_liveDrawn 96 = .ok (.getfield 48, 3) := dk_180 ((dQ_X8_liveDrawn_6 0).trans dk_j0) ((dQ_X8_liveDrawn_6 1).trans dk_j1) ((dQ_X8_liveDrawn_6 2).trans dk_j2) dk_vu2_0_48
theorem dX8_liveDrawn_99 : decode cX8_liveDrawn 99 = .ok (.invokevirtual 189, 3) := dk_182 ((dQ_X8_liveDrawn_6 3).trans dk_j3) ((dQ_X8_liveDrawn_6 4).trans dk_j4) ((dQ_X8_liveDrawn_6 5).trans dk_j5) dk_vu2_0_189
theorem dX8_liveDrawn_102 : decode cX8_liveDrawn 102 = .ok (.iload_n 2, 1) := dk_28 ((dQ_X8_liveDrawn_6 6).trans dk_j6)
theorem dX8_liveDrawn_103 : decode cX8_liveDrawn 103 = .ok (.ireturn, 1) := dk_172 ((dQ_X8_liveDrawn_6 7).trans dk_j7)
def dT_X8_stifle_3 : List UInt8 := (0xac : UInt8) :: []
def dT_X8_stifle_2 : List UInt8 := (0x10 : UInt8) :: (0xfb : UInt8) :: (0xac : UInt8) :: (0x2a : UInt8) :: (0xb6 : UInt8) :: (0x00 : UInt8) :: (0x61 : UInt8) :: (0x2a : UInt8) :: (0xb4 : UInt8) :: (0x00 : UInt8) :: (0x2c : UInt8) :: (0x1b : UInt8) :: (0x1c : UInt8) :: (0xb6 : UInt8) :: (0x00 : UInt8) :: (0x94 : UInt8) :: dT_X8_stifle_3
def dT_X8_stifle_1 : List UInt8 := (0x10 : UInt8) :: (0xfe : UInt8) :: (0xac : UInt8) :: (0x2a : UInt8) :: (0xb4 : UInt8) :: (0x00 : UInt8) :: (0x0a : UInt8) :: (0x03 : UInt8) :: (0x1b : UInt8) :: (0x1c : UInt8) :: (0xb6 : UInt8) :: (0x01 : UInt8) :: (0x59 : UInt8) :: (0x9a : UInt8) :: (0x00 : UInt8) :: (0x06 : UInt8) :: dT_X8_stifle_2
def dT_X8_stifle_0 : List UInt8 := (0x2a : UInt8) :: (0x1b : UInt8) :: (0xb6 : UInt8) :: (0x00 : UInt8) :: (0x6b : UInt8) :: (0x99 : UInt8) :: (0x00 : UInt8) :: (0x0b : UInt8) :: (0x2a : UInt8) :: (0x1c : UInt8) :: (0xb6 : UInt8) :: (0x00 : UInt8) :: (0x7d : UInt8) :: (0x9a : UInt8) :: (0x00 : UInt8) :: (0x06 : UInt8) :: dT_X8_stifle_1
theorem dT_X8_stifle : cX8_stifle.data.toList = dT_X8_stifle_0 := eq_of_beq (show (cX8_stifle.data.toList == dT_X8_stifle_0) = true by decide +kernel)
theorem dQ_X8_stifle_0 : dQ_P cX8_stifle 0 dT_X8_stifle_0 := fun i => by rw [dT_X8_stifle]; rfl
theorem dQ_X8_stifle_1 : dQ_P cX8_stifle 16 dT_X8_stifle_1 := fun i => (dQ_X8_stifle_0 (i + 16)).trans dk_t
theorem dQ_X8_stifle_2 : dQ_P cX8_stifle 32 dT_X8_stifle_2 := fun i => (dQ_X8_stifle_1 (i + 16)).trans dk_t
theorem dQ_X8_stifle_3 : dQ_P cX8_stifle 48 dT_X8_stifle_3 := fun i => (dQ_X8_stifle_2 (i + 16)).trans dk_t
theorem dX8_stifle_0 : decode cX8_stifle 0 = .ok (.aload_n 0, 1) := dk_42 ((dQ_X8_stifle_0 0).trans dk_j0)
theorem dX8_stifle_1 : decode cX8_stifle 1 = .ok (.iload_n 1, 1) := dk_27 ((dQ_X8_stifle_0 1).trans dk_j1)
theorem dX8_stifle_2 : decode cX8_stifle 2 = .ok (.invokevirtual 107, 3) := dk_182 ((dQ_X8_stifle_0 2).trans dk_j2) ((dQ_X8_stifle_0 3).trans dk_j3) ((dQ_X8_stifle_0 4).trans dk_j4) dk_vu2_0_107
theorem dX8_stifle_5 : decode cX8_stifle 5 = .ok (.ifCond .eq 11, 3) := dk_153 ((dQ_X8_stifle_0 5).trans dk_j5) ((dQ_X8_stifle_0 6).trans dk_j6) ((dQ_X8_stifle_0 7).trans dk_j7) dk_vs2_0_11
theorem dX8_stifle_8 : decode cX8_stifle 8 = .ok (.aload_n 0, 1) := dk_42 ((dQ_X8_stifle_0 8).trans dk_j8)
theorem dX8_stifle_9 : decode cX8_stifle 9 = .ok (.iload_n 2, 1) := dk_28 ((dQ_X8_stifle_0 9).trans dk_j9)
theorem dX8_stifle_10 : decode cX8_stifle 10 = .ok (.invokevirtual 125, 3) := dk_182 ((dQ_X8_stifle_0 10).trans dk_j10) ((dQ_X8_stifle_0 11).trans dk_j11) ((dQ_X8_stifle_0 12).trans dk_j12) dk_vu2_0_125
theorem dX8_stifle_13 : decode cX8_stifle 13 = .ok (.ifCond .ne 6, 3) := dk_154 ((dQ_X8_stifle_0 13).trans dk_j13) ((dQ_X8_stifle_0 14).trans dk_j14) ((dQ_X8_stifle_0 15).trans dk_j15) dk_vs2_0_6
theorem dX8_stifle_16 : decode cX8_stifle 16 = .ok (.bipush (-2), 2) := dk_16 ((dQ_X8_stifle_1 0).trans dk_j0) ((dQ_X8_stifle_1 1).trans dk_j1) dk_vs1_254
theorem dX8_stifle_18 : decode cX8_stifle 18 = .ok (.ireturn, 1) := dk_172 ((dQ_X8_stifle_1 2).trans dk_j2)
theorem dX8_stifle_19 : decode cX8_stifle 19 = .ok (.aload_n 0, 1) := dk_42 ((dQ_X8_stifle_1 3).trans dk_j3)
theorem dX8_stifle_20 : decode cX8_stifle 20 = .ok (.getfield 10, 3) := dk_180 ((dQ_X8_stifle_1 4).trans dk_j4) ((dQ_X8_stifle_1 5).trans dk_j5) ((dQ_X8_stifle_1 6).trans dk_j6) dk_vu2_0_10
theorem dX8_stifle_23 : decode cX8_stifle 23 = .ok (.iconst 0, 1) := dk_3 ((dQ_X8_stifle_1 7).trans dk_j7)
theorem dX8_stifle_24 : decode cX8_stifle 24 = .ok (.iload_n 1, 1) := dk_27 ((dQ_X8_stifle_1 8).trans dk_j8)
theorem dX8_stifle_25 : decode cX8_stifle 25 = .ok (.iload_n 2, 1) := dk_28 ((dQ_X8_stifle_1 9).trans dk_j9)
theorem dk_vu2_1_89 : (0x01 : UInt8).toNat * 256 + (0x59 : UInt8).toNat = (345 : Nat) := by decide +kernel
theorem dX8_stifle_26 : decode cX8_stifle 26 = .ok (.invokevirtual 345, 3) := dk_182 ((dQ_X8_stifle_1 10).trans dk_j10) ((dQ_X8_stifle_1 11).trans dk_j11) ((dQ_X8_stifle_1 12).trans dk_j12) dk_vu2_1_89
theorem dX8_stifle_29 : decode cX8_stifle 29 = .ok (.ifCond .ne 6, 3) := dk_154 ((dQ_X8_stifle_1 13).trans dk_j13) ((dQ_X8_stifle_1 14).trans dk_j14) ((dQ_X8_stifle_1 15).trans dk_j15) dk_vs2_0_6
theorem dX8_stifle_32 : decode cX8_stifle 32 = .ok (.bipush (-5), 2) := dk_16 ((dQ_X8_stifle_2 0).trans dk_j0) ((dQ_X8_stifle_2 1).trans dk_j1) dk_vs1_251
theorem dX8_stifle_34 : decode cX8_stifle 34 = .ok (.ireturn, 1) := dk_172 ((dQ_X8_stifle_2 2).trans dk_j2)
theorem dX8_stifle_35 : decode cX8_stifle 35 = .ok (.aload_n 0, 1) := dk_42 ((dQ_X8_stifle_2 3).trans dk_j3)
theorem dX8_stifle_36 : decode cX8_stifle 36 = .ok (.invokevirtual 97, 3) := dk_182 ((dQ_X8_stifle_2 4).trans dk_j4) ((dQ_X8_stifle_2 5).trans dk_j5) ((dQ_X8_stifle_2 6).trans dk_j6) dk_vu2_0_97
theorem dX8_stifle_39 : decode cX8_stifle 39 = .ok (.aload_n 0, 1) := dk_42 ((dQ_X8_stifle_2 7).trans dk_j7)
theorem dX8_stifle_40 : decode cX8_stifle 40 = .ok (.getfield 44, 3) := dk_180 ((dQ_X8_stifle_2 8).trans dk_j8) ((dQ_X8_stifle_2 9).trans dk_j9) ((dQ_X8_stifle_2 10).trans dk_j10) dk_vu2_0_44
theorem dX8_stifle_43 : decode cX8_stifle 43 = .ok (.iload_n 1, 1) := dk_27 ((dQ_X8_stifle_2 11).trans dk_j11)
theorem dX8_stifle_44 : decode cX8_stifle 44 = .ok (.iload_n 2, 1) := dk_28 ((dQ_X8_stifle_2 12).trans dk_j12)
theorem dX8_stifle_45 : decode cX8_stifle 45 = .ok (.invokevirtual 148, 3) := dk_182 ((dQ_X8_stifle_2 13).trans dk_j13) ((dQ_X8_stifle_2 14).trans dk_j14) ((dQ_X8_stifle_2 15).trans dk_j15) dk_vu2_0_148
theorem dX8_stifle_48 : decode cX8_stifle 48 = .ok (.ireturn, 1) := dk_172 ((dQ_X8_stifle_3 0).trans dk_j0)
def dT_X8_sniff_3 : List UInt8 := (0x1c : UInt8) :: (0xb8 : UInt8) :: (0x00 : UInt8) :: (0xaa : UInt8) :: (0x99 : UInt8) :: (0x00 : UInt8) :: (0x07 : UInt8) :: (0x04 : UInt8) :: (0xa7 : UInt8) :: (0x00 : UInt8) :: (0x04 : UInt8) :: (0x03 : UInt8) :: (0xac : UInt8) :: []
def dT_X8_sniff_2 : List UInt8 := (0x10 : UInt8) :: (0xfb : UInt8) :: (0xac : UInt8) :: (0x2a : UInt8) :: (0xb6 : UInt8) :: (0x00 : UInt8) :: (0x61 : UInt8) :: (0x2a : UInt8) :: (0xb4 : UInt8) :: (0x00 : UInt8) :: (0x2c : UInt8) :: (0xb4 : UInt8) :: (0x00 : UInt8) :: (0x83 : UInt8) :: (0x1b : UInt8) :: (0x2e : UInt8) :: dT_X8_sniff_3
def dT_X8_sniff_1 : List UInt8 := (0x10 : UInt8) :: (0xfe : UInt8) :: (0xac : UInt8) :: (0x2a : UInt8) :: (0xb4 : UInt8) :: (0x00 : UInt8) :: (0x0a : UInt8) :: (0x04 : UInt8) :: (0x1b : UInt8) :: (0x1c : UInt8) :: (0xb6 : UInt8) :: (0x01 : UInt8) :: (0x59 : UInt8) :: (0x9a : UInt8) :: (0x00 : UInt8) :: (0x06 : UInt8) :: dT_X8_sniff_2
def dT_X8_sniff_0 : List UInt8 := (0x2a : UInt8) :: (0x1b : UInt8) :: (0xb6 : UInt8) :: (0x00 : UInt8) :: (0x6b : UInt8) :: (0x99 : UInt8) :: (0x00 : UInt8) :: (0x0b : UInt8) :: (0x2a : UInt8) :: (0x1c : UInt8) :: (0xb6 : UInt8) :: (0x00 : UInt8) :: (0x7d : UInt8) :: (0x9a : UInt8) :: (0x00 : UInt8) :: (0x06 : UInt8) :: dT_X8_sniff_1
theorem dT_X8_sniff : cX8_sniff.data.toList = dT_X8_sniff_0 := eq_of_beq (show (cX8_sniff.data.toList == dT_X8_sniff_0) = true by decide +kernel)
theorem dQ_X8_sniff_0 : dQ_P cX8_sniff 0 dT_X8_sniff_0 := fun i => by rw [dT_X8_sniff]; rfl
theorem dQ_X8_sniff_1 : dQ_P cX8_sniff 16 dT_X8_sniff_1 := fun i => (dQ_X8_sniff_0 (i + 16)).trans dk_t
theorem dQ_X8_sniff_2 : dQ_P cX8_sniff 32 dT_X8_sniff_2 := fun i => (dQ_X8_sniff_1 (i + 16)).trans dk_t
theorem dQ_X8_sniff_3 : dQ_P cX8_sniff 48 dT_X8_sniff_3 := fun i => (dQ_X8_sniff_2 (i + 16)).trans dk_t
theorem dX8_sniff_0 : decode cX8_sniff 0 = .ok (.aload_n 0, 1) := dk_42 ((dQ_X8_sniff_0 0).trans dk_j0)
theorem dX8_sniff_1 : decode cX8_sniff 1 = .ok (.iload_n 1, 1) := dk_27 ((dQ_X8_sniff_0 1).trans dk_j1)
theorem dX8_sniff_2 : decode cX8_sniff 2 = .ok (.invokevirtual 107, 3) := dk_182 ((dQ_X8_sniff_0 2).trans dk_j2) ((dQ_X8_sniff_0 3).trans dk_j3) ((dQ_X8_sniff_0 4).trans dk_j4) dk_vu2_0_107
theorem dX8_sniff_5 : decode cX8_sniff 5 = .ok (.ifCond .eq 11, 3) := dk_153 ((dQ_X8_sniff_0 5).trans dk_j5) ((dQ_X8_sniff_0 6).trans dk_j6) ((dQ_X8_sniff_0 7).trans dk_j7) dk_vs2_0_11
theorem dX8_sniff_8 : decode cX8_sniff 8 = .ok (.aload_n 0, 1) := dk_42 ((dQ_X8_sniff_0 8).trans dk_j8)
theorem dX8_sniff_9 : decode cX8_sniff 9 = .ok (.iload_n 2, 1) := dk_28 ((dQ_X8_sniff_0 9).trans dk_j9)
theorem dX8_sniff_10 : decode cX8_sniff 10 = .ok (.invokevirtual 125, 3) := dk_182 ((dQ_X8_sniff_0 10).trans dk_j10) ((dQ_X8_sniff_0 11).trans dk_j11) ((dQ_X8_sniff_0 12).trans dk_j12) dk_vu2_0_125
theorem dX8_sniff_13 : decode cX8_sniff 13 = .ok (.ifCond .ne 6, 3) := dk_154 ((dQ_X8_sniff_0 13).trans dk_j13) ((dQ_X8_sniff_0 14).trans dk_j14) ((dQ_X8_sniff_0 15).trans dk_j15) dk_vs2_0_6
theorem dX8_sniff_16 : decode cX8_sniff 16 = .ok (.bipush (-2), 2) := dk_16 ((dQ_X8_sniff_1 0).trans dk_j0) ((dQ_X8_sniff_1 1).trans dk_j1) dk_vs1_254
theorem dX8_sniff_18 : decode cX8_sniff 18 = .ok (.ireturn, 1) := dk_172 ((dQ_X8_sniff_1 2).trans dk_j2)
theorem dX8_sniff_19 : decode cX8_sniff 19 = .ok (.aload_n 0, 1) := dk_42 ((dQ_X8_sniff_1 3).trans dk_j3)
theorem dX8_sniff_20 : decode cX8_sniff 20 = .ok (.getfield 10, 3) := dk_180 ((dQ_X8_sniff_1 4).trans dk_j4) ((dQ_X8_sniff_1 5).trans dk_j5) ((dQ_X8_sniff_1 6).trans dk_j6) dk_vu2_0_10
theorem dX8_sniff_23 : decode cX8_sniff 23 = .ok (.iconst 1, 1) := dk_4 ((dQ_X8_sniff_1 7).trans dk_j7)
theorem dX8_sniff_24 : decode cX8_sniff 24 = .ok (.iload_n 1, 1) := dk_27 ((dQ_X8_sniff_1 8).trans dk_j8)
theorem dX8_sniff_25 : decode cX8_sniff 25 = .ok (.iload_n 2, 1) := dk_28 ((dQ_X8_sniff_1 9).trans dk_j9)
theorem dX8_sniff_26 : decode cX8_sniff 26 = .ok (.invokevirtual 345, 3) := dk_182 ((dQ_X8_sniff_1 10).trans dk_j10) ((dQ_X8_sniff_1 11).trans dk_j11) ((dQ_X8_sniff_1 12).trans dk_j12) dk_vu2_1_89
theorem dX8_sniff_29 : decode cX8_sniff 29 = .ok (.ifCond .ne 6, 3) := dk_154 ((dQ_X8_sniff_1 13).trans dk_j13) ((dQ_X8_sniff_1 14).trans dk_j14) ((dQ_X8_sniff_1 15).trans dk_j15) dk_vs2_0_6
theorem dX8_sniff_32 : decode cX8_sniff 32 = .ok (.bipush (-5), 2) := dk_16 ((dQ_X8_sniff_2 0).trans dk_j0) ((dQ_X8_sniff_2 1).trans dk_j1) dk_vs1_251
theorem dX8_sniff_34 : decode cX8_sniff 34 = .ok (.ireturn, 1) := dk_172 ((dQ_X8_sniff_2 2).trans dk_j2)
theorem dX8_sniff_35 : decode cX8_sniff 35 = .ok (.aload_n 0, 1) := dk_42 ((dQ_X8_sniff_2 3).trans dk_j3)
theorem dX8_sniff_36 : decode cX8_sniff 36 = .ok (.invokevirtual 97, 3) := dk_182 ((dQ_X8_sniff_2 4).trans dk_j4) ((dQ_X8_sniff_2 5).trans dk_j5) ((dQ_X8_sniff_2 6).trans dk_j6) dk_vu2_0_97
theorem dX8_sniff_39 : decode cX8_sniff 39 = .ok (.aload_n 0, 1) := dk_42 ((dQ_X8_sniff_2 7).trans dk_j7)
theorem dX8_sniff_40 : decode cX8_sniff 40 = .ok (.getfield 44, 3) := dk_180 ((dQ_X8_sniff_2 8).trans dk_j8) ((dQ_X8_sniff_2 9).trans dk_j9) ((dQ_X8_sniff_2 10).trans dk_j10) dk_vu2_0_44
theorem dX8_sniff_43 : decode cX8_sniff 43 = .ok (.getfield 131, 3) := dk_180 ((dQ_X8_sniff_2 11).trans dk_j11) ((dQ_X8_sniff_2 12).trans dk_j12) ((dQ_X8_sniff_2 13).trans dk_j13) dk_vu2_0_131
theorem dX8_sniff_46 : decode cX8_sniff 46 = .ok (.iload_n 1, 1) := dk_27 ((dQ_X8_sniff_2 14).trans dk_j14)
theorem dX8_sniff_47 : decode cX8_sniff 47 = .ok (.iaload, 1) := dk_46 ((dQ_X8_sniff_2 15).trans dk_j15)
theorem dX8_sniff_48 : decode cX8_sniff 48 = .ok (.iload_n 2, 1) := dk_28 ((dQ_X8_sniff_3 0).trans dk_j0)
theorem dX8_sniff_49 : decode cX8_sniff 49 = .ok (.invokestatic 170, 3) := dk_184 ((dQ_X8_sniff_3 1).trans dk_j1) ((dQ_X8_sniff_3 2).trans dk_j2) ((dQ_X8_sniff_3 3).trans dk_j3) dk_vu2_0_170
theorem dX8_sniff_52 : decode cX8_sniff 52 = .ok (.ifCond .eq 7, 3) := dk_153 ((dQ_X8_sniff_3 4).trans dk_j4) ((dQ_X8_sniff_3 5).trans dk_j5) ((dQ_X8_sniff_3 6).trans dk_j6) dk_vs2_0_7
theorem dX8_sniff_55 : decode cX8_sniff 55 = .ok (.iconst 1, 1) := dk_4 ((dQ_X8_sniff_3 7).trans dk_j7)
theorem dX8_sniff_56 : decode cX8_sniff 56 = .ok (.goto 4, 3) := dk_167 ((dQ_X8_sniff_3 8).trans dk_j8) ((dQ_X8_sniff_3 9).trans dk_j9) ((dQ_X8_sniff_3 10).trans dk_j10) dk_vs2_0_4
theorem dX8_sniff_59 : decode cX8_sniff 59 = .ok (.iconst 0, 1) := dk_3 ((dQ_X8_sniff_3 11).trans dk_j11)
theorem dX8_sniff_60 : decode cX8_sniff 60 = .ok (.ireturn, 1) := dk_172 ((dQ_X8_sniff_3 12).trans dk_j12)
def dT_X8_undo_3 : List UInt8 := (0x0a : UInt8) :: (0xb4 : UInt8) :: (0x00 : UInt8) :: (0x64 : UInt8) :: (0x10 : UInt8) :: (0x09 : UInt8) :: (0x2e : UInt8) :: (0xac : UInt8) :: []
def dT_X8_undo_2 : List UInt8 := (0x00 : UInt8) :: (0x64 : UInt8) :: (0x10 : UInt8) :: (0x09 : UInt8) :: (0x5c : UInt8) :: (0x2e : UInt8) :: (0x04 : UInt8) :: (0x64 : UInt8) :: (0x4f : UInt8) :: (0x2a : UInt8) :: (0xb6 : UInt8) :: (0x00 : UInt8) :: (0x61 : UInt8) :: (0x2a : UInt8) :: (0xb4 : UInt8) :: (0x00 : UInt8) :: dT_X8_undo_3
def dT_X8_undo_1 : List UInt8 := (0x64 : UInt8) :: (0x10 : UInt8) :: (0x09 : UInt8) :: (0x2e : UInt8) :: (0x04 : UInt8) :: (0xa2 : UInt8) :: (0x00 : UInt8) :: (0x06 : UInt8) :: (0x10 : UInt8) :: (0xfb : UInt8) :: (0xac : UInt8) :: (0x2a : UInt8) :: (0xb4 : UInt8) :: (0x00 : UInt8) :: (0x0a : UInt8) :: (0xb4 : UInt8) :: dT_X8_undo_2
def dT_X8_undo_0 : List UInt8 := (0x2a : UInt8) :: (0xb6 : UInt8) :: (0x00 : UInt8) :: (0x89 : UInt8) :: (0x9a : UInt8) :: (0x00 : UInt8) :: (0x06 : UInt8) :: (0x10 : UInt8) :: (0xfe : UInt8) :: (0xac : UInt8) :: (0x2a : UInt8) :: (0xb4 : UInt8) :: (0x00 : UInt8) :: (0x0a : UInt8) :: (0xb4 : UInt8) :: (0x00 : UInt8) :: dT_X8_undo_1
theorem dT_X8_undo : cX8_undo.data.toList = dT_X8_undo_0 := eq_of_beq (show (cX8_undo.data.toList == dT_X8_undo_0) = true by decide +kernel)
theorem dQ_X8_undo_0 : dQ_P cX8_undo 0 dT_X8_undo_0 := fun i => by rw [dT_X8_undo]; rfl
theorem dQ_X8_undo_1 : dQ_P cX8_undo 16 dT_X8_undo_1 := fun i => (dQ_X8_undo_0 (i + 16)).trans dk_t
theorem dQ_X8_undo_2 : dQ_P cX8_undo 32 dT_X8_undo_2 := fun i => (dQ_X8_undo_1 (i + 16)).trans dk_t
theorem dQ_X8_undo_3 : dQ_P cX8_undo 48 dT_X8_undo_3 := fun i => (dQ_X8_undo_2 (i + 16)).trans dk_t
theorem dX8_undo_0 : decode cX8_undo 0 = .ok (.aload_n 0, 1) := dk_42 ((dQ_X8_undo_0 0).trans dk_j0)
theorem dX8_undo_1 : decode cX8_undo 1 = .ok (.invokevirtual 137, 3) := dk_182 ((dQ_X8_undo_0 1).trans dk_j1) ((dQ_X8_undo_0 2).trans dk_j2) ((dQ_X8_undo_0 3).trans dk_j3) dk_vu2_0_137
theorem dX8_undo_4 : decode cX8_undo 4 = .ok (.ifCond .ne 6, 3) := dk_154 ((dQ_X8_undo_0 4).trans dk_j4) ((dQ_X8_undo_0 5).trans dk_j5) ((dQ_X8_undo_0 6).trans dk_j6) dk_vs2_0_6
theorem dX8_undo_7 : decode cX8_undo 7 = .ok (.bipush (-2), 2) := dk_16 ((dQ_X8_undo_0 7).trans dk_j7) ((dQ_X8_undo_0 8).trans dk_j8) dk_vs1_254
theorem dX8_undo_9 : decode cX8_undo 9 = .ok (.ireturn, 1) := dk_172 ((dQ_X8_undo_0 9).trans dk_j9)
theorem dX8_undo_10 : decode cX8_undo 10 = .ok (.aload_n 0, 1) := dk_42 ((dQ_X8_undo_0 10).trans dk_j10)
theorem dX8_undo_11 : decode cX8_undo 11 = .ok (.getfield 10, 3) := dk_180 ((dQ_X8_undo_0 11).trans dk_j11) ((dQ_X8_undo_0 12).trans dk_j12) ((dQ_X8_undo_0 13).trans dk_j13) dk_vu2_0_10
theorem dX8_undo_14 : decode cX8_undo 14 = .ok (.getfield 100, 3) := dk_180 ((dQ_X8_undo_0 14).trans dk_j14) ((dQ_X8_undo_0 15).trans dk_j15) ((dQ_X8_undo_1 0).trans dk_j0) dk_vu2_0_100
theorem dX8_undo_17 : decode cX8_undo 17 = .ok (.bipush 9, 2) := dk_16 ((dQ_X8_undo_1 1).trans dk_j1) ((dQ_X8_undo_1 2).trans dk_j2) dk_vs1_9
theorem dX8_undo_19 : decode cX8_undo 19 = .ok (.iaload, 1) := dk_46 ((dQ_X8_undo_1 3).trans dk_j3)
theorem dX8_undo_20 : decode cX8_undo 20 = .ok (.iconst 1, 1) := dk_4 ((dQ_X8_undo_1 4).trans dk_j4)
theorem dX8_undo_21 : decode cX8_undo 21 = .ok (.if_icmp .ge 6, 3) := dk_162 ((dQ_X8_undo_1 5).trans dk_j5) ((dQ_X8_undo_1 6).trans dk_j6) ((dQ_X8_undo_1 7).trans dk_j7) dk_vs2_0_6
theorem dX8_undo_24 : decode cX8_undo 24 = .ok (.bipush (-5), 2) := dk_16 ((dQ_X8_undo_1 8).trans dk_j8) ((dQ_X8_undo_1 9).trans dk_j9) dk_vs1_251
theorem dX8_undo_26 : decode cX8_undo 26 = .ok (.ireturn, 1) := dk_172 ((dQ_X8_undo_1 10).trans dk_j10)
theorem dX8_undo_27 : decode cX8_undo 27 = .ok (.aload_n 0, 1) := dk_42 ((dQ_X8_undo_1 11).trans dk_j11)
theorem dX8_undo_28 : decode cX8_undo 28 = .ok (.getfield 10, 3) := dk_180 ((dQ_X8_undo_1 12).trans dk_j12) ((dQ_X8_undo_1 13).trans dk_j13) ((dQ_X8_undo_1 14).trans dk_j14) dk_vu2_0_10
theorem dX8_undo_31 : decode cX8_undo 31 = .ok (.getfield 100, 3) := dk_180 ((dQ_X8_undo_1 15).trans dk_j15) ((dQ_X8_undo_2 0).trans dk_j0) ((dQ_X8_undo_2 1).trans dk_j1) dk_vu2_0_100
theorem dX8_undo_34 : decode cX8_undo 34 = .ok (.bipush 9, 2) := dk_16 ((dQ_X8_undo_2 2).trans dk_j2) ((dQ_X8_undo_2 3).trans dk_j3) dk_vs1_9
theorem dX8_undo_36 : decode cX8_undo 36 = .ok (.dup2, 1) := dk_92 ((dQ_X8_undo_2 4).trans dk_j4)
theorem dX8_undo_37 : decode cX8_undo 37 = .ok (.iaload, 1) := dk_46 ((dQ_X8_undo_2 5).trans dk_j5)
theorem dX8_undo_38 : decode cX8_undo 38 = .ok (.iconst 1, 1) := dk_4 ((dQ_X8_undo_2 6).trans dk_j6)
theorem dX8_undo_39 : decode cX8_undo 39 = .ok (.isub, 1) := dk_100 ((dQ_X8_undo_2 7).trans dk_j7)
theorem dX8_undo_40 : decode cX8_undo 40 = .ok (.iastore, 1) := dk_79 ((dQ_X8_undo_2 8).trans dk_j8)
theorem dX8_undo_41 : decode cX8_undo 41 = .ok (.aload_n 0, 1) := dk_42 ((dQ_X8_undo_2 9).trans dk_j9)
theorem dX8_undo_42 : decode cX8_undo 42 = .ok (.invokevirtual 97, 3) := dk_182 ((dQ_X8_undo_2 10).trans dk_j10) ((dQ_X8_undo_2 11).trans dk_j11) ((dQ_X8_undo_2 12).trans dk_j12) dk_vu2_0_97
theorem dX8_undo_45 : decode cX8_undo 45 = .ok (.aload_n 0, 1) := dk_42 ((dQ_X8_undo_2 13).trans dk_j13)
theorem dX8_undo_46 : decode cX8_undo 46 = .ok (.getfield 10, 3) := dk_180 ((dQ_X8_undo_2 14).trans dk_j14) ((dQ_X8_undo_2 15).trans dk_j15) ((dQ_X8_undo_3 0).trans dk_j0) dk_vu2_0_10
theorem dX8_undo_49 : decode cX8_undo 49 = .ok (.getfield 100, 3) := dk_180 ((dQ_X8_undo_3 1).trans dk_j1) ((dQ_X8_undo_3 2).trans dk_j2) ((dQ_X8_undo_3 3).trans dk_j3) dk_vu2_0_100
theorem dX8_undo_52 : decode cX8_undo 52 = .ok (.bipush 9, 2) := dk_16 ((dQ_X8_undo_3 4).trans dk_j4) ((dQ_X8_undo_3 5).trans dk_j5) dk_vs1_9
theorem dX8_undo_54 : decode cX8_undo 54 = .ok (.iaload, 1) := dk_46 ((dQ_X8_undo_3 6).trans dk_j6)
theorem dX8_undo_55 : decode cX8_undo 55 = .ok (.ireturn, 1) := dk_172 ((dQ_X8_undo_3 7).trans dk_j7)
def dT_X8_anew_2 : List UInt8 := (0x2a : UInt8) :: (0xb6 : UInt8) :: (0x00 : UInt8) :: (0x61 : UInt8) :: (0x1b : UInt8) :: (0xac : UInt8) :: []
def dT_X8_anew_1 : List UInt8 := (0x64 : UInt8) :: (0x10 : UInt8) :: (0x09 : UInt8) :: (0x2e : UInt8) :: (0x3c : UInt8) :: (0x2a : UInt8) :: (0xb4 : UInt8) :: (0x00 : UInt8) :: (0x0a : UInt8) :: (0xb4 : UInt8) :: (0x00 : UInt8) :: (0x64 : UInt8) :: (0x10 : UInt8) :: (0x09 : UInt8) :: (0x03 : UInt8) :: (0x4f : UInt8) :: dT_X8_anew_2
def dT_X8_anew_0 : List UInt8 := (0x2a : UInt8) :: (0xb6 : UInt8) :: (0x00 : UInt8) :: (0x89 : UInt8) :: (0x9a : UInt8) :: (0x00 : UInt8) :: (0x06 : UInt8) :: (0x10 : UInt8) :: (0xfe : UInt8) :: (0xac : UInt8) :: (0x2a : UInt8) :: (0xb4 : UInt8) :: (0x00 : UInt8) :: (0x0a : UInt8) :: (0xb4 : UInt8) :: (0x00 : UInt8) :: dT_X8_anew_1
theorem dT_X8_anew : cX8_anew.data.toList = dT_X8_anew_0 := eq_of_beq (show (cX8_anew.data.toList == dT_X8_anew_0) = true by decide +kernel)
theorem dQ_X8_anew_0 : dQ_P cX8_anew 0 dT_X8_anew_0 := fun i => by rw [dT_X8_anew]; rfl
theorem dQ_X8_anew_1 : dQ_P cX8_anew 16 dT_X8_anew_1 := fun i => (dQ_X8_anew_0 (i + 16)).trans dk_t
theorem dQ_X8_anew_2 : dQ_P cX8_anew 32 dT_X8_anew_2 := fun i => (dQ_X8_anew_1 (i + 16)).trans dk_t
theorem dX8_anew_0 : decode cX8_anew 0 = .ok (.aload_n 0, 1) := dk_42 ((dQ_X8_anew_0 0).trans dk_j0)
theorem dX8_anew_1 : decode cX8_anew 1 = .ok (.invokevirtual 137, 3) := dk_182 ((dQ_X8_anew_0 1).trans dk_j1) ((dQ_X8_anew_0 2).trans dk_j2) ((dQ_X8_anew_0 3).trans dk_j3) dk_vu2_0_137
theorem dX8_anew_4 : decode cX8_anew 4 = .ok (.ifCond .ne 6, 3) := dk_154 ((dQ_X8_anew_0 4).trans dk_j4) ((dQ_X8_anew_0 5).trans dk_j5) ((dQ_X8_anew_0 6).trans dk_j6) dk_vs2_0_6
theorem dX8_anew_7 : decode cX8_anew 7 = .ok (.bipush (-2), 2) := dk_16 ((dQ_X8_anew_0 7).trans dk_j7) ((dQ_X8_anew_0 8).trans dk_j8) dk_vs1_254
theorem dX8_anew_9 : decode cX8_anew 9 = .ok (.ireturn, 1) := dk_172 ((dQ_X8_anew_0 9).trans dk_j9)
theorem dX8_anew_10 : decode cX8_anew 10 = .ok (.aload_n 0, 1) := dk_42 ((dQ_X8_anew_0 10).trans dk_j10)
theorem dX8_anew_11 : decode cX8_anew 11 = .ok (.getfield 10, 3) := dk_180 ((dQ_X8_anew_0 11).trans dk_j11) ((dQ_X8_anew_0 12).trans dk_j12) ((dQ_X8_anew_0 13).trans dk_j13) dk_vu2_0_10
theorem dX8_anew_14 : decode cX8_anew 14 = .ok (.getfield 100, 3) := dk_180 ((dQ_X8_anew_0 14).trans dk_j14) ((dQ_X8_anew_0 15).trans dk_j15) ((dQ_X8_anew_1 0).trans dk_j0) dk_vu2_0_100
theorem dX8_anew_17 : decode cX8_anew 17 = .ok (.bipush 9, 2) := dk_16 ((dQ_X8_anew_1 1).trans dk_j1) ((dQ_X8_anew_1 2).trans dk_j2) dk_vs1_9
theorem dX8_anew_19 : decode cX8_anew 19 = .ok (.iaload, 1) := dk_46 ((dQ_X8_anew_1 3).trans dk_j3)
theorem dX8_anew_20 : decode cX8_anew 20 = .ok (.istore_n 1, 1) := dk_60 ((dQ_X8_anew_1 4).trans dk_j4)
theorem dX8_anew_21 : decode cX8_anew 21 = .ok (.aload_n 0, 1) := dk_42 ((dQ_X8_anew_1 5).trans dk_j5)
theorem dX8_anew_22 : decode cX8_anew 22 = .ok (.getfield 10, 3) := dk_180 ((dQ_X8_anew_1 6).trans dk_j6) ((dQ_X8_anew_1 7).trans dk_j7) ((dQ_X8_anew_1 8).trans dk_j8) dk_vu2_0_10
theorem dX8_anew_25 : decode cX8_anew 25 = .ok (.getfield 100, 3) := dk_180 ((dQ_X8_anew_1 9).trans dk_j9) ((dQ_X8_anew_1 10).trans dk_j10) ((dQ_X8_anew_1 11).trans dk_j11) dk_vu2_0_100
theorem dX8_anew_28 : decode cX8_anew 28 = .ok (.bipush 9, 2) := dk_16 ((dQ_X8_anew_1 12).trans dk_j12) ((dQ_X8_anew_1 13).trans dk_j13) dk_vs1_9
theorem dX8_anew_30 : decode cX8_anew 30 = .ok (.iconst 0, 1) := dk_3 ((dQ_X8_anew_1 14).trans dk_j14)
theorem dX8_anew_31 : decode cX8_anew 31 = .ok (.iastore, 1) := dk_79 ((dQ_X8_anew_1 15).trans dk_j15)
theorem dX8_anew_32 : decode cX8_anew 32 = .ok (.aload_n 0, 1) := dk_42 ((dQ_X8_anew_2 0).trans dk_j0)
theorem dX8_anew_33 : decode cX8_anew 33 = .ok (.invokevirtual 97, 3) := dk_182 ((dQ_X8_anew_2 1).trans dk_j1) ((dQ_X8_anew_2 2).trans dk_j2) ((dQ_X8_anew_2 3).trans dk_j3) dk_vu2_0_97
theorem dX8_anew_36 : decode cX8_anew 36 = .ok (.iload_n 1, 1) := dk_27 ((dQ_X8_anew_2 4).trans dk_j4)
theorem dX8_anew_37 : decode cX8_anew 37 = .ok (.ireturn, 1) := dk_172 ((dQ_X8_anew_2 5).trans dk_j5)
def dT_X8_rate_3 : List UInt8 := (0xb4 : UInt8) :: (0x00 : UInt8) :: (0x0a : UInt8) :: (0xb4 : UInt8) :: (0x01 : UInt8) :: (0x5d : UInt8) :: (0x08 : UInt8) :: (0x1b : UInt8) :: (0x68 : UInt8) :: (0x07 : UInt8) :: (0x60 : UInt8) :: (0x1c : UInt8) :: (0x4f : UInt8) :: (0x1d : UInt8) :: (0xac : UInt8) :: []
def dT_X8_rate_2 : List UInt8 := (0x00 : UInt8) :: (0x06 : UInt8) :: (0x10 : UInt8) :: (0xfb : UInt8) :: (0xac : UInt8) :: (0x2a : UInt8) :: (0xb4 : UInt8) :: (0x00 : UInt8) :: (0x0a : UInt8) :: (0x1b : UInt8) :: (0x07 : UInt8) :: (0xb6 : UInt8) :: (0x00 : UInt8) :: (0x75 : UInt8) :: (0x3e : UInt8) :: (0x2a : UInt8) :: dT_X8_rate_3
def dT_X8_rate_1 : List UInt8 := (0x00 : UInt8) :: (0x06 : UInt8) :: (0x10 : UInt8) :: (0xfe : UInt8) :: (0xac : UInt8) :: (0x2a : UInt8) :: (0xb4 : UInt8) :: (0x00 : UInt8) :: (0x0a : UInt8) :: (0xb4 : UInt8) :: (0x00 : UInt8) :: (0x64 : UInt8) :: (0x10 : UInt8) :: (0x09 : UInt8) :: (0x2e : UInt8) :: (0x9e : UInt8) :: dT_X8_rate_2
def dT_X8_rate_0 : List UInt8 := (0x2a : UInt8) :: (0x1b : UInt8) :: (0xb6 : UInt8) :: (0x00 : UInt8) :: (0x72 : UInt8) :: (0x99 : UInt8) :: (0x00 : UInt8) :: (0x0d : UInt8) :: (0x1c : UInt8) :: (0x9b : UInt8) :: (0x00 : UInt8) :: (0x09 : UInt8) :: (0x1c : UInt8) :: (0x10 : UInt8) :: (0x63 : UInt8) :: (0xa4 : UInt8) :: dT_X8_rate_1
theorem dT_X8_rate : cX8_rate.data.toList = dT_X8_rate_0 := eq_of_beq (show (cX8_rate.data.toList == dT_X8_rate_0) = true by decide +kernel)
theorem dQ_X8_rate_0 : dQ_P cX8_rate 0 dT_X8_rate_0 := fun i => by rw [dT_X8_rate]; rfl
theorem dQ_X8_rate_1 : dQ_P cX8_rate 16 dT_X8_rate_1 := fun i => (dQ_X8_rate_0 (i + 16)).trans dk_t
theorem dQ_X8_rate_2 : dQ_P cX8_rate 32 dT_X8_rate_2 := fun i => (dQ_X8_rate_1 (i + 16)).trans dk_t
theorem dQ_X8_rate_3 : dQ_P cX8_rate 48 dT_X8_rate_3 := fun i => (dQ_X8_rate_2 (i + 16)).trans dk_t
theorem dX8_rate_0 : decode cX8_rate 0 = .ok (.aload_n 0, 1) := dk_42 ((dQ_X8_rate_0 0).trans dk_j0)
theorem dX8_rate_1 : decode cX8_rate 1 = .ok (.iload_n 1, 1) := dk_27 ((dQ_X8_rate_0 1).trans dk_j1)
theorem dX8_rate_2 : decode cX8_rate 2 = .ok (.invokevirtual 114, 3) := dk_182 ((dQ_X8_rate_0 2).trans dk_j2) ((dQ_X8_rate_0 3).trans dk_j3) ((dQ_X8_rate_0 4).trans dk_j4) dk_vu2_0_114
theorem dX8_rate_5 : decode cX8_rate 5 = .ok (.ifCond .eq 13, 3) := dk_153 ((dQ_X8_rate_0 5).trans dk_j5) ((dQ_X8_rate_0 6).trans dk_j6) ((dQ_X8_rate_0 7).trans dk_j7) dk_vs2_0_13
theorem dX8_rate_8 : decode cX8_rate 8 = .ok (.iload_n 2, 1) := dk_28 ((dQ_X8_rate_0 8).trans dk_j8)
theorem dX8_rate_9 : decode cX8_rate 9 = .ok (.ifCond .lt 9, 3) := dk_155 ((dQ_X8_rate_0 9).trans dk_j9) ((dQ_X8_rate_0 10).trans dk_j10) ((dQ_X8_rate_0 11).trans dk_j11) dk_vs2_0_9
theorem dX8_rate_12 : decode cX8_rate 12 = .ok (.iload_n 2, 1) := dk_28 ((dQ_X8_rate_0 12).trans dk_j12)
theorem dX8_rate_13 : decode cX8_rate 13 = .ok (.bipush 99, 2) := dk_16 ((dQ_X8_rate_0 13).trans dk_j13) ((dQ_X8_rate_0 14).trans dk_j14) dk_vs1_99
theorem dX8_rate_15 : decode cX8_rate 15 = .ok (.if_icmp .le 6, 3) := dk_164 ((dQ_X8_rate_0 15).trans dk_j15) ((dQ_X8_rate_1 0).trans dk_j0) ((dQ_X8_rate_1 1).trans dk_j1) dk_vs2_0_6
theorem dX8_rate_18 : decode cX8_rate 18 = .ok (.bipush (-2), 2) := dk_16 ((dQ_X8_rate_1 2).trans dk_j2) ((dQ_X8_rate_1 3).trans dk_j3) dk_vs1_254
theorem dX8_rate_20 : decode cX8_rate 20 = .ok (.ireturn, 1) := dk_172 ((dQ_X8_rate_1 4).trans dk_j4)
theorem dX8_rate_21 : decode cX8_rate 21 = .ok (.aload_n 0, 1) := dk_42 ((dQ_X8_rate_1 5).trans dk_j5)
theorem dX8_rate_22 : decode cX8_rate 22 = .ok (.getfield 10, 3) := dk_180 ((dQ_X8_rate_1 6).trans dk_j6) ((dQ_X8_rate_1 7).trans dk_j7) ((dQ_X8_rate_1 8).trans dk_j8) dk_vu2_0_10
theorem dX8_rate_25 : decode cX8_rate 25 = .ok (.getfield 100, 3) := dk_180 ((dQ_X8_rate_1 9).trans dk_j9) ((dQ_X8_rate_1 10).trans dk_j10) ((dQ_X8_rate_1 11).trans dk_j11) dk_vu2_0_100
theorem dX8_rate_28 : decode cX8_rate 28 = .ok (.bipush 9, 2) := dk_16 ((dQ_X8_rate_1 12).trans dk_j12) ((dQ_X8_rate_1 13).trans dk_j13) dk_vs1_9
theorem dX8_rate_30 : decode cX8_rate 30 = .ok (.iaload, 1) := dk_46 ((dQ_X8_rate_1 14).trans dk_j14)
theorem dX8_rate_31 : decode cX8_rate 31 = .ok (.ifCond .le 6, 3) := dk_158 ((dQ_X8_rate_1 15).trans dk_j15) ((dQ_X8_rate_2 0).trans dk_j0) ((dQ_X8_rate_2 1).trans dk_j1) dk_vs2_0_6
theorem dX8_rate_34 : decode cX8_rate 34 = .ok (.bipush (-5), 2) := dk_16 ((dQ_X8_rate_2 2).trans dk_j2) ((dQ_X8_rate_2 3).trans dk_j3) dk_vs1_251
theorem dX8_rate_36 : decode cX8_rate 36 = .ok (.ireturn, 1) := dk_172 ((dQ_X8_rate_2 4).trans dk_j4)
theorem dX8_rate_37 : decode cX8_rate 37 = .ok (.aload_n 0, 1) := dk_42 ((dQ_X8_rate_2 5).trans dk_j5)
theorem dX8_rate_38 : decode cX8_rate 38 = .ok (.getfield 10, 3) := dk_180 ((dQ_X8_rate_2 6).trans dk_j6) ((dQ_X8_rate_2 7).trans dk_j7) ((dQ_X8_rate_2 8).trans dk_j8) dk_vu2_0_10
theorem dX8_rate_41 : decode cX8_rate 41 = .ok (.iload_n 1, 1) := dk_27 ((dQ_X8_rate_2 9).trans dk_j9)
theorem dX8_rate_42 : decode cX8_rate 42 = .ok (.iconst 4, 1) := dk_7 ((dQ_X8_rate_2 10).trans dk_j10)
theorem dX8_rate_43 : decode cX8_rate 43 = .ok (.invokevirtual 117, 3) := dk_182 ((dQ_X8_rate_2 11).trans dk_j11) ((dQ_X8_rate_2 12).trans dk_j12) ((dQ_X8_rate_2 13).trans dk_j13) dk_vu2_0_117
theorem dX8_rate_46 : decode cX8_rate 46 = .ok (.istore_n 3, 1) := dk_62 ((dQ_X8_rate_2 14).trans dk_j14)
theorem dX8_rate_47 : decode cX8_rate 47 = .ok (.aload_n 0, 1) := dk_42 ((dQ_X8_rate_2 15).trans dk_j15)
theorem dX8_rate_48 : decode cX8_rate 48 = .ok (.getfield 10, 3) := dk_180 ((dQ_X8_rate_3 0).trans dk_j0) ((dQ_X8_rate_3 1).trans dk_j1) ((dQ_X8_rate_3 2).trans dk_j2) dk_vu2_0_10
theorem dk_vu2_1_93 : (0x01 : UInt8).toNat * 256 + (0x5d : UInt8).toNat = (349 : Nat) := by decide +kernel
theorem dX8_rate_51 : decode cX8_rate 51 = .ok (.getfield 349, 3) := dk_180 ((dQ_X8_rate_3 3).trans dk_j3) ((dQ_X8_rate_3 4).trans dk_j4) ((dQ_X8_rate_3 5).trans dk_j5) dk_vu2_1_93
theorem dX8_rate_54 : decode cX8_rate 54 = .ok (.iconst 5, 1) := dk_8 ((dQ_X8_rate_3 6).trans dk_j6)
theorem dX8_rate_55 : decode cX8_rate 55 = .ok (.iload_n 1, 1) := dk_27 ((dQ_X8_rate_3 7).trans dk_j7)
theorem dX8_rate_56 : decode cX8_rate 56 = .ok (.imul, 1) := dk_104 ((dQ_X8_rate_3 8).trans dk_j8)
theorem dX8_rate_57 : decode cX8_rate 57 = .ok (.iconst 4, 1) := dk_7 ((dQ_X8_rate_3 9).trans dk_j9)
theorem dX8_rate_58 : decode cX8_rate 58 = .ok (.iadd, 1) := dk_96 ((dQ_X8_rate_3 10).trans dk_j10)
theorem dX8_rate_59 : decode cX8_rate 59 = .ok (.iload_n 2, 1) := dk_28 ((dQ_X8_rate_3 11).trans dk_j11)
theorem dX8_rate_60 : decode cX8_rate 60 = .ok (.iastore, 1) := dk_79 ((dQ_X8_rate_3 12).trans dk_j12)
theorem dX8_rate_61 : decode cX8_rate 61 = .ok (.iload_n 3, 1) := dk_29 ((dQ_X8_rate_3 13).trans dk_j13)
theorem dX8_rate_62 : decode cX8_rate 62 = .ok (.ireturn, 1) := dk_172 ((dQ_X8_rate_3 14).trans dk_j14)
def dT_X8_count_3 : List UInt8 := (0x64 : UInt8) :: (0x1b : UInt8) :: (0x2e : UInt8) :: (0xac : UInt8) :: []
def dT_X8_count_2 : List UInt8 := (0x1b : UInt8) :: (0x10 : UInt8) :: (0x0b : UInt8) :: (0xa1 : UInt8) :: (0x00 : UInt8) :: (0x07 : UInt8) :: (0x02 : UInt8) :: (0xa7 : UInt8) :: (0x00 : UInt8) :: (0x0c : UInt8) :: (0x2a : UInt8) :: (0xb4 : UInt8) :: (0x00 : UInt8) :: (0x0a : UInt8) :: (0xb4 : UInt8) :: (0x00 : UInt8) :: dT_X8_count_3
def dT_X8_count_1 : List UInt8 := (0x0c : UInt8) :: (0xa0 : UInt8) :: (0x00 : UInt8) :: (0x0b : UInt8) :: (0x2a : UInt8) :: (0xb4 : UInt8) :: (0x00 : UInt8) :: (0x25 : UInt8) :: (0xb6 : UInt8) :: (0x01 : UInt8) :: (0x5f : UInt8) :: (0xac : UInt8) :: (0x1b : UInt8) :: (0x9b : UInt8) :: (0x00 : UInt8) :: (0x09 : UInt8) :: dT_X8_count_2
def dT_X8_count_0 : List UInt8 := (0x1b : UInt8) :: (0x10 : UInt8) :: (0x0b : UInt8) :: (0xa0 : UInt8) :: (0x00 : UInt8) :: (0x0b : UInt8) :: (0x2a : UInt8) :: (0xb4 : UInt8) :: (0x00 : UInt8) :: (0x1e : UInt8) :: (0xb4 : UInt8) :: (0x00 : UInt8) :: (0x4f : UInt8) :: (0xac : UInt8) :: (0x1b : UInt8) :: (0x10 : UInt8) :: dT_X8_count_1
theorem dT_X8_count : cX8_count.data.toList = dT_X8_count_0 := eq_of_beq (show (cX8_count.data.toList == dT_X8_count_0) = true by decide +kernel)
theorem dQ_X8_count_0 : dQ_P cX8_count 0 dT_X8_count_0 := fun i => by rw [dT_X8_count]; rfl
theorem dQ_X8_count_1 : dQ_P cX8_count 16 dT_X8_count_1 := fun i => (dQ_X8_count_0 (i + 16)).trans dk_t
theorem dQ_X8_count_2 : dQ_P cX8_count 32 dT_X8_count_2 := fun i => (dQ_X8_count_1 (i + 16)).trans dk_t
theorem dQ_X8_count_3 : dQ_P cX8_count 48 dT_X8_count_3 := fun i => (dQ_X8_count_2 (i + 16)).trans dk_t
theorem dX8_count_0 : decode cX8_count 0 = .ok (.iload_n 1, 1) := dk_27 ((dQ_X8_count_0 0).trans dk_j0)
theorem dX8_count_1 : decode cX8_count 1 = .ok (.bipush 11, 2) := dk_16 ((dQ_X8_count_0 1).trans dk_j1) ((dQ_X8_count_0 2).trans dk_j2) dk_vs1_11
theorem dX8_count_3 : decode cX8_count 3 = .ok (.if_icmp .ne 11, 3) := dk_160 ((dQ_X8_count_0 3).trans dk_j3) ((dQ_X8_count_0 4).trans dk_j4) ((dQ_X8_count_0 5).trans dk_j5) dk_vs2_0_11
theorem dX8_count_6 : decode cX8_count 6 = .ok (.aload_n 0, 1) := dk_42 ((dQ_X8_count_0 6).trans dk_j6)
theorem dX8_count_7 : decode cX8_count 7 = .ok (.getfield 30, 3) := dk_180 ((dQ_X8_count_0 7).trans dk_j7) ((dQ_X8_count_0 8).trans dk_j8) ((dQ_X8_count_0 9).trans dk_j9) dk_vu2_0_30
theorem dX8_count_10 : decode cX8_count 10 = .ok (.getfield 79, 3) := dk_180 ((dQ_X8_count_0 10).trans dk_j10) ((dQ_X8_count_0 11).trans dk_j11) ((dQ_X8_count_0 12).trans dk_j12) dk_vu2_0_79
theorem dX8_count_13 : decode cX8_count 13 = .ok (.ireturn, 1) := dk_172 ((dQ_X8_count_0 13).trans dk_j13)
theorem dX8_count_14 : decode cX8_count 14 = .ok (.iload_n 1, 1) := dk_27 ((dQ_X8_count_0 14).trans dk_j14)
theorem dX8_count_15 : decode cX8_count 15 = .ok (.bipush 12, 2) := dk_16 ((dQ_X8_count_0 15).trans dk_j15) ((dQ_X8_count_1 0).trans dk_j0) dk_vs1_12
theorem dX8_count_17 : decode cX8_count 17 = .ok (.if_icmp .ne 11, 3) := dk_160 ((dQ_X8_count_1 1).trans dk_j1) ((dQ_X8_count_1 2).trans dk_j2) ((dQ_X8_count_1 3).trans dk_j3) dk_vs2_0_11
theorem dX8_count_20 : decode cX8_count 20 = .ok (.aload_n 0, 1) := dk_42 ((dQ_X8_count_1 4).trans dk_j4)
theorem dX8_count_21 : decode cX8_count 21 = .ok (.getfield 37, 3) := dk_180 ((dQ_X8_count_1 5).trans dk_j5) ((dQ_X8_count_1 6).trans dk_j6) ((dQ_X8_count_1 7).trans dk_j7) dk_vu2_0_37
theorem dk_vu2_1_95 : (0x01 : UInt8).toNat * 256 + (0x5f : UInt8).toNat = (351 : Nat) := by decide +kernel
theorem dX8_count_24 : decode cX8_count 24 = .ok (.invokevirtual 351, 3) := dk_182 ((dQ_X8_count_1 8).trans dk_j8) ((dQ_X8_count_1 9).trans dk_j9) ((dQ_X8_count_1 10).trans dk_j10) dk_vu2_1_95
theorem dX8_count_27 : decode cX8_count 27 = .ok (.ireturn, 1) := dk_172 ((dQ_X8_count_1 11).trans dk_j11)
theorem dX8_count_28 : decode cX8_count 28 = .ok (.iload_n 1, 1) := dk_27 ((dQ_X8_count_1 12).trans dk_j12)
theorem dX8_count_29 : decode cX8_count 29 = .ok (.ifCond .lt 9, 3) := dk_155 ((dQ_X8_count_1 13).trans dk_j13) ((dQ_X8_count_1 14).trans dk_j14) ((dQ_X8_count_1 15).trans dk_j15) dk_vs2_0_9
theorem dX8_count_32 : decode cX8_count 32 = .ok (.iload_n 1, 1) := dk_27 ((dQ_X8_count_2 0).trans dk_j0)
theorem dX8_count_33 : decode cX8_count 33 = .ok (.bipush 11, 2) := dk_16 ((dQ_X8_count_2 1).trans dk_j1) ((dQ_X8_count_2 2).trans dk_j2) dk_vs1_11
theorem dX8_count_35 : decode cX8_count 35 = .ok (.if_icmp .lt 7, 3) := dk_161 ((dQ_X8_count_2 3).trans dk_j3) ((dQ_X8_count_2 4).trans dk_j4) ((dQ_X8_count_2 5).trans dk_j5) dk_vs2_0_7
theorem dX8_count_38 : decode cX8_count 38 = .ok (.iconst (-1), 1) := dk_2 ((dQ_X8_count_2 6).trans dk_j6)
theorem dX8_count_39 : decode cX8_count 39 = .ok (.goto 12, 3) := dk_167 ((dQ_X8_count_2 7).trans dk_j7) ((dQ_X8_count_2 8).trans dk_j8) ((dQ_X8_count_2 9).trans dk_j9) dk_vs2_0_12
theorem dX8_count_42 : decode cX8_count 42 = .ok (.aload_n 0, 1) := dk_42 ((dQ_X8_count_2 10).trans dk_j10)
theorem dX8_count_43 : decode cX8_count 43 = .ok (.getfield 10, 3) := dk_180 ((dQ_X8_count_2 11).trans dk_j11) ((dQ_X8_count_2 12).trans dk_j12) ((dQ_X8_count_2 13).trans dk_j13) dk_vu2_0_10
theorem dX8_count_46 : decode cX8_count 46 = .ok (.getfield 100, 3) := dk_180 ((dQ_X8_count_2 14).trans dk_j14) ((dQ_X8_count_2 15).trans dk_j15) ((dQ_X8_count_3 0).trans dk_j0) dk_vu2_0_100
theorem dX8_count_49 : decode cX8_count 49 = .ok (.iload_n 1, 1) := dk_27 ((dQ_X8_count_3 1).trans dk_j1)
theorem dX8_count_50 : decode cX8_count 50 = .ok (.iaload, 1) := dk_46 ((dQ_X8_count_3 2).trans dk_j2)
theorem dX8_count_51 : decode cX8_count 51 = .ok (.ireturn, 1) := dk_172 ((dQ_X8_count_3 3).trans dk_j3)
def dT_X8_image_2 : List UInt8 := (0x03 : UInt8) :: (0xac : UInt8) :: []
def dT_X8_image_1 : List UInt8 := (0x1b : UInt8) :: (0x32 : UInt8) :: (0x2a : UInt8) :: (0xb4 : UInt8) :: (0x00 : UInt8) :: (0x0a : UInt8) :: (0xb6 : UInt8) :: (0x00 : UInt8) :: (0x5e : UInt8) :: (0x2a : UInt8) :: (0xb4 : UInt8) :: (0x00 : UInt8) :: (0x17 : UInt8) :: (0x1b : UInt8) :: (0x04 : UInt8) :: (0x54 : UInt8) :: dT_X8_image_2
def dT_X8_image_0 : List UInt8 := (0x1b : UInt8) :: (0x9b : UInt8) :: (0x00 : UInt8) :: (0x08 : UInt8) :: (0x1b : UInt8) :: (0x06 : UInt8) :: (0xa1 : UInt8) :: (0x00 : UInt8) :: (0x06 : UInt8) :: (0x10 : UInt8) :: (0xfe : UInt8) :: (0xac : UInt8) :: (0x2a : UInt8) :: (0xb4 : UInt8) :: (0x00 : UInt8) :: (0x13 : UInt8) :: dT_X8_image_1
theorem dT_X8_image : cX8_image.data.toList = dT_X8_image_0 := eq_of_beq (show (cX8_image.data.toList == dT_X8_image_0) = true by decide +kernel)
theorem dQ_X8_image_0 : dQ_P cX8_image 0 dT_X8_image_0 := fun i => by rw [dT_X8_image]; rfl
theorem dQ_X8_image_1 : dQ_P cX8_image 16 dT_X8_image_1 := fun i => (dQ_X8_image_0 (i + 16)).trans dk_t
theorem dQ_X8_image_2 : dQ_P cX8_image 32 dT_X8_image_2 := fun i => (dQ_X8_image_1 (i + 16)).trans dk_t
theorem dX8_image_0 : decode cX8_image 0 = .ok (.iload_n 1, 1) := dk_27 ((dQ_X8_image_0 0).trans dk_j0)
theorem dX8_image_1 : decode cX8_image 1 = .ok (.ifCond .lt 8, 3) := dk_155 ((dQ_X8_image_0 1).trans dk_j1) ((dQ_X8_image_0 2).trans dk_j2) ((dQ_X8_image_0 3).trans dk_j3) dk_vs2_0_8
theorem dX8_image_4 : decode cX8_image 4 = .ok (.iload_n 1, 1) := dk_27 ((dQ_X8_image_0 4).trans dk_j4)
theorem dX8_image_5 : decode cX8_image 5 = .ok (.iconst 3, 1) := dk_6 ((dQ_X8_image_0 5).trans dk_j5)
theorem dX8_image_6 : decode cX8_image 6 = .ok (.if_icmp .lt 6, 3) := dk_161 ((dQ_X8_image_0 6).trans dk_j6) ((dQ_X8_image_0 7).trans dk_j7) ((dQ_X8_image_0 8).trans dk_j8) dk_vs2_0_6
theorem dX8_image_9 : decode cX8_image 9 = .ok (.bipush (-2), 2) := dk_16 ((dQ_X8_image_0 9).trans dk_j9) ((dQ_X8_image_0 10).trans dk_j10) dk_vs1_254
theorem dX8_image_11 : decode cX8_image 11 = .ok (.ireturn, 1) := dk_172 ((dQ_X8_image_0 11).trans dk_j11)
theorem dX8_image_12 : decode cX8_image 12 = .ok (.aload_n 0, 1) := dk_42 ((dQ_X8_image_0 12).trans dk_j12)
theorem dX8_image_13 : decode cX8_image 13 = .ok (.getfield 19, 3) := dk_180 ((dQ_X8_image_0 13).trans dk_j13) ((dQ_X8_image_0 14).trans dk_j14) ((dQ_X8_image_0 15).trans dk_j15) dk_vu2_0_19
theorem dX8_image_16 : decode cX8_image 16 = .ok (.iload_n 1, 1) := dk_27 ((dQ_X8_image_1 0).trans dk_j0)
theorem dX8_image_17 : decode cX8_image 17 = .ok (.aaload, 1) := dk_50 ((dQ_X8_image_1 1).trans dk_j1)
theorem dX8_image_18 : decode cX8_image 18 = .ok (.aload_n 0, 1) := dk_42 ((dQ_X8_image_1 2).trans dk_j2)
theorem dX8_image_19 : decode cX8_image 19 = .ok (.getfield 10, 3) := dk_180 ((dQ_X8_image_1 3).trans dk_j3) ((dQ_X8_image_1 4).trans dk_j4) ((dQ_X8_image_1 5).trans dk_j5) dk_vu2_0_10
theorem dX8_image_22 : decode cX8_image 22 = .ok (.invokevirtual 94, 3) := dk_182 ((dQ_X8_image_1 6).trans dk_j6) ((dQ_X8_image_1 7).trans dk_j7) ((dQ_X8_image_1 8).trans dk_j8) dk_vu2_0_94
theorem dX8_image_25 : decode cX8_image 25 = .ok (.aload_n 0, 1) := dk_42 ((dQ_X8_image_1 9).trans dk_j9)
theorem dX8_image_26 : decode cX8_image 26 = .ok (.getfield 23, 3) := dk_180 ((dQ_X8_image_1 10).trans dk_j10) ((dQ_X8_image_1 11).trans dk_j11) ((dQ_X8_image_1 12).trans dk_j12) dk_vu2_0_23
theorem dX8_image_29 : decode cX8_image 29 = .ok (.iload_n 1, 1) := dk_27 ((dQ_X8_image_1 13).trans dk_j13)
theorem dX8_image_30 : decode cX8_image 30 = .ok (.iconst 1, 1) := dk_4 ((dQ_X8_image_1 14).trans dk_j14)
theorem dX8_image_31 : decode cX8_image 31 = .ok (.bastore, 1) := dk_84 ((dQ_X8_image_1 15).trans dk_j15)
theorem dX8_image_32 : decode cX8_image 32 = .ok (.iconst 0, 1) := dk_3 ((dQ_X8_image_2 0).trans dk_j0)
theorem dX8_image_33 : decode cX8_image 33 = .ok (.ireturn, 1) := dk_172 ((dQ_X8_image_2 1).trans dk_j1)
def dT_X8_back_2 : List UInt8 := (0x1b : UInt8) :: (0x32 : UInt8) :: (0xb6 : UInt8) :: (0x00 : UInt8) :: (0x5e : UInt8) :: (0x2a : UInt8) :: (0xb6 : UInt8) :: (0x00 : UInt8) :: (0x61 : UInt8) :: (0x03 : UInt8) :: (0xac : UInt8) :: []
def dT_X8_back_1 : List UInt8 := (0x1b : UInt8) :: (0x33 : UInt8) :: (0x9a : UInt8) :: (0x00 : UInt8) :: (0x06 : UInt8) :: (0x10 : UInt8) :: (0xfa : UInt8) :: (0xac : UInt8) :: (0x2a : UInt8) :: (0xb4 : UInt8) :: (0x00 : UInt8) :: (0x0a : UInt8) :: (0x2a : UInt8) :: (0xb4 : UInt8) :: (0x00 : UInt8) :: (0x13 : UInt8) :: dT_X8_back_2
def dT_X8_back_0 : List UInt8 := (0x1b : UInt8) :: (0x9b : UInt8) :: (0x00 : UInt8) :: (0x08 : UInt8) :: (0x1b : UInt8) :: (0x06 : UInt8) :: (0xa1 : UInt8) :: (0x00 : UInt8) :: (0x06 : UInt8) :: (0x10 : UInt8) :: (0xfe : UInt8) :: (0xac : UInt8) :: (0x2a : UInt8) :: (0xb4 : UInt8) :: (0x00 : UInt8) :: (0x17 : UInt8) :: dT_X8_back_1
theorem dT_X8_back : cX8_back.data.toList = dT_X8_back_0 := eq_of_beq (show (cX8_back.data.toList == dT_X8_back_0) = true by decide +kernel)
theorem dQ_X8_back_0 : dQ_P cX8_back 0 dT_X8_back_0 := fun i => by rw [dT_X8_back]; rfl
theorem dQ_X8_back_1 : dQ_P cX8_back 16 dT_X8_back_1 := fun i => (dQ_X8_back_0 (i + 16)).trans dk_t
theorem dQ_X8_back_2 : dQ_P cX8_back 32 dT_X8_back_2 := fun i => (dQ_X8_back_1 (i + 16)).trans dk_t
theorem dX8_back_0 : decode cX8_back 0 = .ok (.iload_n 1, 1) := dk_27 ((dQ_X8_back_0 0).trans dk_j0)
theorem dX8_back_1 : decode cX8_back 1 = .ok (.ifCond .lt 8, 3) := dk_155 ((dQ_X8_back_0 1).trans dk_j1) ((dQ_X8_back_0 2).trans dk_j2) ((dQ_X8_back_0 3).trans dk_j3) dk_vs2_0_8
theorem dX8_back_4 : decode cX8_back 4 = .ok (.iload_n 1, 1) := dk_27 ((dQ_X8_back_0 4).trans dk_j4)
theorem dX8_back_5 : decode cX8_back 5 = .ok (.iconst 3, 1) := dk_6 ((dQ_X8_back_0 5).trans dk_j5)
theorem dX8_back_6 : decode cX8_back 6 = .ok (.if_icmp .lt 6, 3) := dk_161 ((dQ_X8_back_0 6).trans dk_j6) ((dQ_X8_back_0 7).trans dk_j7) ((dQ_X8_back_0 8).trans dk_j8) dk_vs2_0_6
theorem dX8_back_9 : decode cX8_back 9 = .ok (.bipush (-2), 2) := dk_16 ((dQ_X8_back_0 9).trans dk_j9) ((dQ_X8_back_0 10).trans dk_j10) dk_vs1_254
theorem dX8_back_11 : decode cX8_back 11 = .ok (.ireturn, 1) := dk_172 ((dQ_X8_back_0 11).trans dk_j11)
theorem dX8_back_12 : decode cX8_back 12 = .ok (.aload_n 0, 1) := dk_42 ((dQ_X8_back_0 12).trans dk_j12)
theorem dX8_back_13 : decode cX8_back 13 = .ok (.getfield 23, 3) := dk_180 ((dQ_X8_back_0 13).trans dk_j13) ((dQ_X8_back_0 14).trans dk_j14) ((dQ_X8_back_0 15).trans dk_j15) dk_vu2_0_23
theorem dX8_back_16 : decode cX8_back 16 = .ok (.iload_n 1, 1) := dk_27 ((dQ_X8_back_1 0).trans dk_j0)
theorem dX8_back_17 : decode cX8_back 17 = .ok (.baload, 1) := dk_51 ((dQ_X8_back_1 1).trans dk_j1)
theorem dX8_back_18 : decode cX8_back 18 = .ok (.ifCond .ne 6, 3) := dk_154 ((dQ_X8_back_1 2).trans dk_j2) ((dQ_X8_back_1 3).trans dk_j3) ((dQ_X8_back_1 4).trans dk_j4) dk_vs2_0_6
theorem dX8_back_21 : decode cX8_back 21 = .ok (.bipush (-6), 2) := dk_16 ((dQ_X8_back_1 5).trans dk_j5) ((dQ_X8_back_1 6).trans dk_j6) dk_vs1_250
theorem dX8_back_23 : decode cX8_back 23 = .ok (.ireturn, 1) := dk_172 ((dQ_X8_back_1 7).trans dk_j7)
theorem dX8_back_24 : decode cX8_back 24 = .ok (.aload_n 0, 1) := dk_42 ((dQ_X8_back_1 8).trans dk_j8)
theorem dX8_back_25 : decode cX8_back 25 = .ok (.getfield 10, 3) := dk_180 ((dQ_X8_back_1 9).trans dk_j9) ((dQ_X8_back_1 10).trans dk_j10) ((dQ_X8_back_1 11).trans dk_j11) dk_vu2_0_10
theorem dX8_back_28 : decode cX8_back 28 = .ok (.aload_n 0, 1) := dk_42 ((dQ_X8_back_1 12).trans dk_j12)
theorem dX8_back_29 : decode cX8_back 29 = .ok (.getfield 19, 3) := dk_180 ((dQ_X8_back_1 13).trans dk_j13) ((dQ_X8_back_1 14).trans dk_j14) ((dQ_X8_back_1 15).trans dk_j15) dk_vu2_0_19
theorem dX8_back_32 : decode cX8_back 32 = .ok (.iload_n 1, 1) := dk_27 ((dQ_X8_back_2 0).trans dk_j0)
theorem dX8_back_33 : decode cX8_back 33 = .ok (.aaload, 1) := dk_50 ((dQ_X8_back_2 1).trans dk_j1)
theorem dX8_back_34 : decode cX8_back 34 = .ok (.invokevirtual 94, 3) := dk_182 ((dQ_X8_back_2 2).trans dk_j2) ((dQ_X8_back_2 3).trans dk_j3) ((dQ_X8_back_2 4).trans dk_j4) dk_vu2_0_94
theorem dX8_back_37 : decode cX8_back 37 = .ok (.aload_n 0, 1) := dk_42 ((dQ_X8_back_2 5).trans dk_j5)
theorem dX8_back_38 : decode cX8_back 38 = .ok (.invokevirtual 97, 3) := dk_182 ((dQ_X8_back_2 6).trans dk_j6) ((dQ_X8_back_2 7).trans dk_j7) ((dQ_X8_back_2 8).trans dk_j8) dk_vu2_0_97
theorem dX8_back_41 : decode cX8_back 41 = .ok (.iconst 0, 1) := dk_3 ((dQ_X8_back_2 9).trans dk_j9)
theorem dX8_back_42 : decode cX8_back 42 = .ok (.ireturn, 1) := dk_172 ((dQ_X8_back_2 10).trans dk_j10)
def dT_X8_row_2 : List UInt8 := (0x2a : UInt8) :: (0xb4 : UInt8) :: (0x00 : UInt8) :: (0x25 : UInt8) :: (0x1b : UInt8) :: (0x1c : UInt8) :: (0x1d : UInt8) :: (0xb6 : UInt8) :: (0x01 : UInt8) :: (0x62 : UInt8) :: (0x03 : UInt8) :: (0xac : UInt8) :: []
def dT_X8_row_1 : List UInt8 := (0x1d : UInt8) :: (0x10 : UInt8) :: (0x3c : UInt8) :: (0xa4 : UInt8) :: (0x00 : UInt8) :: (0x06 : UInt8) :: (0x10 : UInt8) :: (0xfe : UInt8) :: (0xac : UInt8) :: (0x1d : UInt8) :: (0x9c : UInt8) :: (0x00 : UInt8) :: (0x06 : UInt8) :: (0x10 : UInt8) :: (0xfd : UInt8) :: (0xac : UInt8) :: dT_X8_row_2
def dT_X8_row_0 : List UInt8 := (0x1b : UInt8) :: (0xb8 : UInt8) :: (0x01 : UInt8) :: (0x1f : UInt8) :: (0x99 : UInt8) :: (0x00 : UInt8) :: (0x12 : UInt8) :: (0x1c : UInt8) :: (0x9b : UInt8) :: (0x00 : UInt8) :: (0x0e : UInt8) :: (0x1c : UInt8) :: (0x06 : UInt8) :: (0xa3 : UInt8) :: (0x00 : UInt8) :: (0x09 : UInt8) :: dT_X8_row_1
theorem dT_X8_row : cX8_row.data.toList = dT_X8_row_0 := eq_of_beq (show (cX8_row.data.toList == dT_X8_row_0) = true by decide +kernel)
theorem dQ_X8_row_0 : dQ_P cX8_row 0 dT_X8_row_0 := fun i => by rw [dT_X8_row]; rfl
theorem dQ_X8_row_1 : dQ_P cX8_row 16 dT_X8_row_1 := fun i => (dQ_X8_row_0 (i + 16)).trans dk_t
theorem dQ_X8_row_2 : dQ_P cX8_row 32 dT_X8_row_2 := fun i => (dQ_X8_row_1 (i + 16)).trans dk_t
theorem dX8_row_0 : decode cX8_row 0 = .ok (.iload_n 1, 1) := dk_27 ((dQ_X8_row_0 0).trans dk_j0)
theorem dX8_row_1 : decode cX8_row 1 = .ok (.invokestatic 287, 3) := dk_184 ((dQ_X8_row_0 1).trans dk_j1) ((dQ_X8_row_0 2).trans dk_j2) ((dQ_X8_row_0 3).trans dk_j3) dk_vu2_1_31
theorem dX8_row_4 : decode cX8_row 4 = .ok (.ifCond .eq 18, 3) := dk_153 ((dQ_X8_row_0 4).trans dk_j4) ((dQ_X8_row_0 5).trans dk_j5) ((dQ_X8_row_0 6).trans dk_j6) dk_vs2_0_18
theorem dX8_row_7 : decode cX8_row 7 = .ok (.iload_n 2, 1) := dk_28 ((dQ_X8_row_0 7).trans dk_j7)
theorem dX8_row_8 : decode cX8_row 8 = .ok (.ifCond .lt 14, 3) := dk_155 ((dQ_X8_row_0 8).trans dk_j8) ((dQ_X8_row_0 9).trans dk_j9) ((dQ_X8_row_0 10).trans dk_j10) dk_vs2_0_14
theorem dX8_row_11 : decode cX8_row 11 = .ok (.iload_n 2, 1) := dk_28 ((dQ_X8_row_0 11).trans dk_j11)
theorem dX8_row_12 : decode cX8_row 12 = .ok (.iconst 3, 1) := dk_6 ((dQ_X8_row_0 12).trans dk_j12)
theorem dX8_row_13 : decode cX8_row 13 = .ok (.if_icmp .gt 9, 3) := dk_163 ((dQ_X8_row_0 13).trans dk_j13) ((dQ_X8_row_0 14).trans dk_j14) ((dQ_X8_row_0 15).trans dk_j15) dk_vs2_0_9
theorem dX8_row_16 : decode cX8_row 16 = .ok (.iload_n 3, 1) := dk_29 ((dQ_X8_row_1 0).trans dk_j0)
theorem dX8_row_17 : decode cX8_row 17 = .ok (.bipush 60, 2) := dk_16 ((dQ_X8_row_1 1).trans dk_j1) ((dQ_X8_row_1 2).trans dk_j2) dk_vs1_60
theorem dX8_row_19 : decode cX8_row 19 = .ok (.if_icmp .le 6, 3) := dk_164 ((dQ_X8_row_1 3).trans dk_j3) ((dQ_X8_row_1 4).trans dk_j4) ((dQ_X8_row_1 5).trans dk_j5) dk_vs2_0_6
theorem dX8_row_22 : decode cX8_row 22 = .ok (.bipush (-2), 2) := dk_16 ((dQ_X8_row_1 6).trans dk_j6) ((dQ_X8_row_1 7).trans dk_j7) dk_vs1_254
theorem dX8_row_24 : decode cX8_row 24 = .ok (.ireturn, 1) := dk_172 ((dQ_X8_row_1 8).trans dk_j8)
theorem dX8_row_25 : decode cX8_row 25 = .ok (.iload_n 3, 1) := dk_29 ((dQ_X8_row_1 9).trans dk_j9)
theorem dX8_row_26 : decode cX8_row 26 = .ok (.ifCond .ge 6, 3) := dk_156 ((dQ_X8_row_1 10).trans dk_j10) ((dQ_X8_row_1 11).trans dk_j11) ((dQ_X8_row_1 12).trans dk_j12) dk_vs2_0_6
theorem dX8_row_29 : decode cX8_row 29 = .ok (.bipush (-3), 2) := dk_16 ((dQ_X8_row_1 13).trans dk_j13) ((dQ_X8_row_1 14).trans dk_j14) dk_vs1_253
theorem dX8_row_31 : decode cX8_row 31 = .ok (.ireturn, 1) := dk_172 ((dQ_X8_row_1 15).trans dk_j15)
theorem dX8_row_32 : decode cX8_row 32 = .ok (.aload_n 0, 1) := dk_42 ((dQ_X8_row_2 0).trans dk_j0)
theorem dX8_row_33 : decode cX8_row 33 = .ok (.getfield 37, 3) := dk_180 ((dQ_X8_row_2 1).trans dk_j1) ((dQ_X8_row_2 2).trans dk_j2) ((dQ_X8_row_2 3).trans dk_j3) dk_vu2_0_37
theorem dX8_row_36 : decode cX8_row 36 = .ok (.iload_n 1, 1) := dk_27 ((dQ_X8_row_2 4).trans dk_j4)
theorem dX8_row_37 : decode cX8_row 37 = .ok (.iload_n 2, 1) := dk_28 ((dQ_X8_row_2 5).trans dk_j5)
theorem dX8_row_38 : decode cX8_row 38 = .ok (.iload_n 3, 1) := dk_29 ((dQ_X8_row_2 6).trans dk_j6)
theorem dk_vu2_1_98 : (0x01 : UInt8).toNat * 256 + (0x62 : UInt8).toNat = (354 : Nat) := by decide +kernel
theorem dX8_row_39 : decode cX8_row 39 = .ok (.invokevirtual 354, 3) := dk_182 ((dQ_X8_row_2 7).trans dk_j7) ((dQ_X8_row_2 8).trans dk_j8) ((dQ_X8_row_2 9).trans dk_j9) dk_vu2_1_98
theorem dX8_row_42 : decode cX8_row 42 = .ok (.iconst 0, 1) := dk_3 ((dQ_X8_row_2 10).trans dk_j10)
theorem dX8_row_43 : decode cX8_row 43 = .ok (.ireturn, 1) := dk_172 ((dQ_X8_row_2 11).trans dk_j11)
def dT_X8_write_3 : List UInt8 := (0x1b : UInt8) :: (0x1c : UInt8) :: (0x21 : UInt8) :: (0xb6 : UInt8) :: (0x01 : UInt8) :: (0x66 : UInt8) :: (0x03 : UInt8) :: (0xac : UInt8) :: []
def dT_X8_write_2 : List UInt8 := (0x25 : UInt8) :: (0xb4 : UInt8) :: (0x01 : UInt8) :: (0x25 : UInt8) :: (0x1b : UInt8) :: (0x2e : UInt8) :: (0xa1 : UInt8) :: (0x00 : UInt8) :: (0x06 : UInt8) :: (0x10 : UInt8) :: (0xf9 : UInt8) :: (0xac : UInt8) :: (0x2a : UInt8) :: (0xb4 : UInt8) :: (0x00 : UInt8) :: (0x25 : UInt8) :: dT_X8_write_3
def dT_X8_write_1 : List UInt8 := (0x01 : UInt8) :: (0x22 : UInt8) :: (0x9a : UInt8) :: (0x00 : UInt8) :: (0x06 : UInt8) :: (0x10 : UInt8) :: (0xfa : UInt8) :: (0xac : UInt8) :: (0x1c : UInt8) :: (0x9b : UInt8) :: (0x00 : UInt8) :: (0x10 : UInt8) :: (0x1c : UInt8) :: (0x2a : UInt8) :: (0xb4 : UInt8) :: (0x00 : UInt8) :: dT_X8_write_2
def dT_X8_write_0 : List UInt8 := (0x1b : UInt8) :: (0xb8 : UInt8) :: (0x01 : UInt8) :: (0x1f : UInt8) :: (0x9a : UInt8) :: (0x00 : UInt8) :: (0x06 : UInt8) :: (0x10 : UInt8) :: (0xfe : UInt8) :: (0xac : UInt8) :: (0x2a : UInt8) :: (0xb4 : UInt8) :: (0x00 : UInt8) :: (0x25 : UInt8) :: (0x1b : UInt8) :: (0xb6 : UInt8) :: dT_X8_write_1
theorem dT_X8_write : cX8_write.data.toList = dT_X8_write_0 := eq_of_beq (show (cX8_write.data.toList == dT_X8_write_0) = true by decide +kernel)
theorem dQ_X8_write_0 : dQ_P cX8_write 0 dT_X8_write_0 := fun i => by rw [dT_X8_write]; rfl
theorem dQ_X8_write_1 : dQ_P cX8_write 16 dT_X8_write_1 := fun i => (dQ_X8_write_0 (i + 16)).trans dk_t
theorem dQ_X8_write_2 : dQ_P cX8_write 32 dT_X8_write_2 := fun i => (dQ_X8_write_1 (i + 16)).trans dk_t
theorem dQ_X8_write_3 : dQ_P cX8_write 48 dT_X8_write_3 := fun i => (dQ_X8_write_2 (i + 16)).trans dk_t
theorem dX8_write_0 : decode cX8_write 0 = .ok (.iload_n 1, 1) := dk_27 ((dQ_X8_write_0 0).trans dk_j0)
theorem dX8_write_1 : decode cX8_write 1 = .ok (.invokestatic 287, 3) := dk_184 ((dQ_X8_write_0 1).trans dk_j1) ((dQ_X8_write_0 2).trans dk_j2) ((dQ_X8_write_0 3).trans dk_j3) dk_vu2_1_31
theorem dX8_write_4 : decode cX8_write 4 = .ok (.ifCond .ne 6, 3) := dk_154 ((dQ_X8_write_0 4).trans dk_j4) ((dQ_X8_write_0 5).trans dk_j5) ((dQ_X8_write_0 6).trans dk_j6) dk_vs2_0_6
theorem dX8_write_7 : decode cX8_write 7 = .ok (.bipush (-2), 2) := dk_16 ((dQ_X8_write_0 7).trans dk_j7) ((dQ_X8_write_0 8).trans dk_j8) dk_vs1_254
theorem dX8_write_9 : decode cX8_write 9 = .ok (.ireturn, 1) := dk_172 ((dQ_X8_write_0 9).trans dk_j9)
theorem dX8_write_10 : decode cX8_write 10 = .ok (.aload_n 0, 1) := dk_42 ((dQ_X8_write_0 10).trans dk_j10)
theorem dX8_write_11 : decode cX8_write 11 = .ok (.getfield 37, 3) := dk_180 ((dQ_X8_write_0 11).trans dk_j11) ((dQ_X8_write_0 12).trans dk_j12) ((dQ_X8_write_0 13).trans dk_j13) dk_vu2_0_37
theorem dX8_write_14 : decode cX8_write 14 = .ok (.iload_n 1, 1) := dk_27 ((dQ_X8_write_0 14).trans dk_j14)
theorem dX8_write_15 : decode cX8_write 15 = .ok (.invokevirtual 290, 3) := dk_182 ((dQ_X8_write_0 15).trans dk_j15) ((dQ_X8_write_1 0).trans dk_j0) ((dQ_X8_write_1 1).trans dk_j1) dk_vu2_1_34
theorem dX8_write_18 : decode cX8_write 18 = .ok (.ifCond .ne 6, 3) := dk_154 ((dQ_X8_write_1 2).trans dk_j2) ((dQ_X8_write_1 3).trans dk_j3) ((dQ_X8_write_1 4).trans dk_j4) dk_vs2_0_6
theorem dX8_write_21 : decode cX8_write 21 = .ok (.bipush (-6), 2) := dk_16 ((dQ_X8_write_1 5).trans dk_j5) ((dQ_X8_write_1 6).trans dk_j6) dk_vs1_250
theorem dX8_write_23 : decode cX8_write 23 = .ok (.ireturn, 1) := dk_172 ((dQ_X8_write_1 7).trans dk_j7)
theorem dX8_write_24 : decode cX8_write 24 = .ok (.iload_n 2, 1) := dk_28 ((dQ_X8_write_1 8).trans dk_j8)
theorem dX8_write_25 : decode cX8_write 25 = .ok (.ifCond .lt 16, 3) := dk_155 ((dQ_X8_write_1 9).trans dk_j9) ((dQ_X8_write_1 10).trans dk_j10) ((dQ_X8_write_1 11).trans dk_j11) dk_vs2_0_16
theorem dX8_write_28 : decode cX8_write 28 = .ok (.iload_n 2, 1) := dk_28 ((dQ_X8_write_1 12).trans dk_j12)
theorem dX8_write_29 : decode cX8_write 29 = .ok (.aload_n 0, 1) := dk_42 ((dQ_X8_write_1 13).trans dk_j13)
theorem dX8_write_30 : decode cX8_write 30 = .ok (.getfield 37, 3) := dk_180 ((dQ_X8_write_1 14).trans dk_j14) ((dQ_X8_write_1 15).trans dk_j15) ((dQ_X8_write_2 0).trans dk_j0) dk_vu2_0_37
theorem dX8_write_33 : decode cX8_write 33 = .ok (.getfield 293, 3) := dk_180 ((dQ_X8_write_2 1).trans dk_j1) ((dQ_X8_write_2 2).trans dk_j2) ((dQ_X8_write_2 3).trans dk_j3) dk_vu2_1_37
theorem dX8_write_36 : decode cX8_write 36 = .ok (.iload_n 1, 1) := dk_27 ((dQ_X8_write_2 4).trans dk_j4)
theorem dX8_write_37 : decode cX8_write 37 = .ok (.iaload, 1) := dk_46 ((dQ_X8_write_2 5).trans dk_j5)
theorem dX8_write_38 : decode cX8_write 38 = .ok (.if_icmp .lt 6, 3) := dk_161 ((dQ_X8_write_2 6).trans dk_j6) ((dQ_X8_write_2 7).trans dk_j7) ((dQ_X8_write_2 8).trans dk_j8) dk_vs2_0_6
theorem dX8_write_41 : decode cX8_write 41 = .ok (.bipush (-7), 2) := dk_16 ((dQ_X8_write_2 9).trans dk_j9) ((dQ_X8_write_2 10).trans dk_j10) dk_vs1_249
theorem dX8_write_43 : decode cX8_write 43 = .ok (.ireturn, 1) := dk_172 ((dQ_X8_write_2 11).trans dk_j11)
theorem dX8_write_44 : decode cX8_write 44 = .ok (.aload_n 0, 1) := dk_42 ((dQ_X8_write_2 12).trans dk_j12)
theorem dX8_write_45 : decode cX8_write 45 = .ok (.getfield 37, 3) := dk_180 ((dQ_X8_write_2 13).trans dk_j13) ((dQ_X8_write_2 14).trans dk_j14) ((dQ_X8_write_2 15).trans dk_j15) dk_vu2_0_37
theorem dX8_write_48 : decode cX8_write 48 = .ok (.iload_n 1, 1) := dk_27 ((dQ_X8_write_3 0).trans dk_j0)
theorem dX8_write_49 : decode cX8_write 49 = .ok (.iload_n 2, 1) := dk_28 ((dQ_X8_write_3 1).trans dk_j1)
theorem dX8_write_50 : decode cX8_write 50 = .ok (.lload_n 3, 1) := dk_33 ((dQ_X8_write_3 2).trans dk_j2)
theorem dk_vu2_1_102 : (0x01 : UInt8).toNat * 256 + (0x66 : UInt8).toNat = (358 : Nat) := by decide +kernel
theorem dX8_write_51 : decode cX8_write 51 = .ok (.invokevirtual 358, 3) := dk_182 ((dQ_X8_write_3 3).trans dk_j3) ((dQ_X8_write_3 4).trans dk_j4) ((dQ_X8_write_3 5).trans dk_j5) dk_vu2_1_102
theorem dX8_write_54 : decode cX8_write 54 = .ok (.iconst 0, 1) := dk_3 ((dQ_X8_write_3 6).trans dk_j6)
theorem dX8_write_55 : decode cX8_write 55 = .ok (.ireturn, 1) := dk_172 ((dQ_X8_write_3 7).trans dk_j7)
def dT_X8_paste_7 : List UInt8 := (0xb4 : UInt8) :: (0x01 : UInt8) :: (0x2b : UInt8) :: (0x1d : UInt8) :: (0x32 : UInt8) :: (0x15 : UInt8) :: (0x04 : UInt8) :: (0x15 : UInt8) :: (0x05 : UInt8) :: (0xb8 : UInt8) :: (0x01 : UInt8) :: (0x6f : UInt8) :: (0x03 : UInt8) :: (0xac : UInt8) :: []
def dT_X8_paste_6 : List UInt8 := (0xf9 : UInt8) :: (0xac : UInt8) :: (0x2a : UInt8) :: (0xb4 : UInt8) :: (0x00 : UInt8) :: (0x25 : UInt8) :: (0xb4 : UInt8) :: (0x01 : UInt8) :: (0x2b : UInt8) :: (0x1b : UInt8) :: (0x32 : UInt8) :: (0x1c : UInt8) :: (0x2a : UInt8) :: (0xb4 : UInt8) :: (0x00 : UInt8) :: (0x25 : UInt8) :: dT_X8_paste_7
def dT_X8_paste_5 : List UInt8 := (0x2a : UInt8) :: (0xb4 : UInt8) :: (0x00 : UInt8) :: (0x25 : UInt8) :: (0x1d : UInt8) :: (0x15 : UInt8) :: (0x04 : UInt8) :: (0x15 : UInt8) :: (0x05 : UInt8) :: (0xb6 : UInt8) :: (0x01 : UInt8) :: (0x6c : UInt8) :: (0x9a : UInt8) :: (0x00 : UInt8) :: (0x06 : UInt8) :: (0x10 : UInt8) :: dT_X8_paste_6
def dT_X8_paste_4 : List UInt8 := (0xf8 : UInt8) :: (0xac : UInt8) :: (0x2a : UInt8) :: (0xb4 : UInt8) :: (0x00 : UInt8) :: (0x25 : UInt8) :: (0x1b : UInt8) :: (0x1c : UInt8) :: (0x15 : UInt8) :: (0x05 : UInt8) :: (0xb6 : UInt8) :: (0x01 : UInt8) :: (0x6c : UInt8) :: (0x99 : UInt8) :: (0x00 : UInt8) :: (0x12 : UInt8) :: dT_X8_paste_5
def dT_X8_paste_3 : List UInt8 := (0x69 : UInt8) :: (0x1b : UInt8) :: (0x2e : UInt8) :: (0x2a : UInt8) :: (0xb4 : UInt8) :: (0x00 : UInt8) :: (0x25 : UInt8) :: (0xb4 : UInt8) :: (0x01 : UInt8) :: (0x69 : UInt8) :: (0x1d : UInt8) :: (0x2e : UInt8) :: (0x9f : UInt8) :: (0x00 : UInt8) :: (0x06 : UInt8) :: (0x10 : UInt8) :: dT_X8_paste_4
def dT_X8_paste_2 : List UInt8 := (0x1d : UInt8) :: (0xb6 : UInt8) :: (0x01 : UInt8) :: (0x22 : UInt8) :: (0x9a : UInt8) :: (0x00 : UInt8) :: (0x06 : UInt8) :: (0x10 : UInt8) :: (0xfa : UInt8) :: (0xac : UInt8) :: (0x2a : UInt8) :: (0xb4 : UInt8) :: (0x00 : UInt8) :: (0x25 : UInt8) :: (0xb4 : UInt8) :: (0x01 : UInt8) :: dT_X8_paste_3
def dT_X8_paste_1 : List UInt8 := (0xac : UInt8) :: (0x2a : UInt8) :: (0xb4 : UInt8) :: (0x00 : UInt8) :: (0x25 : UInt8) :: (0x1b : UInt8) :: (0xb6 : UInt8) :: (0x01 : UInt8) :: (0x22 : UInt8) :: (0x99 : UInt8) :: (0x00 : UInt8) :: (0x0e : UInt8) :: (0x2a : UInt8) :: (0xb4 : UInt8) :: (0x00 : UInt8) :: (0x25 : UInt8) :: dT_X8_paste_2
def dT_X8_paste_0 : List UInt8 := (0x1b : UInt8) :: (0xb8 : UInt8) :: (0x01 : UInt8) :: (0x1f : UInt8) :: (0x99 : UInt8) :: (0x00 : UInt8) :: (0x0a : UInt8) :: (0x1d : UInt8) :: (0xb8 : UInt8) :: (0x01 : UInt8) :: (0x1f : UInt8) :: (0x9a : UInt8) :: (0x00 : UInt8) :: (0x06 : UInt8) :: (0x10 : UInt8) :: (0xfe : UInt8) :: dT_X8_paste_1
theorem dT_X8_paste : cX8_paste.data.toList = dT_X8_paste_0 := eq_of_beq (show (cX8_paste.data.toList == dT_X8_paste_0) = true by decide +kernel)
theorem dQ_X8_paste_0 : dQ_P cX8_paste 0 dT_X8_paste_0 := fun i => by rw [dT_X8_paste]; rfl
theorem dQ_X8_paste_1 : dQ_P cX8_paste 16 dT_X8_paste_1 := fun i => (dQ_X8_paste_0 (i + 16)).trans dk_t
theorem dQ_X8_paste_2 : dQ_P cX8_paste 32 dT_X8_paste_2 := fun i => (dQ_X8_paste_1 (i + 16)).trans dk_t
theorem dQ_X8_paste_3 : dQ_P cX8_paste 48 dT_X8_paste_3 := fun i => (dQ_X8_paste_2 (i + 16)).trans dk_t
theorem dQ_X8_paste_4 : dQ_P cX8_paste 64 dT_X8_paste_4 := fun i => (dQ_X8_paste_3 (i + 16)).trans dk_t
theorem dQ_X8_paste_5 : dQ_P cX8_paste 80 dT_X8_paste_5 := fun i => (dQ_X8_paste_4 (i + 16)).trans dk_t
theorem dQ_X8_paste_6 : dQ_P cX8_paste 96 dT_X8_paste_6 := fun i => (dQ_X8_paste_5 (i + 16)).trans dk_t
theorem dQ_X8_paste_7 : dQ_P cX8_paste 112 dT_X8_paste_7 := fun i => (dQ_X8_paste_6 (i + 16)).trans dk_t
theorem dX8_paste_0 : decode cX8_paste 0 = .ok (.iload_n 1, 1) := dk_27 ((dQ_X8_paste_0 0).trans dk_j0)
theorem dX8_paste_1 : decode cX8_paste 1 = .ok (.invokestatic 287, 3) := dk_184 ((dQ_X8_paste_0 1).trans dk_j1) ((dQ_X8_paste_0 2).trans dk_j2) ((dQ_X8_paste_0 3).trans dk_j3) dk_vu2_1_31
theorem dX8_paste_4 : decode cX8_paste 4 = .ok (.ifCond .eq 10, 3) := dk_153 ((dQ_X8_paste_0 4).trans dk_j4) ((dQ_X8_paste_0 5).trans dk_j5) ((dQ_X8_paste_0 6).trans dk_j6) dk_vs2_0_10
theorem dX8_paste_7 : decode cX8_paste 7 = .ok (.iload_n 3, 1) := dk_29 ((dQ_X8_paste_0 7).trans dk_j7)
theorem dX8_paste_8 : decode cX8_paste 8 = .ok (.invokestatic 287, 3) := dk_184 ((dQ_X8_paste_0 8).trans dk_j8) ((dQ_X8_paste_0 9).trans dk_j9) ((dQ_X8_paste_0 10).trans dk_j10) dk_vu2_1_31
theorem dX8_paste_11 : decode cX8_paste 11 = .ok (.ifCond .ne 6, 3) := dk_154 ((dQ_X8_paste_0 11).trans dk_j11) ((dQ_X8_paste_0 12).trans dk_j12) ((dQ_X8_paste_0 13).trans dk_j13) dk_vs2_0_6
theorem dX8_paste_14 : decode cX8_paste 14 = .ok (.bipush (-2), 2) := dk_16 ((dQ_X8_paste_0 14).trans dk_j14) ((dQ_X8_paste_0 15).trans dk_j15) dk_vs1_254
theorem dX8_paste_16 : decode cX8_paste 16 = .ok (.ireturn, 1) := dk_172 ((dQ_X8_paste_1 0).trans dk_j0)
theorem dX8_paste_17 : decode cX8_paste 17 = .ok (.aload_n 0, 1) := dk_42 ((dQ_X8_paste_1 1).trans dk_j1)
theorem dX8_paste_18 : decode cX8_paste 18 = .ok (.getfield 37, 3) := dk_180 ((dQ_X8_paste_1 2).trans dk_j2) ((dQ_X8_paste_1 3).trans dk_j3) ((dQ_X8_paste_1 4).trans dk_j4) dk_vu2_0_37
theorem dX8_paste_21 : decode cX8_paste 21 = .ok (.iload_n 1, 1) := dk_27 ((dQ_X8_paste_1 5).trans dk_j5)
theorem dX8_paste_22 : decode cX8_paste 22 = .ok (.invokevirtual 290, 3) := dk_182 ((dQ_X8_paste_1 6).trans dk_j6) ((dQ_X8_paste_1 7).trans dk_j7) ((dQ_X8_paste_1 8).trans dk_j8) dk_vu2_1_34
theorem dX8_paste_25 : decode cX8_paste 25 = .ok (.ifCond .eq 14, 3) := dk_153 ((dQ_X8_paste_1 9).trans dk_j9) ((dQ_X8_paste_1 10).trans dk_j10) ((dQ_X8_paste_1 11).trans dk_j11) dk_vs2_0_14
theorem dX8_paste_28 : decode cX8_paste 28 = .ok (.aload_n 0, 1) := dk_42 ((dQ_X8_paste_1 12).trans dk_j12)
theorem dX8_paste_29 : decode cX8_paste 29 = .ok (.getfield 37, 3) := dk_180 ((dQ_X8_paste_1 13).trans dk_j13) ((dQ_X8_paste_1 14).trans dk_j14) ((dQ_X8_paste_1 15).trans dk_j15) dk_vu2_0_37
theorem dX8_paste_32 : decode cX8_paste 32 = .ok (.iload_n 3, 1) := dk_29 ((dQ_X8_paste_2 0).trans dk_j0)
theorem dX8_paste_33 : decode cX8_paste 33 = .ok (.invokevirtual 290, 3) := dk_182 ((dQ_X8_paste_2 1).trans dk_j1) ((dQ_X8_paste_2 2).trans dk_j2) ((dQ_X8_paste_2 3).trans dk_j3) dk_vu2_1_34
theorem dX8_paste_36 : decode cX8_paste 36 = .ok (.ifCond .ne 6, 3) := dk_154 ((dQ_X8_paste_2 4).trans dk_j4) ((dQ_X8_paste_2 5).trans dk_j5) ((dQ_X8_paste_2 6).trans dk_j6) dk_vs2_0_6
theorem dX8_paste_39 : decode cX8_paste 39 = .ok (.bipush (-6), 2) := dk_16 ((dQ_X8_paste_2 7).trans dk_j7) ((dQ_X8_paste_2 8).trans dk_j8) dk_vs1_250
theorem dX8_paste_41 : decode cX8_paste 41 = .ok (.ireturn, 1) := dk_172 ((dQ_X8_paste_2 9).trans dk_j9)
theorem dX8_paste_42 : decode cX8_paste 42 = .ok (.aload_n 0, 1) := dk_42 ((dQ_X8_paste_2 10).trans dk_j10)
theorem dX8_paste_43 : decode cX8_paste 43 = .ok (.getfield 37, 3) := dk_180 ((dQ_X8_paste_2 11).trans dk_j11) ((dQ_X8_paste_2 12).trans dk_j12) ((dQ_X8_paste_2 13).trans dk_j13) dk_vu2_0_37
theorem dk_vu2_1_105 : (0x01 : UInt8).toNat * 256 + (0x69 : UInt8).toNat = (361 : Nat) := by decide +kernel
theorem dX8_paste_46 : decode cX8_paste 46 = .ok (.getfield 361, 3) := dk_180 ((dQ_X8_paste_2 14).trans dk_j14) ((dQ_X8_paste_2 15).trans dk_j15) ((dQ_X8_paste_3 0).trans dk_j0) dk_vu2_1_105
theorem dX8_paste_49 : decode cX8_paste 49 = .ok (.iload_n 1, 1) := dk_27 ((dQ_X8_paste_3 1).trans dk_j1)
theorem dX8_paste_50 : decode cX8_paste 50 = .ok (.iaload, 1) := dk_46 ((dQ_X8_paste_3 2).trans dk_j2)
theorem dX8_paste_51 : decode cX8_paste 51 = .ok (.aload_n 0, 1) := dk_42 ((dQ_X8_paste_3 3).trans dk_j3)
theorem dX8_paste_52 : decode cX8_paste 52 = .ok (.getfield 37, 3) := dk_180 ((dQ_X8_paste_3 4).trans dk_j4) ((dQ_X8_paste_3 5).trans dk_j5) ((dQ_X8_paste_3 6).trans dk_j6) dk_vu2_0_37
theorem dX8_paste_55 : decode cX8_paste 55 = .ok (.getfield 361, 3) := dk_180 ((dQ_X8_paste_3 7).trans dk_j7) ((dQ_X8_paste_3 8).trans dk_j8) ((dQ_X8_paste_3 9).trans dk_j9) dk_vu2_1_105
theorem dX8_paste_58 : decode cX8_paste 58 = .ok (.iload_n 3, 1) := dk_29 ((dQ_X8_paste_3 10).trans dk_j10)
theorem dX8_paste_59 : decode cX8_paste 59 = .ok (.iaload, 1) := dk_46 ((dQ_X8_paste_3 11).trans dk_j11)
theorem dX8_paste_60 : decode cX8_paste 60 = .ok (.if_icmp .eq 6, 3) := dk_159 ((dQ_X8_paste_3 12).trans dk_j12) ((dQ_X8_paste_3 13).trans dk_j13) ((dQ_X8_paste_3 14).trans dk_j14) dk_vs2_0_6
theorem dX8_paste_63 : decode cX8_paste 63 = .ok (.bipush (-8), 2) := dk_16 ((dQ_X8_paste_3 15).trans dk_j15) ((dQ_X8_paste_4 0).trans dk_j0) dk_vs1_248
theorem dX8_paste_65 : decode cX8_paste 65 = .ok (.ireturn, 1) := dk_172 ((dQ_X8_paste_4 1).trans dk_j1)
theorem dX8_paste_66 : decode cX8_paste 66 = .ok (.aload_n 0, 1) := dk_42 ((dQ_X8_paste_4 2).trans dk_j2)
theorem dX8_paste_67 : decode cX8_paste 67 = .ok (.getfield 37, 3) := dk_180 ((dQ_X8_paste_4 3).trans dk_j3) ((dQ_X8_paste_4 4).trans dk_j4) ((dQ_X8_paste_4 5).trans dk_j5) dk_vu2_0_37
theorem dX8_paste_70 : decode cX8_paste 70 = .ok (.iload_n 1, 1) := dk_27 ((dQ_X8_paste_4 6).trans dk_j6)
theorem dX8_paste_71 : decode cX8_paste 71 = .ok (.iload_n 2, 1) := dk_28 ((dQ_X8_paste_4 7).trans dk_j7)
theorem dX8_paste_72 : decode cX8_paste 72 = .ok (.iload 5, 2) := dk_21 ((dQ_X8_paste_4 8).trans dk_j8) ((dQ_X8_paste_4 9).trans dk_j9) dk_vu1_5
theorem dk_vu2_1_108 : (0x01 : UInt8).toNat * 256 + (0x6c : UInt8).toNat = (364 : Nat) := by decide +kernel
theorem dX8_paste_74 : decode cX8_paste 74 = .ok (.invokevirtual 364, 3) := dk_182 ((dQ_X8_paste_4 10).trans dk_j10) ((dQ_X8_paste_4 11).trans dk_j11) ((dQ_X8_paste_4 12).trans dk_j12) dk_vu2_1_108
theorem dX8_paste_77 : decode cX8_paste 77 = .ok (.ifCond .eq 18, 3) := dk_153 ((dQ_X8_paste_4 13).trans dk_j13) ((dQ_X8_paste_4 14).trans dk_j14) ((dQ_X8_paste_4 15).trans dk_j15) dk_vs2_0_18
theorem dX8_paste_80 : decode cX8_paste 80 = .ok (.aload_n 0, 1) := dk_42 ((dQ_X8_paste_5 0).trans dk_j0)
theorem dX8_paste_81 : decode cX8_paste 81 = .ok (.getfield 37, 3) := dk_180 ((dQ_X8_paste_5 1).trans dk_j1) ((dQ_X8_paste_5 2).trans dk_j2) ((dQ_X8_paste_5 3).trans dk_j3) dk_vu2_0_37
theorem dX8_paste_84 : decode cX8_paste 84 = .ok (.iload_n 3, 1) := dk_29 ((dQ_X8_paste_5 4).trans dk_j4)
theorem dX8_paste_85 : decode cX8_paste 85 = .ok (.iload 4, 2) := dk_21 ((dQ_X8_paste_5 5).trans dk_j5) ((dQ_X8_paste_5 6).trans dk_j6) dk_vu1_4
theorem dX8_paste_87 : decode cX8_paste 87 = .ok (.iload 5, 2) := dk_21 ((dQ_X8_paste_5 7).trans dk_j7) ((dQ_X8_paste_5 8).trans dk_j8) dk_vu1_5
theorem dX8_paste_89 : decode cX8_paste 89 = .ok (.invokevirtual 364, 3) := dk_182 ((dQ_X8_paste_5 9).trans dk_j9) ((dQ_X8_paste_5 10).trans dk_j10) ((dQ_X8_paste_5 11).trans dk_j11) dk_vu2_1_108
theorem dX8_paste_92 : decode cX8_paste 92 = .ok (.ifCond .ne 6, 3) := dk_154 ((dQ_X8_paste_5 12).trans dk_j12) ((dQ_X8_paste_5 13).trans dk_j13) ((dQ_X8_paste_5 14).trans dk_j14) dk_vs2_0_6
theorem dX8_paste_95 : decode cX8_paste 95 = .ok (.bipush (-7), 2) := dk_16 ((dQ_X8_paste_5 15).trans dk_j15) ((dQ_X8_paste_6 0).trans dk_j0) dk_vs1_249
theorem dX8_paste_97 : decode cX8_paste 97 = .ok (.ireturn, 1) := dk_172 ((dQ_X8_paste_6 1).trans dk_j1)
theorem dX8_paste_98 : decode cX8_paste 98 = .ok (.aload_n 0, 1) := dk_42 ((dQ_X8_paste_6 2).trans dk_j2)
theorem dX8_paste_99 : decode cX8_paste 99 = .ok (.getfield 37, 3) := dk_180 ((dQ_X8_paste_6 3).trans dk_j3) ((dQ_X8_paste_6 4).trans dk_j4) ((dQ_X8_paste_6 5).trans dk_j5) dk_vu2_0_37
theorem dX8_paste_102 : decode cX8_paste 102 = .ok (.getfield 299, 3) := dk_180 ((dQ_X8_paste_6 6).trans dk_j6) ((dQ_X8_paste_6 7).trans dk_j7) ((dQ_X8_paste_6 8).trans dk_j8) dk_vu2_1_43
theorem dX8_paste_105 : decode cX8_paste 105 = .ok (.iload_n 1, 1) := dk_27 ((dQ_X8_paste_6 9).trans dk_j9)
theorem dX8_paste_106 : decode cX8_paste 106 = .ok (.aaload, 1) := dk_50 ((dQ_X8_paste_6 10).trans dk_j10)
theorem dX8_paste_107 : decode cX8_paste 107 = .ok (.iload_n 2, 1) := dk_28 ((dQ_X8_paste_6 11).trans dk_j11)
theorem dX8_paste_108 : decode cX8_paste 108 = .ok (.aload_n 0, 1) := dk_42 ((dQ_X8_paste_6 12).trans dk_j12)
theorem dX8_paste_109 : decode cX8_paste 109 = .ok (.getfield 37, 3) := dk_180 ((dQ_X8_paste_6 13).trans dk_j13) ((dQ_X8_paste_6 14).trans dk_j14) ((dQ_X8_paste_6 15).trans dk_j15) dk_vu2_0_37
theorem dX8_paste_112 : decode cX8_paste 112 = .ok (.getfield 299, 3) := dk_180 ((dQ_X8_paste_7 0).trans dk_j0) ((dQ_X8_paste_7 1).trans dk_j1) ((dQ_X8_paste_7 2).trans dk_j2) dk_vu2_1_43
theorem dX8_paste_115 : decode cX8_paste 115 = .ok (.iload_n 3, 1) := dk_29 ((dQ_X8_paste_7 3).trans dk_j3)
theorem dX8_paste_116 : decode cX8_paste 116 = .ok (.aaload, 1) := dk_50 ((dQ_X8_paste_7 4).trans dk_j4)
theorem dX8_paste_117 : decode cX8_paste 117 = .ok (.iload 4, 2) := dk_21 ((dQ_X8_paste_7 5).trans dk_j5) ((dQ_X8_paste_7 6).trans dk_j6) dk_vu1_4
theorem dX8_paste_119 : decode cX8_paste 119 = .ok (.iload 5, 2) := dk_21 ((dQ_X8_paste_7 7).trans dk_j7) ((dQ_X8_paste_7 8).trans dk_j8) dk_vu1_5
theorem dk_vu2_1_111 : (0x01 : UInt8).toNat * 256 + (0x6f : UInt8).toNat = (367 : Nat) := by decide +kernel
theorem dX8_paste_121 : decode cX8_paste 121 = .ok (.invokestatic 367, 3) := dk_184 ((dQ_X8_paste_7 9).trans dk_j9) ((dQ_X8_paste_7 10).trans dk_j10) ((dQ_X8_paste_7 11).trans dk_j11) dk_vu2_1_111
theorem dX8_paste_124 : decode cX8_paste 124 = .ok (.iconst 0, 1) := dk_3 ((dQ_X8_paste_7 12).trans dk_j12)
theorem dX8_paste_125 : decode cX8_paste 125 = .ok (.ireturn, 1) := dk_172 ((dQ_X8_paste_7 13).trans dk_j13)
def dT_X8_liveAnew_1 : List UInt8 := (0x00 : UInt8) :: (0xbd : UInt8) :: (0xb1 : UInt8) :: []
def dT_X8_liveAnew_0 : List UInt8 := (0x2a : UInt8) :: (0xb4 : UInt8) :: (0x00 : UInt8) :: (0x2c : UInt8) :: (0x2a : UInt8) :: (0xb4 : UInt8) :: (0x00 : UInt8) :: (0x0a : UInt8) :: (0xb6 : UInt8) :: (0x01 : UInt8) :: (0x75 : UInt8) :: (0x2a : UInt8) :: (0xb4 : UInt8) :: (0x00 : UInt8) :: (0x2c : UInt8) :: (0xb6 : UInt8) :: dT_X8_liveAnew_1
theorem dT_X8_liveAnew : cX8_liveAnew.data.toList = dT_X8_liveAnew_0 := eq_of_beq (show (cX8_liveAnew.data.toList == dT_X8_liveAnew_0) = true by decide +kernel)
theorem dQ_X8_liveAnew_0 : dQ_P cX8_liveAnew 0 dT_X8_liveAnew_0 := fun i => by rw [dT_X8_liveAnew]; rfl
theorem dQ_X8_liveAnew_1 : dQ_P cX8_liveAnew 16 dT_X8_liveAnew_1 := fun i => (dQ_X8_liveAnew_0 (i + 16)).trans dk_t
theorem dX8_liveAnew_0 : decode cX8_liveAnew 0 = .ok (.aload_n 0, 1) := dk_42 ((dQ_X8_liveAnew_0 0).trans dk_j0)
theorem dX8_liveAnew_1 : decode cX8_liveAnew 1 = .ok (.getfield 44, 3) := dk_180 ((dQ_X8_liveAnew_0 1).trans dk_j1) ((dQ_X8_liveAnew_0 2).trans dk_j2) ((dQ_X8_liveAnew_0 3).trans dk_j3) dk_vu2_0_44
theorem dX8_liveAnew_4 : decode cX8_liveAnew 4 = .ok (.aload_n 0, 1) := dk_42 ((dQ_X8_liveAnew_0 4).trans dk_j4)
theorem dX8_liveAnew_5 : decode cX8_liveAnew 5 = .ok (.getfield 10, 3) := dk_180 ((dQ_X8_liveAnew_0 5).trans dk_j5) ((dQ_X8_liveAnew_0 6).trans dk_j6) ((dQ_X8_liveAnew_0 7).trans dk_j7) dk_vu2_0_10
theorem dk_vu2_1_117 : (0x01 : UInt8).toNat * 256 + (0x75 : UInt8).toNat = (373 : Nat) := by decide +kernel
theorem dX8_liveAnew_8 : decode cX8_liveAnew 8 = .ok (.invokevirtual 373, 3) := dk_182 ((dQ_X8_liveAnew_0 8).trans dk_j8) ((dQ_X8_liveAnew_0 9).trans dk_j9) ((dQ_X8_liveAnew_0 10).trans dk_j10) dk_vu2_1_117
theorem dX8_liveAnew_11 : decode cX8_liveAnew 11 = .ok (.aload_n 0, 1) := dk_42 ((dQ_X8_liveAnew_0 11).trans dk_j11)
theorem dX8_liveAnew_12 : decode cX8_liveAnew 12 = .ok (.getfield 44, 3) := dk_180 ((dQ_X8_liveAnew_0 12).trans dk_j12) ((dQ_X8_liveAnew_0 13).trans dk_j13) ((dQ_X8_liveAnew_0 14).trans dk_j14) dk_vu2_0_44
theorem dX8_liveAnew_15 : decode cX8_liveAnew 15 = .ok (.invokevirtual 189, 3) := dk_182 ((dQ_X8_liveAnew_0 15).trans dk_j15) ((dQ_X8_liveAnew_1 0).trans dk_j0) ((dQ_X8_liveAnew_1 1).trans dk_j1) dk_vu2_0_189
theorem dX8_liveAnew_18 : decode cX8_liveAnew 18 = .ok (.return_, 1) := dk_177 ((dQ_X8_liveAnew_1 2).trans dk_j2)
def dT_X8_isHouse_1 : List UInt8 := (0x04 : UInt8) :: (0x03 : UInt8) :: (0xac : UInt8) :: []
def dT_X8_isHouse_0 : List UInt8 := (0x2a : UInt8) :: (0xb4 : UInt8) :: (0x00 : UInt8) :: (0x0a : UInt8) :: (0xb4 : UInt8) :: (0x00 : UInt8) :: (0x64 : UInt8) :: (0x10 : UInt8) :: (0x0a : UInt8) :: (0x2e : UInt8) :: (0x9e : UInt8) :: (0x00 : UInt8) :: (0x07 : UInt8) :: (0x04 : UInt8) :: (0xa7 : UInt8) :: (0x00 : UInt8) :: dT_X8_isHouse_1
theorem dT_X8_isHouse : cX8_isHouse.data.toList = dT_X8_isHouse_0 := eq_of_beq (show (cX8_isHouse.data.toList == dT_X8_isHouse_0) = true by decide +kernel)
theorem dQ_X8_isHouse_0 : dQ_P cX8_isHouse 0 dT_X8_isHouse_0 := fun i => by rw [dT_X8_isHouse]; rfl
theorem dQ_X8_isHouse_1 : dQ_P cX8_isHouse 16 dT_X8_isHouse_1 := fun i => (dQ_X8_isHouse_0 (i + 16)).trans dk_t
theorem dX8_isHouse_0 : decode cX8_isHouse 0 = .ok (.aload_n 0, 1) := dk_42 ((dQ_X8_isHouse_0 0).trans dk_j0)
theorem dX8_isHouse_1 : decode cX8_isHouse 1 = .ok (.getfield 10, 3) := dk_180 ((dQ_X8_isHouse_0 1).trans dk_j1) ((dQ_X8_isHouse_0 2).trans dk_j2) ((dQ_X8_isHouse_0 3).trans dk_j3) dk_vu2_0_10
theorem dX8_isHouse_4 : decode cX8_isHouse 4 = .ok (.getfield 100, 3) := dk_180 ((dQ_X8_isHouse_0 4).trans dk_j4) ((dQ_X8_isHouse_0 5).trans dk_j5) ((dQ_X8_isHouse_0 6).trans dk_j6) dk_vu2_0_100
theorem dX8_isHouse_7 : decode cX8_isHouse 7 = .ok (.bipush 10, 2) := dk_16 ((dQ_X8_isHouse_0 7).trans dk_j7) ((dQ_X8_isHouse_0 8).trans dk_j8) dk_vs1_10
theorem dX8_isHouse_9 : decode cX8_isHouse 9 = .ok (.iaload, 1) := dk_46 ((dQ_X8_isHouse_0 9).trans dk_j9)
theorem dX8_isHouse_10 : decode cX8_isHouse 10 = .ok (.ifCond .le 7, 3) := dk_158 ((dQ_X8_isHouse_0 10).trans dk_j10) ((dQ_X8_isHouse_0 11).trans dk_j11) ((dQ_X8_isHouse_0 12).trans dk_j12) dk_vs2_0_7
theorem dX8_isHouse_13 : decode cX8_isHouse 13 = .ok (.iconst 1, 1) := dk_4 ((dQ_X8_isHouse_0 13).trans dk_j13)
theorem dX8_isHouse_14 : decode cX8_isHouse 14 = .ok (.goto 4, 3) := dk_167 ((dQ_X8_isHouse_0 14).trans dk_j14) ((dQ_X8_isHouse_0 15).trans dk_j15) ((dQ_X8_isHouse_1 0).trans dk_j0) dk_vs2_0_4
theorem dX8_isHouse_17 : decode cX8_isHouse 17 = .ok (.iconst 0, 1) := dk_3 ((dQ_X8_isHouse_1 1).trans dk_j1)
theorem dX8_isHouse_18 : decode cX8_isHouse 18 = .ok (.ireturn, 1) := dk_172 ((dQ_X8_isHouse_1 2).trans dk_j2)
def dT_X8_isPerson_1 : List UInt8 := (0x07 : UInt8) :: (0x04 : UInt8) :: (0xa7 : UInt8) :: (0x00 : UInt8) :: (0x04 : UInt8) :: (0x03 : UInt8) :: (0xac : UInt8) :: []
def dT_X8_isPerson_0 : List UInt8 := (0x1b : UInt8) :: (0x9b : UInt8) :: (0x00 : UInt8) :: (0x14 : UInt8) :: (0x1b : UInt8) :: (0x2a : UInt8) :: (0xb4 : UInt8) :: (0x00 : UInt8) :: (0x0a : UInt8) :: (0xb4 : UInt8) :: (0x00 : UInt8) :: (0x64 : UInt8) :: (0x08 : UInt8) :: (0x2e : UInt8) :: (0xa2 : UInt8) :: (0x00 : UInt8) :: dT_X8_isPerson_1
theorem dT_X8_isPerson : cX8_isPerson.data.toList = dT_X8_isPerson_0 := eq_of_beq (show (cX8_isPerson.data.toList == dT_X8_isPerson_0) = true by decide +kernel)
theorem dQ_X8_isPerson_0 : dQ_P cX8_isPerson 0 dT_X8_isPerson_0 := fun i => by rw [dT_X8_isPerson]; rfl
theorem dQ_X8_isPerson_1 : dQ_P cX8_isPerson 16 dT_X8_isPerson_1 := fun i => (dQ_X8_isPerson_0 (i + 16)).trans dk_t
theorem dX8_isPerson_0 : decode cX8_isPerson 0 = .ok (.iload_n 1, 1) := dk_27 ((dQ_X8_isPerson_0 0).trans dk_j0)
theorem dX8_isPerson_1 : decode cX8_isPerson 1 = .ok (.ifCond .lt 20, 3) := dk_155 ((dQ_X8_isPerson_0 1).trans dk_j1) ((dQ_X8_isPerson_0 2).trans dk_j2) ((dQ_X8_isPerson_0 3).trans dk_j3) dk_vs2_0_20
theorem dX8_isPerson_4 : decode cX8_isPerson 4 = .ok (.iload_n 1, 1) := dk_27 ((dQ_X8_isPerson_0 4).trans dk_j4)
theorem dX8_isPerson_5 : decode cX8_isPerson 5 = .ok (.aload_n 0, 1) := dk_42 ((dQ_X8_isPerson_0 5).trans dk_j5)
theorem dX8_isPerson_6 : decode cX8_isPerson 6 = .ok (.getfield 10, 3) := dk_180 ((dQ_X8_isPerson_0 6).trans dk_j6) ((dQ_X8_isPerson_0 7).trans dk_j7) ((dQ_X8_isPerson_0 8).trans dk_j8) dk_vu2_0_10
theorem dX8_isPerson_9 : decode cX8_isPerson 9 = .ok (.getfield 100, 3) := dk_180 ((dQ_X8_isPerson_0 9).trans dk_j9) ((dQ_X8_isPerson_0 10).trans dk_j10) ((dQ_X8_isPerson_0 11).trans dk_j11) dk_vu2_0_100
theorem dX8_isPerson_12 : decode cX8_isPerson 12 = .ok (.iconst 5, 1) := dk_8 ((dQ_X8_isPerson_0 12).trans dk_j12)
theorem dX8_isPerson_13 : decode cX8_isPerson 13 = .ok (.iaload, 1) := dk_46 ((dQ_X8_isPerson_0 13).trans dk_j13)
theorem dX8_isPerson_14 : decode cX8_isPerson 14 = .ok (.if_icmp .ge 7, 3) := dk_162 ((dQ_X8_isPerson_0 14).trans dk_j14) ((dQ_X8_isPerson_0 15).trans dk_j15) ((dQ_X8_isPerson_1 0).trans dk_j0) dk_vs2_0_7
theorem dX8_isPerson_17 : decode cX8_isPerson 17 = .ok (.iconst 1, 1) := dk_4 ((dQ_X8_isPerson_1 1).trans dk_j1)
theorem dX8_isPerson_18 : decode cX8_isPerson 18 = .ok (.goto 4, 3) := dk_167 ((dQ_X8_isPerson_1 2).trans dk_j2) ((dQ_X8_isPerson_1 3).trans dk_j3) ((dQ_X8_isPerson_1 4).trans dk_j4) dk_vs2_0_4
theorem dX8_isPerson_21 : decode cX8_isPerson 21 = .ok (.iconst 0, 1) := dk_3 ((dQ_X8_isPerson_1 5).trans dk_j5)
theorem dX8_isPerson_22 : decode cX8_isPerson 22 = .ok (.ireturn, 1) := dk_172 ((dQ_X8_isPerson_1 6).trans dk_j6)
def dT_X8_isPolicy_1 : List UInt8 := (0x00 : UInt8) :: (0x07 : UInt8) :: (0x04 : UInt8) :: (0xa7 : UInt8) :: (0x00 : UInt8) :: (0x04 : UInt8) :: (0x03 : UInt8) :: (0xac : UInt8) :: []
def dT_X8_isPolicy_0 : List UInt8 := (0x1b : UInt8) :: (0x9b : UInt8) :: (0x00 : UInt8) :: (0x15 : UInt8) :: (0x1b : UInt8) :: (0x2a : UInt8) :: (0xb4 : UInt8) :: (0x00 : UInt8) :: (0x0a : UInt8) :: (0xb4 : UInt8) :: (0x00 : UInt8) :: (0x64 : UInt8) :: (0x10 : UInt8) :: (0x08 : UInt8) :: (0x2e : UInt8) :: (0xa2 : UInt8) :: dT_X8_isPolicy_1
theorem dT_X8_isPolicy : cX8_isPolicy.data.toList = dT_X8_isPolicy_0 := eq_of_beq (show (cX8_isPolicy.data.toList == dT_X8_isPolicy_0) = true by decide +kernel)
theorem dQ_X8_isPolicy_0 : dQ_P cX8_isPolicy 0 dT_X8_isPolicy_0 := fun i => by rw [dT_X8_isPolicy]; rfl
theorem dQ_X8_isPolicy_1 : dQ_P cX8_isPolicy 16 dT_X8_isPolicy_1 := fun i => (dQ_X8_isPolicy_0 (i + 16)).trans dk_t
theorem dX8_isPolicy_0 : decode cX8_isPolicy 0 = .ok (.iload_n 1, 1) := dk_27 ((dQ_X8_isPolicy_0 0).trans dk_j0)
theorem dX8_isPolicy_1 : decode cX8_isPolicy 1 = .ok (.ifCond .lt 21, 3) := dk_155 ((dQ_X8_isPolicy_0 1).trans dk_j1) ((dQ_X8_isPolicy_0 2).trans dk_j2) ((dQ_X8_isPolicy_0 3).trans dk_j3) dk_vs2_0_21
theorem dX8_isPolicy_4 : decode cX8_isPolicy 4 = .ok (.iload_n 1, 1) := dk_27 ((dQ_X8_isPolicy_0 4).trans dk_j4)
theorem dX8_isPolicy_5 : decode cX8_isPolicy 5 = .ok (.aload_n 0, 1) := dk_42 ((dQ_X8_isPolicy_0 5).trans dk_j5)
theorem dX8_isPolicy_6 : decode cX8_isPolicy 6 = .ok (.getfield 10, 3) := dk_180 ((dQ_X8_isPolicy_0 6).trans dk_j6) ((dQ_X8_isPolicy_0 7).trans dk_j7) ((dQ_X8_isPolicy_0 8).trans dk_j8) dk_vu2_0_10
theorem dX8_isPolicy_9 : decode cX8_isPolicy 9 = .ok (.getfield 100, 3) := dk_180 ((dQ_X8_isPolicy_0 9).trans dk_j9) ((dQ_X8_isPolicy_0 10).trans dk_j10) ((dQ_X8_isPolicy_0 11).trans dk_j11) dk_vu2_0_100
theorem dX8_isPolicy_12 : decode cX8_isPolicy 12 = .ok (.bipush 8, 2) := dk_16 ((dQ_X8_isPolicy_0 12).trans dk_j12) ((dQ_X8_isPolicy_0 13).trans dk_j13) dk_vs1_8
theorem dX8_isPolicy_14 : decode cX8_isPolicy 14 = .ok (.iaload, 1) := dk_46 ((dQ_X8_isPolicy_0 14).trans dk_j14)
theorem dX8_isPolicy_15 : decode cX8_isPolicy 15 = .ok (.if_icmp .ge 7, 3) := dk_162 ((dQ_X8_isPolicy_0 15).trans dk_j15) ((dQ_X8_isPolicy_1 0).trans dk_j0) ((dQ_X8_isPolicy_1 1).trans dk_j1) dk_vs2_0_7
theorem dX8_isPolicy_18 : decode cX8_isPolicy 18 = .ok (.iconst 1, 1) := dk_4 ((dQ_X8_isPolicy_1 2).trans dk_j2)
theorem dX8_isPolicy_19 : decode cX8_isPolicy 19 = .ok (.goto 4, 3) := dk_167 ((dQ_X8_isPolicy_1 3).trans dk_j3) ((dQ_X8_isPolicy_1 4).trans dk_j4) ((dQ_X8_isPolicy_1 5).trans dk_j5) dk_vs2_0_4
theorem dX8_isPolicy_22 : decode cX8_isPolicy 22 = .ok (.iconst 0, 1) := dk_3 ((dQ_X8_isPolicy_1 6).trans dk_j6)
theorem dX8_isPolicy_23 : decode cX8_isPolicy 23 = .ok (.ireturn, 1) := dk_172 ((dQ_X8_isPolicy_1 7).trans dk_j7)
def dT_X8_isNet_1 : List UInt8 := (0x00 : UInt8) :: (0x07 : UInt8) :: (0x04 : UInt8) :: (0xa7 : UInt8) :: (0x00 : UInt8) :: (0x04 : UInt8) :: (0x03 : UInt8) :: (0xac : UInt8) :: []
def dT_X8_isNet_0 : List UInt8 := (0x1b : UInt8) :: (0x9b : UInt8) :: (0x00 : UInt8) :: (0x15 : UInt8) :: (0x1b : UInt8) :: (0x2a : UInt8) :: (0xb4 : UInt8) :: (0x00 : UInt8) :: (0x0a : UInt8) :: (0xb4 : UInt8) :: (0x00 : UInt8) :: (0x64 : UInt8) :: (0x10 : UInt8) :: (0x07 : UInt8) :: (0x2e : UInt8) :: (0xa2 : UInt8) :: dT_X8_isNet_1
theorem dT_X8_isNet : cX8_isNet.data.toList = dT_X8_isNet_0 := eq_of_beq (show (cX8_isNet.data.toList == dT_X8_isNet_0) = true by decide +kernel)
theorem dQ_X8_isNet_0 : dQ_P cX8_isNet 0 dT_X8_isNet_0 := fun i => by rw [dT_X8_isNet]; rfl
theorem dQ_X8_isNet_1 : dQ_P cX8_isNet 16 dT_X8_isNet_1 := fun i => (dQ_X8_isNet_0 (i + 16)).trans dk_t
theorem dX8_isNet_0 : decode cX8_isNet 0 = .ok (.iload_n 1, 1) := dk_27 ((dQ_X8_isNet_0 0).trans dk_j0)
theorem dX8_isNet_1 : decode cX8_isNet 1 = .ok (.ifCond .lt 21, 3) := dk_155 ((dQ_X8_isNet_0 1).trans dk_j1) ((dQ_X8_isNet_0 2).trans dk_j2) ((dQ_X8_isNet_0 3).trans dk_j3) dk_vs2_0_21
theorem dX8_isNet_4 : decode cX8_isNet 4 = .ok (.iload_n 1, 1) := dk_27 ((dQ_X8_isNet_0 4).trans dk_j4)
theorem dX8_isNet_5 : decode cX8_isNet 5 = .ok (.aload_n 0, 1) := dk_42 ((dQ_X8_isNet_0 5).trans dk_j5)
theorem dX8_isNet_6 : decode cX8_isNet 6 = .ok (.getfield 10, 3) := dk_180 ((dQ_X8_isNet_0 6).trans dk_j6) ((dQ_X8_isNet_0 7).trans dk_j7) ((dQ_X8_isNet_0 8).trans dk_j8) dk_vu2_0_10
theorem dX8_isNet_9 : decode cX8_isNet 9 = .ok (.getfield 100, 3) := dk_180 ((dQ_X8_isNet_0 9).trans dk_j9) ((dQ_X8_isNet_0 10).trans dk_j10) ((dQ_X8_isNet_0 11).trans dk_j11) dk_vu2_0_100
theorem dX8_isNet_12 : decode cX8_isNet 12 = .ok (.bipush 7, 2) := dk_16 ((dQ_X8_isNet_0 12).trans dk_j12) ((dQ_X8_isNet_0 13).trans dk_j13) dk_vs1_7
theorem dX8_isNet_14 : decode cX8_isNet 14 = .ok (.iaload, 1) := dk_46 ((dQ_X8_isNet_0 14).trans dk_j14)
theorem dX8_isNet_15 : decode cX8_isNet 15 = .ok (.if_icmp .ge 7, 3) := dk_162 ((dQ_X8_isNet_0 15).trans dk_j15) ((dQ_X8_isNet_1 0).trans dk_j0) ((dQ_X8_isNet_1 1).trans dk_j1) dk_vs2_0_7
theorem dX8_isNet_18 : decode cX8_isNet 18 = .ok (.iconst 1, 1) := dk_4 ((dQ_X8_isNet_1 2).trans dk_j2)
theorem dX8_isNet_19 : decode cX8_isNet 19 = .ok (.goto 4, 3) := dk_167 ((dQ_X8_isNet_1 3).trans dk_j3) ((dQ_X8_isNet_1 4).trans dk_j4) ((dQ_X8_isNet_1 5).trans dk_j5) dk_vs2_0_4
theorem dX8_isNet_22 : decode cX8_isNet 22 = .ok (.iconst 0, 1) := dk_3 ((dQ_X8_isNet_1 6).trans dk_j6)
theorem dX8_isNet_23 : decode cX8_isNet 23 = .ok (.ireturn, 1) := dk_172 ((dQ_X8_isNet_1 7).trans dk_j7)
def dT_X8_isMinute_1 : List UInt8 := (0x07 : UInt8) :: (0x04 : UInt8) :: (0xa7 : UInt8) :: (0x00 : UInt8) :: (0x04 : UInt8) :: (0x03 : UInt8) :: (0xac : UInt8) :: []
def dT_X8_isMinute_0 : List UInt8 := (0x1b : UInt8) :: (0x9b : UInt8) :: (0x00 : UInt8) :: (0x14 : UInt8) :: (0x1b : UInt8) :: (0x2a : UInt8) :: (0xb4 : UInt8) :: (0x00 : UInt8) :: (0x0a : UInt8) :: (0xb4 : UInt8) :: (0x00 : UInt8) :: (0x64 : UInt8) :: (0x03 : UInt8) :: (0x2e : UInt8) :: (0xa2 : UInt8) :: (0x00 : UInt8) :: dT_X8_isMinute_1
theorem dT_X8_isMinute : cX8_isMinute.data.toList = dT_X8_isMinute_0 := eq_of_beq (show (cX8_isMinute.data.toList == dT_X8_isMinute_0) = true by decide +kernel)
theorem dQ_X8_isMinute_0 : dQ_P cX8_isMinute 0 dT_X8_isMinute_0 := fun i => by rw [dT_X8_isMinute]; rfl
theorem dQ_X8_isMinute_1 : dQ_P cX8_isMinute 16 dT_X8_isMinute_1 := fun i => (dQ_X8_isMinute_0 (i + 16)).trans dk_t
theorem dX8_isMinute_0 : decode cX8_isMinute 0 = .ok (.iload_n 1, 1) := dk_27 ((dQ_X8_isMinute_0 0).trans dk_j0)
theorem dX8_isMinute_1 : decode cX8_isMinute 1 = .ok (.ifCond .lt 20, 3) := dk_155 ((dQ_X8_isMinute_0 1).trans dk_j1) ((dQ_X8_isMinute_0 2).trans dk_j2) ((dQ_X8_isMinute_0 3).trans dk_j3) dk_vs2_0_20
theorem dX8_isMinute_4 : decode cX8_isMinute 4 = .ok (.iload_n 1, 1) := dk_27 ((dQ_X8_isMinute_0 4).trans dk_j4)
theorem dX8_isMinute_5 : decode cX8_isMinute 5 = .ok (.aload_n 0, 1) := dk_42 ((dQ_X8_isMinute_0 5).trans dk_j5)
theorem dX8_isMinute_6 : decode cX8_isMinute 6 = .ok (.getfield 10, 3) := dk_180 ((dQ_X8_isMinute_0 6).trans dk_j6) ((dQ_X8_isMinute_0 7).trans dk_j7) ((dQ_X8_isMinute_0 8).trans dk_j8) dk_vu2_0_10
theorem dX8_isMinute_9 : decode cX8_isMinute 9 = .ok (.getfield 100, 3) := dk_180 ((dQ_X8_isMinute_0 9).trans dk_j9) ((dQ_X8_isMinute_0 10).trans dk_j10) ((dQ_X8_isMinute_0 11).trans dk_j11) dk_vu2_0_100
theorem dX8_isMinute_12 : decode cX8_isMinute 12 = .ok (.iconst 0, 1) := dk_3 ((dQ_X8_isMinute_0 12).trans dk_j12)
theorem dX8_isMinute_13 : decode cX8_isMinute 13 = .ok (.iaload, 1) := dk_46 ((dQ_X8_isMinute_0 13).trans dk_j13)
theorem dX8_isMinute_14 : decode cX8_isMinute 14 = .ok (.if_icmp .ge 7, 3) := dk_162 ((dQ_X8_isMinute_0 14).trans dk_j14) ((dQ_X8_isMinute_0 15).trans dk_j15) ((dQ_X8_isMinute_1 0).trans dk_j0) dk_vs2_0_7
theorem dX8_isMinute_17 : decode cX8_isMinute 17 = .ok (.iconst 1, 1) := dk_4 ((dQ_X8_isMinute_1 1).trans dk_j1)
theorem dX8_isMinute_18 : decode cX8_isMinute 18 = .ok (.goto 4, 3) := dk_167 ((dQ_X8_isMinute_1 2).trans dk_j2) ((dQ_X8_isMinute_1 3).trans dk_j3) ((dQ_X8_isMinute_1 4).trans dk_j4) dk_vs2_0_4
theorem dX8_isMinute_21 : decode cX8_isMinute 21 = .ok (.iconst 0, 1) := dk_3 ((dQ_X8_isMinute_1 5).trans dk_j5)
theorem dX8_isMinute_22 : decode cX8_isMinute 22 = .ok (.ireturn, 1) := dk_172 ((dQ_X8_isMinute_1 6).trans dk_j6)
def dT_X8_isPuffMinute_1 : List UInt8 := (0x00 : UInt8) :: (0x04 : UInt8) :: (0x03 : UInt8) :: (0xac : UInt8) :: []
def dT_X8_isPuffMinute_0 : List UInt8 := (0x2a : UInt8) :: (0x1b : UInt8) :: (0xb6 : UInt8) :: (0x00 : UInt8) :: (0x7d : UInt8) :: (0x99 : UInt8) :: (0x00 : UInt8) :: (0x0d : UInt8) :: (0x1b : UInt8) :: (0x10 : UInt8) :: (0x07 : UInt8) :: (0xa3 : UInt8) :: (0x00 : UInt8) :: (0x07 : UInt8) :: (0x04 : UInt8) :: (0xa7 : UInt8) :: dT_X8_isPuffMinute_1
theorem dT_X8_isPuffMinute : cX8_isPuffMinute.data.toList = dT_X8_isPuffMinute_0 := eq_of_beq (show (cX8_isPuffMinute.data.toList == dT_X8_isPuffMinute_0) = true by decide +kernel)
theorem dQ_X8_isPuffMinute_0 : dQ_P cX8_isPuffMinute 0 dT_X8_isPuffMinute_0 := fun i => by rw [dT_X8_isPuffMinute]; rfl
theorem dQ_X8_isPuffMinute_1 : dQ_P cX8_isPuffMinute 16 dT_X8_isPuffMinute_1 := fun i => (dQ_X8_isPuffMinute_0 (i + 16)).trans dk_t
theorem dX8_isPuffMinute_0 : decode cX8_isPuffMinute 0 = .ok (.aload_n 0, 1) := dk_42 ((dQ_X8_isPuffMinute_0 0).trans dk_j0)
theorem dX8_isPuffMinute_1 : decode cX8_isPuffMinute 1 = .ok (.iload_n 1, 1) := dk_27 ((dQ_X8_isPuffMinute_0 1).trans dk_j1)
theorem dX8_isPuffMinute_2 : decode cX8_isPuffMinute 2 = .ok (.invokevirtual 125, 3) := dk_182 ((dQ_X8_isPuffMinute_0 2).trans dk_j2) ((dQ_X8_isPuffMinute_0 3).trans dk_j3) ((dQ_X8_isPuffMinute_0 4).trans dk_j4) dk_vu2_0_125
theorem dX8_isPuffMinute_5 : decode cX8_isPuffMinute 5 = .ok (.ifCond .eq 13, 3) := dk_153 ((dQ_X8_isPuffMinute_0 5).trans dk_j5) ((dQ_X8_isPuffMinute_0 6).trans dk_j6) ((dQ_X8_isPuffMinute_0 7).trans dk_j7) dk_vs2_0_13
theorem dX8_isPuffMinute_8 : decode cX8_isPuffMinute 8 = .ok (.iload_n 1, 1) := dk_27 ((dQ_X8_isPuffMinute_0 8).trans dk_j8)
theorem dX8_isPuffMinute_9 : decode cX8_isPuffMinute 9 = .ok (.bipush 7, 2) := dk_16 ((dQ_X8_isPuffMinute_0 9).trans dk_j9) ((dQ_X8_isPuffMinute_0 10).trans dk_j10) dk_vs1_7
theorem dX8_isPuffMinute_11 : decode cX8_isPuffMinute 11 = .ok (.if_icmp .gt 7, 3) := dk_163 ((dQ_X8_isPuffMinute_0 11).trans dk_j11) ((dQ_X8_isPuffMinute_0 12).trans dk_j12) ((dQ_X8_isPuffMinute_0 13).trans dk_j13) dk_vs2_0_7
theorem dX8_isPuffMinute_14 : decode cX8_isPuffMinute 14 = .ok (.iconst 1, 1) := dk_4 ((dQ_X8_isPuffMinute_0 14).trans dk_j14)
theorem dX8_isPuffMinute_15 : decode cX8_isPuffMinute 15 = .ok (.goto 4, 3) := dk_167 ((dQ_X8_isPuffMinute_0 15).trans dk_j15) ((dQ_X8_isPuffMinute_1 0).trans dk_j0) ((dQ_X8_isPuffMinute_1 1).trans dk_j1) dk_vs2_0_4
theorem dX8_isPuffMinute_18 : decode cX8_isPuffMinute 18 = .ok (.iconst 0, 1) := dk_3 ((dQ_X8_isPuffMinute_1 2).trans dk_j2)
theorem dX8_isPuffMinute_19 : decode cX8_isPuffMinute 19 = .ok (.ireturn, 1) := dk_172 ((dQ_X8_isPuffMinute_1 3).trans dk_j3)
def dT_X8_isSeed_1 : List UInt8 := (0xac : UInt8) :: []
def dT_X8_isSeed_0 : List UInt8 := (0x1a : UInt8) :: (0x9b : UInt8) :: (0x00 : UInt8) :: (0x0e : UInt8) :: (0x1a : UInt8) :: (0x13 : UInt8) :: (0x01 : UInt8) :: (0x78 : UInt8) :: (0xa3 : UInt8) :: (0x00 : UInt8) :: (0x07 : UInt8) :: (0x04 : UInt8) :: (0xa7 : UInt8) :: (0x00 : UInt8) :: (0x04 : UInt8) :: (0x03 : UInt8) :: dT_X8_isSeed_1
theorem dT_X8_isSeed : cX8_isSeed.data.toList = dT_X8_isSeed_0 := eq_of_beq (show (cX8_isSeed.data.toList == dT_X8_isSeed_0) = true by decide +kernel)
theorem dQ_X8_isSeed_0 : dQ_P cX8_isSeed 0 dT_X8_isSeed_0 := fun i => by rw [dT_X8_isSeed]; rfl
theorem dQ_X8_isSeed_1 : dQ_P cX8_isSeed 16 dT_X8_isSeed_1 := fun i => (dQ_X8_isSeed_0 (i + 16)).trans dk_t
theorem dX8_isSeed_0 : decode cX8_isSeed 0 = .ok (.iload_n 0, 1) := dk_26 ((dQ_X8_isSeed_0 0).trans dk_j0)
theorem dX8_isSeed_1 : decode cX8_isSeed 1 = .ok (.ifCond .lt 14, 3) := dk_155 ((dQ_X8_isSeed_0 1).trans dk_j1) ((dQ_X8_isSeed_0 2).trans dk_j2) ((dQ_X8_isSeed_0 3).trans dk_j3) dk_vs2_0_14
theorem dX8_isSeed_4 : decode cX8_isSeed 4 = .ok (.iload_n 0, 1) := dk_26 ((dQ_X8_isSeed_0 4).trans dk_j4)
theorem dk_vu2_1_120 : (0x01 : UInt8).toNat * 256 + (0x78 : UInt8).toNat = (376 : Nat) := by decide +kernel
theorem dX8_isSeed_5 : decode cX8_isSeed 5 = .ok (.ldc_w 376, 3) := dk_19 ((dQ_X8_isSeed_0 5).trans dk_j5) ((dQ_X8_isSeed_0 6).trans dk_j6) ((dQ_X8_isSeed_0 7).trans dk_j7) dk_vu2_1_120
theorem dX8_isSeed_8 : decode cX8_isSeed 8 = .ok (.if_icmp .gt 7, 3) := dk_163 ((dQ_X8_isSeed_0 8).trans dk_j8) ((dQ_X8_isSeed_0 9).trans dk_j9) ((dQ_X8_isSeed_0 10).trans dk_j10) dk_vs2_0_7
theorem dX8_isSeed_11 : decode cX8_isSeed 11 = .ok (.iconst 1, 1) := dk_4 ((dQ_X8_isSeed_0 11).trans dk_j11)
theorem dX8_isSeed_12 : decode cX8_isSeed 12 = .ok (.goto 4, 3) := dk_167 ((dQ_X8_isSeed_0 12).trans dk_j12) ((dQ_X8_isSeed_0 13).trans dk_j13) ((dQ_X8_isSeed_0 14).trans dk_j14) dk_vs2_0_4
theorem dX8_isSeed_15 : decode cX8_isSeed 15 = .ok (.iconst 0, 1) := dk_3 ((dQ_X8_isSeed_0 15).trans dk_j15)
theorem dX8_isSeed_16 : decode cX8_isSeed 16 = .ok (.ireturn, 1) := dk_172 ((dQ_X8_isSeed_1 0).trans dk_j0)
def dT_X8_minutesCovered_3 : List UInt8 := (0x1c : UInt8) :: (0x2a : UInt8) :: (0xb4 : UInt8) :: (0x00 : UInt8) :: (0x0a : UInt8) :: (0xb4 : UInt8) :: (0x00 : UInt8) :: (0x64 : UInt8) :: (0x03 : UInt8) :: (0x2e : UInt8) :: (0xb8 : UInt8) :: (0x00 : UInt8) :: (0xae : UInt8) :: (0x7e : UInt8) :: (0xac : UInt8) :: []
def dT_X8_minutesCovered_2 : List UInt8 := (0x2a : UInt8) :: (0xb4 : UInt8) :: (0x00 : UInt8) :: (0x0a : UInt8) :: (0x1d : UInt8) :: (0xb6 : UInt8) :: (0x00 : UInt8) :: (0xb4 : UInt8) :: (0x80 : UInt8) :: (0x3d : UInt8) :: (0x84 : UInt8) :: (0x03 : UInt8) :: (0x01 : UInt8) :: (0xa7 : UInt8) :: (0xff : UInt8) :: (0xd7 : UInt8) :: dT_X8_minutesCovered_3
def dT_X8_minutesCovered_1 : List UInt8 := (0x00 : UInt8) :: (0x21 : UInt8) :: (0x2a : UInt8) :: (0xb4 : UInt8) :: (0x00 : UInt8) :: (0x0a : UInt8) :: (0x1d : UInt8) :: (0x03 : UInt8) :: (0xb6 : UInt8) :: (0x00 : UInt8) :: (0x75 : UInt8) :: (0x1b : UInt8) :: (0xa0 : UInt8) :: (0x00 : UInt8) :: (0x0e : UInt8) :: (0x1c : UInt8) :: dT_X8_minutesCovered_2
def dT_X8_minutesCovered_0 : List UInt8 := (0x03 : UInt8) :: (0x3d : UInt8) :: (0x03 : UInt8) :: (0x3e : UInt8) :: (0x1d : UInt8) :: (0x2a : UInt8) :: (0xb4 : UInt8) :: (0x00 : UInt8) :: (0x0a : UInt8) :: (0xb4 : UInt8) :: (0x00 : UInt8) :: (0x64 : UInt8) :: (0x10 : UInt8) :: (0x08 : UInt8) :: (0x2e : UInt8) :: (0xa2 : UInt8) :: dT_X8_minutesCovered_1
theorem dT_X8_minutesCovered : cX8_minutesCovered.data.toList = dT_X8_minutesCovered_0 := eq_of_beq (show (cX8_minutesCovered.data.toList == dT_X8_minutesCovered_0) = true by decide +kernel)
theorem dQ_X8_minutesCovered_0 : dQ_P cX8_minutesCovered 0 dT_X8_minutesCovered_0 := fun i => by rw [dT_X8_minutesCovered]; rfl
theorem dQ_X8_minutesCovered_1 : dQ_P cX8_minutesCovered 16 dT_X8_minutesCovered_1 := fun i => (dQ_X8_minutesCovered_0 (i + 16)).trans dk_t
theorem dQ_X8_minutesCovered_2 : dQ_P cX8_minutesCovered 32 dT_X8_minutesCovered_2 := fun i => (dQ_X8_minutesCovered_1 (i + 16)).trans dk_t
theorem dQ_X8_minutesCovered_3 : dQ_P cX8_minutesCovered 48 dT_X8_minutesCovered_3 := fun i => (dQ_X8_minutesCovered_2 (i + 16)).trans dk_t
theorem dX8_minutesCovered_0 : decode cX8_minutesCovered 0 = .ok (.iconst 0, 1) := dk_3 ((dQ_X8_minutesCovered_0 0).trans dk_j0)
theorem dX8_minutesCovered_1 : decode cX8_minutesCovered 1 = .ok (.istore_n 2, 1) := dk_61 ((dQ_X8_minutesCovered_0 1).trans dk_j1)
theorem dX8_minutesCovered_2 : decode cX8_minutesCovered 2 = .ok (.iconst 0, 1) := dk_3 ((dQ_X8_minutesCovered_0 2).trans dk_j2)
theorem dX8_minutesCovered_3 : decode cX8_minutesCovered 3 = .ok (.istore_n 3, 1) := dk_62 ((dQ_X8_minutesCovered_0 3).trans dk_j3)
theorem dX8_minutesCovered_4 : decode cX8_minutesCovered 4 = .ok (.iload_n 3, 1) := dk_29 ((dQ_X8_minutesCovered_0 4).trans dk_j4)
theorem dX8_minutesCovered_5 : decode cX8_minutesCovered 5 = .ok (.aload_n 0, 1) := dk_42 ((dQ_X8_minutesCovered_0 5).trans dk_j5)
theorem dX8_minutesCovered_6 : decode cX8_minutesCovered 6 = .ok (.getfield 10, 3) := dk_180 ((dQ_X8_minutesCovered_0 6).trans dk_j6) ((dQ_X8_minutesCovered_0 7).trans dk_j7) ((dQ_X8_minutesCovered_0 8).trans dk_j8) dk_vu2_0_10
theorem dX8_minutesCovered_9 : decode cX8_minutesCovered 9 = .ok (.getfield 100, 3) := dk_180 ((dQ_X8_minutesCovered_0 9).trans dk_j9) ((dQ_X8_minutesCovered_0 10).trans dk_j10) ((dQ_X8_minutesCovered_0 11).trans dk_j11) dk_vu2_0_100
theorem dX8_minutesCovered_12 : decode cX8_minutesCovered 12 = .ok (.bipush 8, 2) := dk_16 ((dQ_X8_minutesCovered_0 12).trans dk_j12) ((dQ_X8_minutesCovered_0 13).trans dk_j13) dk_vs1_8
theorem dX8_minutesCovered_14 : decode cX8_minutesCovered 14 = .ok (.iaload, 1) := dk_46 ((dQ_X8_minutesCovered_0 14).trans dk_j14)
theorem dk_vs2_0_33 : Reader.signed 16 ((0x00 : UInt8).toNat * 256 + (0x21 : UInt8).toNat) = (33 : Int) := by decide +kernel
theorem dX8_minutesCovered_15 : decode cX8_minutesCovered 15 = .ok (.if_icmp .ge 33, 3) := dk_162 ((dQ_X8_minutesCovered_0 15).trans dk_j15) ((dQ_X8_minutesCovered_1 0).trans dk_j0) ((dQ_X8_minutesCovered_1 1).trans dk_j1) dk_vs2_0_33
theorem dX8_minutesCovered_18 : decode cX8_minutesCovered 18 = .ok (.aload_n 0, 1) := dk_42 ((dQ_X8_minutesCovered_1 2).trans dk_j2)
theorem dX8_minutesCovered_19 : decode cX8_minutesCovered 19 = .ok (.getfield 10, 3) := dk_180 ((dQ_X8_minutesCovered_1 3).trans dk_j3) ((dQ_X8_minutesCovered_1 4).trans dk_j4) ((dQ_X8_minutesCovered_1 5).trans dk_j5) dk_vu2_0_10
theorem dX8_minutesCovered_22 : decode cX8_minutesCovered 22 = .ok (.iload_n 3, 1) := dk_29 ((dQ_X8_minutesCovered_1 6).trans dk_j6)
theorem dX8_minutesCovered_23 : decode cX8_minutesCovered 23 = .ok (.iconst 0, 1) := dk_3 ((dQ_X8_minutesCovered_1 7).trans dk_j7)
theorem dX8_minutesCovered_24 : decode cX8_minutesCovered 24 = .ok (.invokevirtual 117, 3) := dk_182 ((dQ_X8_minutesCovered_1 8).trans dk_j8) ((dQ_X8_minutesCovered_1 9).trans dk_j9) ((dQ_X8_minutesCovered_1 10).trans dk_j10) dk_vu2_0_117
theorem dX8_minutesCovered_27 : decode cX8_minutesCovered 27 = .ok (.iload_n 1, 1) := dk_27 ((dQ_X8_minutesCovered_1 11).trans dk_j11)
theorem dX8_minutesCovered_28 : decode cX8_minutesCovered 28 = .ok (.if_icmp .ne 14, 3) := dk_160 ((dQ_X8_minutesCovered_1 12).trans dk_j12) ((dQ_X8_minutesCovered_1 13).trans dk_j13) ((dQ_X8_minutesCovered_1 14).trans dk_j14) dk_vs2_0_14
theorem dX8_minutesCovered_31 : decode cX8_minutesCovered 31 = .ok (.iload_n 2, 1) := dk_28 ((dQ_X8_minutesCovered_1 15).trans dk_j15)
theorem dX8_minutesCovered_32 : decode cX8_minutesCovered 32 = .ok (.aload_n 0, 1) := dk_42 ((dQ_X8_minutesCovered_2 0).trans dk_j0)
theorem dX8_minutesCovered_33 : decode cX8_minutesCovered 33 = .ok (.getfield 10, 3) := dk_180 ((dQ_X8_minutesCovered_2 1).trans dk_j1) ((dQ_X8_minutesCovered_2 2).trans dk_j2) ((dQ_X8_minutesCovered_2 3).trans dk_j3) dk_vu2_0_10
theorem dX8_minutesCovered_36 : decode cX8_minutesCovered 36 = .ok (.iload_n 3, 1) := dk_29 ((dQ_X8_minutesCovered_2 4).trans dk_j4)
theorem dX8_minutesCovered_37 : decode cX8_minutesCovered 37 = .ok (.invokevirtual 180, 3) := dk_182 ((dQ_X8_minutesCovered_2 5).trans dk_j5) ((dQ_X8_minutesCovered_2 6).trans dk_j6) ((dQ_X8_minutesCovered_2 7).trans dk_j7) dk_vu2_0_180
theorem dX8_minutesCovered_40 : decode cX8_minutesCovered 40 = .ok (.ior, 1) := dk_128 ((dQ_X8_minutesCovered_2 8).trans dk_j8)
theorem dX8_minutesCovered_41 : decode cX8_minutesCovered 41 = .ok (.istore_n 2, 1) := dk_61 ((dQ_X8_minutesCovered_2 9).trans dk_j9)
theorem dX8_minutesCovered_42 : decode cX8_minutesCovered 42 = .ok (.iinc 3 1, 3) := dk_132 ((dQ_X8_minutesCovered_2 10).trans dk_j10) ((dQ_X8_minutesCovered_2 11).trans dk_j11) ((dQ_X8_minutesCovered_2 12).trans dk_j12) dk_vu1_3 dk_vs1_1
theorem dX8_minutesCovered_45 : decode cX8_minutesCovered 45 = .ok (.goto (-41), 3) := dk_167 ((dQ_X8_minutesCovered_2 13).trans dk_j13) ((dQ_X8_minutesCovered_2 14).trans dk_j14) ((dQ_X8_minutesCovered_2 15).trans dk_j15) dk_vs2_255_215
theorem dX8_minutesCovered_48 : decode cX8_minutesCovered 48 = .ok (.iload_n 2, 1) := dk_28 ((dQ_X8_minutesCovered_3 0).trans dk_j0)
theorem dX8_minutesCovered_49 : decode cX8_minutesCovered 49 = .ok (.aload_n 0, 1) := dk_42 ((dQ_X8_minutesCovered_3 1).trans dk_j1)
theorem dX8_minutesCovered_50 : decode cX8_minutesCovered 50 = .ok (.getfield 10, 3) := dk_180 ((dQ_X8_minutesCovered_3 2).trans dk_j2) ((dQ_X8_minutesCovered_3 3).trans dk_j3) ((dQ_X8_minutesCovered_3 4).trans dk_j4) dk_vu2_0_10
theorem dX8_minutesCovered_53 : decode cX8_minutesCovered 53 = .ok (.getfield 100, 3) := dk_180 ((dQ_X8_minutesCovered_3 5).trans dk_j5) ((dQ_X8_minutesCovered_3 6).trans dk_j6) ((dQ_X8_minutesCovered_3 7).trans dk_j7) dk_vu2_0_100
theorem dX8_minutesCovered_56 : decode cX8_minutesCovered 56 = .ok (.iconst 0, 1) := dk_3 ((dQ_X8_minutesCovered_3 8).trans dk_j8)
theorem dX8_minutesCovered_57 : decode cX8_minutesCovered 57 = .ok (.iaload, 1) := dk_46 ((dQ_X8_minutesCovered_3 9).trans dk_j9)
theorem dX8_minutesCovered_58 : decode cX8_minutesCovered 58 = .ok (.invokestatic 174, 3) := dk_184 ((dQ_X8_minutesCovered_3 10).trans dk_j10) ((dQ_X8_minutesCovered_3 11).trans dk_j11) ((dQ_X8_minutesCovered_3 12).trans dk_j12) dk_vu2_0_174
theorem dX8_minutesCovered_61 : decode cX8_minutesCovered 61 = .ok (.iand, 1) := dk_126 ((dQ_X8_minutesCovered_3 13).trans dk_j13)
theorem dX8_minutesCovered_62 : decode cX8_minutesCovered 62 = .ok (.ireturn, 1) := dk_172 ((dQ_X8_minutesCovered_3 14).trans dk_j14)
def dT_X8_hasBit_0 : List UInt8 := (0x1a : UInt8) :: (0x1b : UInt8) :: (0x7a : UInt8) :: (0x04 : UInt8) :: (0x7e : UInt8) :: (0x04 : UInt8) :: (0xa0 : UInt8) :: (0x00 : UInt8) :: (0x07 : UInt8) :: (0x04 : UInt8) :: (0xa7 : UInt8) :: (0x00 : UInt8) :: (0x04 : UInt8) :: (0x03 : UInt8) :: (0xac : UInt8) :: []
theorem dT_X8_hasBit : cX8_hasBit.data.toList = dT_X8_hasBit_0 := eq_of_beq (show (cX8_hasBit.data.toList == dT_X8_hasBit_0) = true by decide +kernel)
theorem dQ_X8_hasBit_0 : dQ_P cX8_hasBit 0 dT_X8_hasBit_0 := fun i => by rw [dT_X8_hasBit]; rfl
theorem dX8_hasBit_0 : decode cX8_hasBit 0 = .ok (.iload_n 0, 1) := dk_26 ((dQ_X8_hasBit_0 0).trans dk_j0)
theorem dX8_hasBit_1 : decode cX8_hasBit 1 = .ok (.iload_n 1, 1) := dk_27 ((dQ_X8_hasBit_0 1).trans dk_j1)
theorem dX8_hasBit_2 : decode cX8_hasBit 2 = .ok (.ishr, 1) := dk_122 ((dQ_X8_hasBit_0 2).trans dk_j2)
theorem dX8_hasBit_3 : decode cX8_hasBit 3 = .ok (.iconst 1, 1) := dk_4 ((dQ_X8_hasBit_0 3).trans dk_j3)
theorem dX8_hasBit_4 : decode cX8_hasBit 4 = .ok (.iand, 1) := dk_126 ((dQ_X8_hasBit_0 4).trans dk_j4)
theorem dX8_hasBit_5 : decode cX8_hasBit 5 = .ok (.iconst 1, 1) := dk_4 ((dQ_X8_hasBit_0 5).trans dk_j5)
theorem dX8_hasBit_6 : decode cX8_hasBit 6 = .ok (.if_icmp .ne 7, 3) := dk_160 ((dQ_X8_hasBit_0 6).trans dk_j6) ((dQ_X8_hasBit_0 7).trans dk_j7) ((dQ_X8_hasBit_0 8).trans dk_j8) dk_vs2_0_7
theorem dX8_hasBit_9 : decode cX8_hasBit 9 = .ok (.iconst 1, 1) := dk_4 ((dQ_X8_hasBit_0 9).trans dk_j9)
theorem dX8_hasBit_10 : decode cX8_hasBit 10 = .ok (.goto 4, 3) := dk_167 ((dQ_X8_hasBit_0 10).trans dk_j10) ((dQ_X8_hasBit_0 11).trans dk_j11) ((dQ_X8_hasBit_0 12).trans dk_j12) dk_vs2_0_4
theorem dX8_hasBit_13 : decode cX8_hasBit 13 = .ok (.iconst 0, 1) := dk_3 ((dQ_X8_hasBit_0 13).trans dk_j13)
theorem dX8_hasBit_14 : decode cX8_hasBit 14 = .ok (.ireturn, 1) := dk_172 ((dQ_X8_hasBit_0 14).trans dk_j14)
def dT_X8_firstMinutes_0 : List UInt8 := (0x04 : UInt8) :: (0x1a : UInt8) :: (0x78 : UInt8) :: (0x04 : UInt8) :: (0x64 : UInt8) :: (0xac : UInt8) :: []
theorem dT_X8_firstMinutes : cX8_firstMinutes.data.toList = dT_X8_firstMinutes_0 := eq_of_beq (show (cX8_firstMinutes.data.toList == dT_X8_firstMinutes_0) = true by decide +kernel)
theorem dQ_X8_firstMinutes_0 : dQ_P cX8_firstMinutes 0 dT_X8_firstMinutes_0 := fun i => by rw [dT_X8_firstMinutes]; rfl
theorem dX8_firstMinutes_0 : decode cX8_firstMinutes 0 = .ok (.iconst 1, 1) := dk_4 ((dQ_X8_firstMinutes_0 0).trans dk_j0)
theorem dX8_firstMinutes_1 : decode cX8_firstMinutes 1 = .ok (.iload_n 0, 1) := dk_26 ((dQ_X8_firstMinutes_0 1).trans dk_j1)
theorem dX8_firstMinutes_2 : decode cX8_firstMinutes 2 = .ok (.ishl, 1) := dk_120 ((dQ_X8_firstMinutes_0 2).trans dk_j2)
theorem dX8_firstMinutes_3 : decode cX8_firstMinutes 3 = .ok (.iconst 1, 1) := dk_4 ((dQ_X8_firstMinutes_0 3).trans dk_j3)
theorem dX8_firstMinutes_4 : decode cX8_firstMinutes 4 = .ok (.isub, 1) := dk_100 ((dQ_X8_firstMinutes_0 4).trans dk_j4)
theorem dX8_firstMinutes_5 : decode cX8_firstMinutes 5 = .ok (.ireturn, 1) := dk_172 ((dQ_X8_firstMinutes_0 5).trans dk_j5)
def dT_X8_lowestBit_1 : List UInt8 := (0xa5 : UInt8) :: (0xac : UInt8) :: []
def dT_X8_lowestBit_0 : List UInt8 := (0x1a : UInt8) :: (0x9a : UInt8) :: (0x00 : UInt8) :: (0x07 : UInt8) :: (0x02 : UInt8) :: (0xa7 : UInt8) :: (0x00 : UInt8) :: (0x0c : UInt8) :: (0x1a : UInt8) :: (0x1a : UInt8) :: (0x74 : UInt8) :: (0x7e : UInt8) :: (0x04 : UInt8) :: (0x64 : UInt8) :: (0xb8 : UInt8) :: (0x00 : UInt8) :: dT_X8_lowestBit_1
theorem dT_X8_lowestBit : cX8_lowestBit.data.toList = dT_X8_lowestBit_0 := eq_of_beq (show (cX8_lowestBit.data.toList == dT_X8_lowestBit_0) = true by decide +kernel)
theorem dQ_X8_lowestBit_0 : dQ_P cX8_lowestBit 0 dT_X8_lowestBit_0 := fun i => by rw [dT_X8_lowestBit]; rfl
theorem dQ_X8_lowestBit_1 : dQ_P cX8_lowestBit 16 dT_X8_lowestBit_1 := fun i => (dQ_X8_lowestBit_0 (i + 16)).trans dk_t
theorem dX8_lowestBit_0 : decode cX8_lowestBit 0 = .ok (.iload_n 0, 1) := dk_26 ((dQ_X8_lowestBit_0 0).trans dk_j0)
theorem dX8_lowestBit_1 : decode cX8_lowestBit 1 = .ok (.ifCond .ne 7, 3) := dk_154 ((dQ_X8_lowestBit_0 1).trans dk_j1) ((dQ_X8_lowestBit_0 2).trans dk_j2) ((dQ_X8_lowestBit_0 3).trans dk_j3) dk_vs2_0_7
theorem dX8_lowestBit_4 : decode cX8_lowestBit 4 = .ok (.iconst (-1), 1) := dk_2 ((dQ_X8_lowestBit_0 4).trans dk_j4)
theorem dX8_lowestBit_5 : decode cX8_lowestBit 5 = .ok (.goto 12, 3) := dk_167 ((dQ_X8_lowestBit_0 5).trans dk_j5) ((dQ_X8_lowestBit_0 6).trans dk_j6) ((dQ_X8_lowestBit_0 7).trans dk_j7) dk_vs2_0_12
theorem dX8_lowestBit_8 : decode cX8_lowestBit 8 = .ok (.iload_n 0, 1) := dk_26 ((dQ_X8_lowestBit_0 8).trans dk_j8)
theorem dX8_lowestBit_9 : decode cX8_lowestBit 9 = .ok (.iload_n 0, 1) := dk_26 ((dQ_X8_lowestBit_0 9).trans dk_j9)
theorem dX8_lowestBit_10 : decode cX8_lowestBit 10 = .ok (.ineg, 1) := dk_116 ((dQ_X8_lowestBit_0 10).trans dk_j10)
theorem dX8_lowestBit_11 : decode cX8_lowestBit 11 = .ok (.iand, 1) := dk_126 ((dQ_X8_lowestBit_0 11).trans dk_j11)
theorem dX8_lowestBit_12 : decode cX8_lowestBit 12 = .ok (.iconst 1, 1) := dk_4 ((dQ_X8_lowestBit_0 12).trans dk_j12)
theorem dX8_lowestBit_13 : decode cX8_lowestBit 13 = .ok (.isub, 1) := dk_100 ((dQ_X8_lowestBit_0 13).trans dk_j13)
theorem dX8_lowestBit_14 : decode cX8_lowestBit 14 = .ok (.invokestatic 165, 3) := dk_184 ((dQ_X8_lowestBit_0 14).trans dk_j14) ((dQ_X8_lowestBit_0 15).trans dk_j15) ((dQ_X8_lowestBit_1 0).trans dk_j0) dk_vu2_0_165
theorem dX8_lowestBit_17 : decode cX8_lowestBit 17 = .ok (.ireturn, 1) := dk_172 ((dQ_X8_lowestBit_1 1).trans dk_j1)
