def dT_X0_init_5 : List UInt8 := (0xb5 : UInt8) :: (0x00 : UInt8) :: (0x28 : UInt8) :: (0x2a : UInt8) :: (0x10 : UInt8) :: (0x06 : UInt8) :: (0xbc : UInt8) :: (0x0a : UInt8) :: (0xb5 : UInt8) :: (0x00 : UInt8) :: (0x2b : UInt8) :: (0xb1 : UInt8) :: []
def dT_X0_init_4 : List UInt8 := (0x00 : UInt8) :: (0x22 : UInt8) :: (0x2a : UInt8) :: (0x11 : UInt8) :: (0x00 : UInt8) :: (0xb4 : UInt8) :: (0xbc : UInt8) :: (0x0a : UInt8) :: (0xb5 : UInt8) :: (0x00 : UInt8) :: (0x25 : UInt8) :: (0x2a : UInt8) :: (0x10 : UInt8) :: (0x1e : UInt8) :: (0xbc : UInt8) :: (0x0a : UInt8) :: dT_X0_init_5
def dT_X0_init_3 : List UInt8 := (0x1c : UInt8) :: (0x2a : UInt8) :: (0x10 : UInt8) :: (0x10 : UInt8) :: (0xbc : UInt8) :: (0x0a : UInt8) :: (0xb5 : UInt8) :: (0x00 : UInt8) :: (0x1f : UInt8) :: (0x2a : UInt8) :: (0x11 : UInt8) :: (0x00 : UInt8) :: (0xb4 : UInt8) :: (0xbc : UInt8) :: (0x0a : UInt8) :: (0xb5 : UInt8) :: dT_X0_init_4
def dT_X0_init_2 : List UInt8 := (0x16 : UInt8) :: (0x2a : UInt8) :: (0x10 : UInt8) :: (0x06 : UInt8) :: (0xbc : UInt8) :: (0x0a : UInt8) :: (0xb5 : UInt8) :: (0x00 : UInt8) :: (0x19 : UInt8) :: (0x2a : UInt8) :: (0x10 : UInt8) :: (0x06 : UInt8) :: (0xbc : UInt8) :: (0x0a : UInt8) :: (0xb5 : UInt8) :: (0x00 : UInt8) :: dT_X0_init_3
def dT_X0_init_1 : List UInt8 := (0x0f : UInt8) :: (0x2a : UInt8) :: (0x10 : UInt8) :: (0x06 : UInt8) :: (0xbc : UInt8) :: (0x0a : UInt8) :: (0xb5 : UInt8) :: (0x00 : UInt8) :: (0x13 : UInt8) :: (0x2a : UInt8) :: (0x10 : UInt8) :: (0x06 : UInt8) :: (0xbc : UInt8) :: (0x0a : UInt8) :: (0xb5 : UInt8) :: (0x00 : UInt8) :: dT_X0_init_2
def dT_X0_init_0 : List UInt8 := (0x2a : UInt8) :: (0xb7 : UInt8) :: (0x00 : UInt8) :: (0x03 : UInt8) :: (0x2a : UInt8) :: (0x02 : UInt8) :: (0xb5 : UInt8) :: (0x00 : UInt8) :: (0x09 : UInt8) :: (0x2a : UInt8) :: (0x10 : UInt8) :: (0x1e : UInt8) :: (0xbc : UInt8) :: (0x0a : UInt8) :: (0xb5 : UInt8) :: (0x00 : UInt8) :: dT_X0_init_1
theorem dT_X0_init : cX0_init.data.toList = dT_X0_init_0 := eq_of_beq (show (cX0_init.data.toList == dT_X0_init_0) = true by decide +kernel)
theorem dQ_X0_init_0 : dQ_P cX0_init 0 dT_X0_init_0 := fun i => by rw [dT_X0_init]; rfl
theorem dQ_X0_init_1 : dQ_P cX0_init 16 dT_X0_init_1 := fun i => (dQ_X0_init_0 (i + 16)).trans dk_t
theorem dQ_X0_init_2 : dQ_P cX0_init 32 dT_X0_init_2 := fun i => (dQ_X0_init_1 (i + 16)).trans dk_t
theorem dQ_X0_init_3 : dQ_P cX0_init 48 dT_X0_init_3 := fun i => (dQ_X0_init_2 (i + 16)).trans dk_t
theorem dQ_X0_init_4 : dQ_P cX0_init 64 dT_X0_init_4 := fun i => (dQ_X0_init_3 (i + 16)).trans dk_t
theorem dQ_X0_init_5 : dQ_P cX0_init 80 dT_X0_init_5 := fun i => (dQ_X0_init_4 (i + 16)).trans dk_t
theorem dX0_init_0 : decode cX0_init 0 = .ok (.aload_n 0, 1) := dk_42 ((dQ_X0_init_0 0).trans dk_j0)
theorem dX0_init_1 : decode cX0_init 1 = .ok (.invokespecial 3, 3) := dk_183 ((dQ_X0_init_0 1).trans dk_j1) ((dQ_X0_init_0 2).trans dk_j2) ((dQ_X0_init_0 3).trans dk_j3) dk_vu2_0_3
theorem dX0_init_4 : decode cX0_init 4 = .ok (.aload_n 0, 1) := dk_42 ((dQ_X0_init_0 4).trans dk_j4)
theorem dX0_init_5 : decode cX0_init 5 = .ok (.iconst (-1), 1) := dk_2 ((dQ_X0_init_0 5).trans dk_j5)
theorem dX0_init_6 : decode cX0_init 6 = .ok (.putfield 9, 3) := dk_181 ((dQ_X0_init_0 6).trans dk_j6) ((dQ_X0_init_0 7).trans dk_j7) ((dQ_X0_init_0 8).trans dk_j8) dk_vu2_0_9
theorem dX0_init_9 : decode cX0_init 9 = .ok (.aload_n 0, 1) := dk_42 ((dQ_X0_init_0 9).trans dk_j9)
theorem dX0_init_10 : decode cX0_init 10 = .ok (.bipush 30, 2) := dk_16 ((dQ_X0_init_0 10).trans dk_j10) ((dQ_X0_init_0 11).trans dk_j11) dk_vs1_30
theorem dX0_init_12 : decode cX0_init 12 = .ok (.newarray .int, 2) := by decide +kernel
theorem dk_vu2_0_15 : (0x00 : UInt8).toNat * 256 + (0x0f : UInt8).toNat = (15 : Nat) := by decide +kernel
theorem dX0_init_14 : decode cX0_init 14 = .ok (.putfield 15, 3) := dk_181 ((dQ_X0_init_0 14).trans dk_j14) ((dQ_X0_init_0 15).trans dk_j15) ((dQ_X0_init_1 0).trans dk_j0) dk_vu2_0_15
theorem dX0_init_17 : decode cX0_init 17 = .ok (.aload_n 0, 1) := dk_42 ((dQ_X0_init_1 1).trans dk_j1)
theorem dX0_init_18 : decode cX0_init 18 = .ok (.bipush 6, 2) := dk_16 ((dQ_X0_init_1 2).trans dk_j2) ((dQ_X0_init_1 3).trans dk_j3) dk_vs1_6
theorem dX0_init_20 : decode cX0_init 20 = .ok (.newarray .int, 2) := by decide +kernel
theorem dX0_init_22 : decode cX0_init 22 = .ok (.putfield 19, 3) := dk_181 ((dQ_X0_init_1 6).trans dk_j6) ((dQ_X0_init_1 7).trans dk_j7) ((dQ_X0_init_1 8).trans dk_j8) dk_vu2_0_19
theorem dX0_init_25 : decode cX0_init 25 = .ok (.aload_n 0, 1) := dk_42 ((dQ_X0_init_1 9).trans dk_j9)
theorem dX0_init_26 : decode cX0_init 26 = .ok (.bipush 6, 2) := dk_16 ((dQ_X0_init_1 10).trans dk_j10) ((dQ_X0_init_1 11).trans dk_j11) dk_vs1_6
theorem dX0_init_28 : decode cX0_init 28 = .ok (.newarray .int, 2) := by decide +kernel
theorem dk_vu2_0_22 : (0x00 : UInt8).toNat * 256 + (0x16 : UInt8).toNat = (22 : Nat) := by decide +kernel
theorem dX0_init_30 : decode cX0_init 30 = .ok (.putfield 22, 3) := dk_181 ((dQ_X0_init_1 14).trans dk_j14) ((dQ_X0_init_1 15).trans dk_j15) ((dQ_X0_init_2 0).trans dk_j0) dk_vu2_0_22
theorem dX0_init_33 : decode cX0_init 33 = .ok (.aload_n 0, 1) := dk_42 ((dQ_X0_init_2 1).trans dk_j1)
theorem dX0_init_34 : decode cX0_init 34 = .ok (.bipush 6, 2) := dk_16 ((dQ_X0_init_2 2).trans dk_j2) ((dQ_X0_init_2 3).trans dk_j3) dk_vs1_6
theorem dX0_init_36 : decode cX0_init 36 = .ok (.newarray .int, 2) := by decide +kernel
theorem dk_vu2_0_25 : (0x00 : UInt8).toNat * 256 + (0x19 : UInt8).toNat = (25 : Nat) := by decide +kernel
theorem dX0_init_38 : decode cX0_init 38 = .ok (.putfield 25, 3) := dk_181 ((dQ_X0_init_2 6).trans dk_j6) ((dQ_X0_init_2 7).trans dk_j7) ((dQ_X0_init_2 8).trans dk_j8) dk_vu2_0_25
theorem dX0_init_41 : decode cX0_init 41 = .ok (.aload_n 0, 1) := dk_42 ((dQ_X0_init_2 9).trans dk_j9)
theorem dX0_init_42 : decode cX0_init 42 = .ok (.bipush 6, 2) := dk_16 ((dQ_X0_init_2 10).trans dk_j10) ((dQ_X0_init_2 11).trans dk_j11) dk_vs1_6
theorem dX0_init_44 : decode cX0_init 44 = .ok (.newarray .int, 2) := by decide +kernel
theorem dk_vu2_0_28 : (0x00 : UInt8).toNat * 256 + (0x1c : UInt8).toNat = (28 : Nat) := by decide +kernel
theorem dX0_init_46 : decode cX0_init 46 = .ok (.putfield 28, 3) := dk_181 ((dQ_X0_init_2 14).trans dk_j14) ((dQ_X0_init_2 15).trans dk_j15) ((dQ_X0_init_3 0).trans dk_j0) dk_vu2_0_28
theorem dX0_init_49 : decode cX0_init 49 = .ok (.aload_n 0, 1) := dk_42 ((dQ_X0_init_3 1).trans dk_j1)
theorem dk_vs1_16 : Reader.signed 8 (0x10 : UInt8).toNat = (16 : Int) := by decide +kernel
theorem dX0_init_50 : decode cX0_init 50 = .ok (.bipush 16, 2) := dk_16 ((dQ_X0_init_3 2).trans dk_j2) ((dQ_X0_init_3 3).trans dk_j3) dk_vs1_16
theorem dX0_init_52 : decode cX0_init 52 = .ok (.newarray .int, 2) := by decide +kernel
theorem dX0_init_54 : decode cX0_init 54 = .ok (.putfield 31, 3) := dk_181 ((dQ_X0_init_3 6).trans dk_j6) ((dQ_X0_init_3 7).trans dk_j7) ((dQ_X0_init_3 8).trans dk_j8) dk_vu2_0_31
theorem dX0_init_57 : decode cX0_init 57 = .ok (.aload_n 0, 1) := dk_42 ((dQ_X0_init_3 9).trans dk_j9)
theorem dX0_init_58 : decode cX0_init 58 = .ok (.sipush 180, 3) := dk_17 ((dQ_X0_init_3 10).trans dk_j10) ((dQ_X0_init_3 11).trans dk_j11) ((dQ_X0_init_3 12).trans dk_j12) dk_vs2_0_180
theorem dX0_init_61 : decode cX0_init 61 = .ok (.newarray .int, 2) := by decide +kernel
theorem dX0_init_63 : decode cX0_init 63 = .ok (.putfield 34, 3) := dk_181 ((dQ_X0_init_3 15).trans dk_j15) ((dQ_X0_init_4 0).trans dk_j0) ((dQ_X0_init_4 1).trans dk_j1) dk_vu2_0_34
theorem dX0_init_66 : decode cX0_init 66 = .ok (.aload_n 0, 1) := dk_42 ((dQ_X0_init_4 2).trans dk_j2)
theorem dX0_init_67 : decode cX0_init 67 = .ok (.sipush 180, 3) := dk_17 ((dQ_X0_init_4 3).trans dk_j3) ((dQ_X0_init_4 4).trans dk_j4) ((dQ_X0_init_4 5).trans dk_j5) dk_vs2_0_180
theorem dX0_init_70 : decode cX0_init 70 = .ok (.newarray .int, 2) := by decide +kernel
theorem dX0_init_72 : decode cX0_init 72 = .ok (.putfield 37, 3) := dk_181 ((dQ_X0_init_4 8).trans dk_j8) ((dQ_X0_init_4 9).trans dk_j9) ((dQ_X0_init_4 10).trans dk_j10) dk_vu2_0_37
theorem dX0_init_75 : decode cX0_init 75 = .ok (.aload_n 0, 1) := dk_42 ((dQ_X0_init_4 11).trans dk_j11)
theorem dX0_init_76 : decode cX0_init 76 = .ok (.bipush 30, 2) := dk_16 ((dQ_X0_init_4 12).trans dk_j12) ((dQ_X0_init_4 13).trans dk_j13) dk_vs1_30
theorem dX0_init_78 : decode cX0_init 78 = .ok (.newarray .int, 2) := by decide +kernel
theorem dX0_init_80 : decode cX0_init 80 = .ok (.putfield 40, 3) := dk_181 ((dQ_X0_init_5 0).trans dk_j0) ((dQ_X0_init_5 1).trans dk_j1) ((dQ_X0_init_5 2).trans dk_j2) dk_vu2_0_40
theorem dX0_init_83 : decode cX0_init 83 = .ok (.aload_n 0, 1) := dk_42 ((dQ_X0_init_5 3).trans dk_j3)
theorem dX0_init_84 : decode cX0_init 84 = .ok (.bipush 6, 2) := dk_16 ((dQ_X0_init_5 4).trans dk_j4) ((dQ_X0_init_5 5).trans dk_j5) dk_vs1_6
theorem dX0_init_86 : decode cX0_init 86 = .ok (.newarray .int, 2) := by decide +kernel
theorem dX0_init_88 : decode cX0_init 88 = .ok (.putfield 43, 3) := dk_181 ((dQ_X0_init_5 8).trans dk_j8) ((dQ_X0_init_5 9).trans dk_j9) ((dQ_X0_init_5 10).trans dk_j10) dk_vu2_0_43
theorem dX0_init_91 : decode cX0_init 91 = .ok (.return_, 1) := dk_177 ((dQ_X0_init_5 11).trans dk_j11)
def dT_X0_tellFrom_11 : List UInt8 := (0x84 : UInt8) :: (0x02 : UInt8) :: (0x01 : UInt8) :: (0xa7 : UInt8) :: (0xff : UInt8) :: (0xd8 : UInt8) :: (0xb1 : UInt8) :: []
def dT_X0_tellFrom_10 : List UInt8 := (0x68 : UInt8) :: (0x04 : UInt8) :: (0x60 : UInt8) :: (0x2e : UInt8) :: (0x5c : UInt8) :: (0x2e : UInt8) :: (0x2b : UInt8) :: (0xb4 : UInt8) :: (0x00 : UInt8) :: (0x50 : UInt8) :: (0x05 : UInt8) :: (0x1c : UInt8) :: (0x68 : UInt8) :: (0x2e : UInt8) :: (0x60 : UInt8) :: (0x4f : UInt8) :: dT_X0_tellFrom_11
def dT_X0_tellFrom_9 : List UInt8 := (0x10 : UInt8) :: (0x06 : UInt8) :: (0x2e : UInt8) :: (0xa2 : UInt8) :: (0x00 : UInt8) :: (0x23 : UInt8) :: (0x2a : UInt8) :: (0xb4 : UInt8) :: (0x00 : UInt8) :: (0x0f : UInt8) :: (0x2b : UInt8) :: (0xb4 : UInt8) :: (0x00 : UInt8) :: (0x50 : UInt8) :: (0x05 : UInt8) :: (0x1c : UInt8) :: dT_X0_tellFrom_10
def dT_X0_tellFrom_8 : List UInt8 := (0x2b : UInt8) :: (0xb4 : UInt8) :: (0x00 : UInt8) :: (0x2e : UInt8) :: (0x04 : UInt8) :: (0x2e : UInt8) :: (0xb8 : UInt8) :: (0x00 : UInt8) :: (0x4a : UInt8) :: (0x03 : UInt8) :: (0x3d : UInt8) :: (0x1c : UInt8) :: (0x2b : UInt8) :: (0xb4 : UInt8) :: (0x00 : UInt8) :: (0x2e : UInt8) :: dT_X0_tellFrom_9
def dT_X0_tellFrom_7 : List UInt8 := (0x04 : UInt8) :: (0x1c : UInt8) :: (0xb6 : UInt8) :: (0x00 : UInt8) :: (0x46 : UInt8) :: (0x4f : UInt8) :: (0x84 : UInt8) :: (0x02 : UInt8) :: (0x01 : UInt8) :: (0xa7 : UInt8) :: (0xff : UInt8) :: (0xbf : UInt8) :: (0x2a : UInt8) :: (0xb4 : UInt8) :: (0x00 : UInt8) :: (0x0f : UInt8) :: dT_X0_tellFrom_8
def dT_X0_tellFrom_6 : List UInt8 := (0x00 : UInt8) :: (0x19 : UInt8) :: (0x1c : UInt8) :: (0x2b : UInt8) :: (0x03 : UInt8) :: (0x1c : UInt8) :: (0xb6 : UInt8) :: (0x00 : UInt8) :: (0x46 : UInt8) :: (0x4f : UInt8) :: (0x2a : UInt8) :: (0xb4 : UInt8) :: (0x00 : UInt8) :: (0x1c : UInt8) :: (0x1c : UInt8) :: (0x2b : UInt8) :: dT_X0_tellFrom_7
def dT_X0_tellFrom_5 : List UInt8 := (0x00 : UInt8) :: (0x16 : UInt8) :: (0x1c : UInt8) :: (0x2b : UInt8) :: (0xb4 : UInt8) :: (0x00 : UInt8) :: (0x43 : UInt8) :: (0x05 : UInt8) :: (0x1c : UInt8) :: (0x68 : UInt8) :: (0x04 : UInt8) :: (0x60 : UInt8) :: (0x2e : UInt8) :: (0x4f : UInt8) :: (0x2a : UInt8) :: (0xb4 : UInt8) :: dT_X0_tellFrom_6
def dT_X0_tellFrom_4 : List UInt8 := (0x2a : UInt8) :: (0xb4 : UInt8) :: (0x00 : UInt8) :: (0x13 : UInt8) :: (0x1c : UInt8) :: (0x2b : UInt8) :: (0xb4 : UInt8) :: (0x00 : UInt8) :: (0x43 : UInt8) :: (0x05 : UInt8) :: (0x1c : UInt8) :: (0x68 : UInt8) :: (0x2e : UInt8) :: (0x4f : UInt8) :: (0x2a : UInt8) :: (0xb4 : UInt8) :: dT_X0_tellFrom_5
def dT_X0_tellFrom_3 : List UInt8 := (0x00 : UInt8) :: (0x1f : UInt8) :: (0xbe : UInt8) :: (0xb8 : UInt8) :: (0x00 : UInt8) :: (0x3d : UInt8) :: (0x03 : UInt8) :: (0x3d : UInt8) :: (0x1c : UInt8) :: (0x2a : UInt8) :: (0xb4 : UInt8) :: (0x00 : UInt8) :: (0x36 : UInt8) :: (0xa2 : UInt8) :: (0x00 : UInt8) :: (0x3f : UInt8) :: dT_X0_tellFrom_4
def dT_X0_tellFrom_2 : List UInt8 := (0x02 : UInt8) :: (0xb5 : UInt8) :: (0x00 : UInt8) :: (0x09 : UInt8) :: (0x2b : UInt8) :: (0xb4 : UInt8) :: (0x00 : UInt8) :: (0x3c : UInt8) :: (0x03 : UInt8) :: (0x2a : UInt8) :: (0xb4 : UInt8) :: (0x00 : UInt8) :: (0x1f : UInt8) :: (0x03 : UInt8) :: (0x2a : UInt8) :: (0xb4 : UInt8) :: dT_X0_tellFrom_3
def dT_X0_tellFrom_1 : List UInt8 := (0x2e : UInt8) :: (0xb5 : UInt8) :: (0x00 : UInt8) :: (0x36 : UInt8) :: (0x2a : UInt8) :: (0x2b : UInt8) :: (0xb4 : UInt8) :: (0x00 : UInt8) :: (0x2e : UInt8) :: (0x10 : UInt8) :: (0x07 : UInt8) :: (0x2e : UInt8) :: (0xb5 : UInt8) :: (0x00 : UInt8) :: (0x39 : UInt8) :: (0x2a : UInt8) :: dT_X0_tellFrom_2
def dT_X0_tellFrom_0 : List UInt8 := (0x2a : UInt8) :: (0x2b : UInt8) :: (0xb4 : UInt8) :: (0x00 : UInt8) :: (0x2e : UInt8) :: (0x03 : UInt8) :: (0x2e : UInt8) :: (0xb5 : UInt8) :: (0x00 : UInt8) :: (0x33 : UInt8) :: (0x2a : UInt8) :: (0x2b : UInt8) :: (0xb4 : UInt8) :: (0x00 : UInt8) :: (0x2e : UInt8) :: (0x08 : UInt8) :: dT_X0_tellFrom_1
theorem dT_X0_tellFrom : cX0_tellFrom.data.toList = dT_X0_tellFrom_0 := eq_of_beq (show (cX0_tellFrom.data.toList == dT_X0_tellFrom_0) = true by decide +kernel)
theorem dQ_X0_tellFrom_0 : dQ_P cX0_tellFrom 0 dT_X0_tellFrom_0 := fun i => by rw [dT_X0_tellFrom]; rfl
theorem dQ_X0_tellFrom_1 : dQ_P cX0_tellFrom 16 dT_X0_tellFrom_1 := fun i => (dQ_X0_tellFrom_0 (i + 16)).trans dk_t
theorem dQ_X0_tellFrom_2 : dQ_P cX0_tellFrom 32 dT_X0_tellFrom_2 := fun i => (dQ_X0_tellFrom_1 (i + 16)).trans dk_t
theorem dQ_X0_tellFrom_3 : dQ_P cX0_tellFrom 48 dT_X0_tellFrom_3 := fun i => (dQ_X0_tellFrom_2 (i + 16)).trans dk_t
theorem dQ_X0_tellFrom_4 : dQ_P cX0_tellFrom 64 dT_X0_tellFrom_4 := fun i => (dQ_X0_tellFrom_3 (i + 16)).trans dk_t
theorem dQ_X0_tellFrom_5 : dQ_P cX0_tellFrom 80 dT_X0_tellFrom_5 := fun i => (dQ_X0_tellFrom_4 (i + 16)).trans dk_t
theorem dQ_X0_tellFrom_6 : dQ_P cX0_tellFrom 96 dT_X0_tellFrom_6 := fun i => (dQ_X0_tellFrom_5 (i + 16)).trans dk_t
theorem dQ_X0_tellFrom_7 : dQ_P cX0_tellFrom 112 dT_X0_tellFrom_7 := fun i => (dQ_X0_tellFrom_6 (i + 16)).trans dk_t
theorem dQ_X0_tellFrom_8 : dQ_P cX0_tellFrom 128 dT_X0_tellFrom_8 := fun i => (dQ_X0_tellFrom_7 (i + 16)).trans dk_t
theorem dQ_X0_tellFrom_9 : dQ_P cX0_tellFrom 144 dT_X0_tellFrom_9 := fun i => (dQ_X0_tellFrom_8 (i + 16)).trans dk_t
theorem dQ_X0_tellFrom_10 : dQ_P cX0_tellFrom 160 dT_X0_tellFrom_10 := fun i => (dQ_X0_tellFrom_9 (i + 16)).trans dk_t
theorem dQ_X0_tellFrom_11 : dQ_P cX0_tellFrom 176 dT_X0_tellFrom_11 := fun i => (dQ_X0_tellFrom_10 (i + 16)).trans dk_t
theorem dX0_tellFrom_0 : decode cX0_tellFrom 0 = .ok (.aload_n 0, 1) := dk_42 ((dQ_X0_tellFrom_0 0).trans dk_j0)
theorem dX0_tellFrom_1 : decode cX0_tellFrom 1 = .ok (.aload_n 1, 1) := dk_43 ((dQ_X0_tellFrom_0 1).trans dk_j1)
theorem dX0_tellFrom_2 : decode cX0_tellFrom 2 = .ok (.getfield 46, 3) := dk_180 ((dQ_X0_tellFrom_0 2).trans dk_j2) ((dQ_X0_tellFrom_0 3).trans dk_j3) ((dQ_X0_tellFrom_0 4).trans dk_j4) dk_vu2_0_46
theorem dX0_tellFrom_5 : decode cX0_tellFrom 5 = .ok (.iconst 0, 1) := dk_3 ((dQ_X0_tellFrom_0 5).trans dk_j5)
theorem dX0_tellFrom_6 : decode cX0_tellFrom 6 = .ok (.iaload, 1) := dk_46 ((dQ_X0_tellFrom_0 6).trans dk_j6)
theorem dX0_tellFrom_7 : decode cX0_tellFrom 7 = .ok (.putfield 51, 3) := dk_181 ((dQ_X0_tellFrom_0 7).trans dk_j7) ((dQ_X0_tellFrom_0 8).trans dk_j8) ((dQ_X0_tellFrom_0 9).trans dk_j9) dk_vu2_0_51
theorem dX0_tellFrom_10 : decode cX0_tellFrom 10 = .ok (.aload_n 0, 1) := dk_42 ((dQ_X0_tellFrom_0 10).trans dk_j10)
theorem dX0_tellFrom_11 : decode cX0_tellFrom 11 = .ok (.aload_n 1, 1) := dk_43 ((dQ_X0_tellFrom_0 11).trans dk_j11)
theorem dX0_tellFrom_12 : decode cX0_tellFrom 12 = .ok (.getfield 46, 3) := dk_180 ((dQ_X0_tellFrom_0 12).trans dk_j12) ((dQ_X0_tellFrom_0 13).trans dk_j13) ((dQ_X0_tellFrom_0 14).trans dk_j14) dk_vu2_0_46
theorem dX0_tellFrom_15 : decode cX0_tellFrom 15 = .ok (.iconst 5, 1) := dk_8 ((dQ_X0_tellFrom_0 15).trans dk_j15)
theorem dX0_tellFrom_16 : decode cX0_tellFrom 16 = .ok (.iaload, 1) := dk_46 ((dQ_X0_tellFrom_1 0).trans dk_j0)
theorem dX0_tellFrom_17 : decode cX0_tellFrom 17 = .ok (.putfield 54, 3) := dk_181 ((dQ_X0_tellFrom_1 1).trans dk_j1) ((dQ_X0_tellFrom_1 2).trans dk_j2) ((dQ_X0_tellFrom_1 3).trans dk_j3) dk_vu2_0_54
theorem dX0_tellFrom_20 : decode cX0_tellFrom 20 = .ok (.aload_n 0, 1) := dk_42 ((dQ_X0_tellFrom_1 4).trans dk_j4)
theorem dX0_tellFrom_21 : decode cX0_tellFrom 21 = .ok (.aload_n 1, 1) := dk_43 ((dQ_X0_tellFrom_1 5).trans dk_j5)
theorem dX0_tellFrom_22 : decode cX0_tellFrom 22 = .ok (.getfield 46, 3) := dk_180 ((dQ_X0_tellFrom_1 6).trans dk_j6) ((dQ_X0_tellFrom_1 7).trans dk_j7) ((dQ_X0_tellFrom_1 8).trans dk_j8) dk_vu2_0_46
theorem dX0_tellFrom_25 : decode cX0_tellFrom 25 = .ok (.bipush 7, 2) := dk_16 ((dQ_X0_tellFrom_1 9).trans dk_j9) ((dQ_X0_tellFrom_1 10).trans dk_j10) dk_vs1_7
theorem dX0_tellFrom_27 : decode cX0_tellFrom 27 = .ok (.iaload, 1) := dk_46 ((dQ_X0_tellFrom_1 11).trans dk_j11)
theorem dk_vu2_0_57 : (0x00 : UInt8).toNat * 256 + (0x39 : UInt8).toNat = (57 : Nat) := by decide +kernel
theorem dX0_tellFrom_28 : decode cX0_tellFrom 28 = .ok (.putfield 57, 3) := dk_181 ((dQ_X0_tellFrom_1 12).trans dk_j12) ((dQ_X0_tellFrom_1 13).trans dk_j13) ((dQ_X0_tellFrom_1 14).trans dk_j14) dk_vu2_0_57
theorem dX0_tellFrom_31 : decode cX0_tellFrom 31 = .ok (.aload_n 0, 1) := dk_42 ((dQ_X0_tellFrom_1 15).trans dk_j15)
theorem dX0_tellFrom_32 : decode cX0_tellFrom 32 = .ok (.iconst (-1), 1) := dk_2 ((dQ_X0_tellFrom_2 0).trans dk_j0)
theorem dX0_tellFrom_33 : decode cX0_tellFrom 33 = .ok (.putfield 9, 3) := dk_181 ((dQ_X0_tellFrom_2 1).trans dk_j1) ((dQ_X0_tellFrom_2 2).trans dk_j2) ((dQ_X0_tellFrom_2 3).trans dk_j3) dk_vu2_0_9
theorem dX0_tellFrom_36 : decode cX0_tellFrom 36 = .ok (.aload_n 1, 1) := dk_43 ((dQ_X0_tellFrom_2 4).trans dk_j4)
theorem dX0_tellFrom_37 : decode cX0_tellFrom 37 = .ok (.getfield 60, 3) := dk_180 ((dQ_X0_tellFrom_2 5).trans dk_j5) ((dQ_X0_tellFrom_2 6).trans dk_j6) ((dQ_X0_tellFrom_2 7).trans dk_j7) dk_vu2_0_60
theorem dX0_tellFrom_40 : decode cX0_tellFrom 40 = .ok (.iconst 0, 1) := dk_3 ((dQ_X0_tellFrom_2 8).trans dk_j8)
theorem dX0_tellFrom_41 : decode cX0_tellFrom 41 = .ok (.aload_n 0, 1) := dk_42 ((dQ_X0_tellFrom_2 9).trans dk_j9)
theorem dX0_tellFrom_42 : decode cX0_tellFrom 42 = .ok (.getfield 31, 3) := dk_180 ((dQ_X0_tellFrom_2 10).trans dk_j10) ((dQ_X0_tellFrom_2 11).trans dk_j11) ((dQ_X0_tellFrom_2 12).trans dk_j12) dk_vu2_0_31
theorem dX0_tellFrom_45 : decode cX0_tellFrom 45 = .ok (.iconst 0, 1) := dk_3 ((dQ_X0_tellFrom_2 13).trans dk_j13)
theorem dX0_tellFrom_46 : decode cX0_tellFrom 46 = .ok (.aload_n 0, 1) := dk_42 ((dQ_X0_tellFrom_2 14).trans dk_j14)
theorem dX0_tellFrom_47 : decode cX0_tellFrom 47 = .ok (.getfield 31, 3) := dk_180 ((dQ_X0_tellFrom_2 15).trans dk_j15) ((dQ_X0_tellFrom_3 0).trans dk_j0) ((dQ_X0_tellFrom_3 1).trans dk_j1) dk_vu2_0_31
theorem dX0_tellFrom_50 : decode cX0_tellFrom 50 = .ok (.arraylength, 1) := dk_190 ((dQ_X0_tellFrom_3 2).trans dk_j2)
theorem dX0_tellFrom_51 : decode cX0_tellFrom 51 = .ok (.invokestatic 61, 3) := dk_184 ((dQ_X0_tellFrom_3 3).trans dk_j3) ((dQ_X0_tellFrom_3 4).trans dk_j4) ((dQ_X0_tellFrom_3 5).trans dk_j5) dk_vu2_0_61
theorem dX0_tellFrom_54 : decode cX0_tellFrom 54 = .ok (.iconst 0, 1) := dk_3 ((dQ_X0_tellFrom_3 6).trans dk_j6)
theorem dX0_tellFrom_55 : decode cX0_tellFrom 55 = .ok (.istore_n 2, 1) := dk_61 ((dQ_X0_tellFrom_3 7).trans dk_j7)
theorem dX0_tellFrom_56 : decode cX0_tellFrom 56 = .ok (.iload_n 2, 1) := dk_28 ((dQ_X0_tellFrom_3 8).trans dk_j8)
theorem dX0_tellFrom_57 : decode cX0_tellFrom 57 = .ok (.aload_n 0, 1) := dk_42 ((dQ_X0_tellFrom_3 9).trans dk_j9)
theorem dX0_tellFrom_58 : decode cX0_tellFrom 58 = .ok (.getfield 54, 3) := dk_180 ((dQ_X0_tellFrom_3 10).trans dk_j10) ((dQ_X0_tellFrom_3 11).trans dk_j11) ((dQ_X0_tellFrom_3 12).trans dk_j12) dk_vu2_0_54
theorem dk_vs2_0_63 : Reader.signed 16 ((0x00 : UInt8).toNat * 256 + (0x3f : UInt8).toNat) = (63 : Int) := by decide +kernel
theorem dX0_tellFrom_61 : decode cX0_tellFrom 61 = .ok (.if_icmp .ge 63, 3) := dk_162 ((dQ_X0_tellFrom_3 13).trans dk_j13) ((dQ_X0_tellFrom_3 14).trans dk_j14) ((dQ_X0_tellFrom_3 15).trans dk_j15) dk_vs2_0_63
theorem dX0_tellFrom_64 : decode cX0_tellFrom 64 = .ok (.aload_n 0, 1) := dk_42 ((dQ_X0_tellFrom_4 0).trans dk_j0)
theorem dX0_tellFrom_65 : decode cX0_tellFrom 65 = .ok (.getfield 19, 3) := dk_180 ((dQ_X0_tellFrom_4 1).trans dk_j1) ((dQ_X0_tellFrom_4 2).trans dk_j2) ((dQ_X0_tellFrom_4 3).trans dk_j3) dk_vu2_0_19
theorem dX0_tellFrom_68 : decode cX0_tellFrom 68 = .ok (.iload_n 2, 1) := dk_28 ((dQ_X0_tellFrom_4 4).trans dk_j4)
theorem dX0_tellFrom_69 : decode cX0_tellFrom 69 = .ok (.aload_n 1, 1) := dk_43 ((dQ_X0_tellFrom_4 5).trans dk_j5)
theorem dX0_tellFrom_70 : decode cX0_tellFrom 70 = .ok (.getfield 67, 3) := dk_180 ((dQ_X0_tellFrom_4 6).trans dk_j6) ((dQ_X0_tellFrom_4 7).trans dk_j7) ((dQ_X0_tellFrom_4 8).trans dk_j8) dk_vu2_0_67
theorem dX0_tellFrom_73 : decode cX0_tellFrom 73 = .ok (.iconst 2, 1) := dk_5 ((dQ_X0_tellFrom_4 9).trans dk_j9)
theorem dX0_tellFrom_74 : decode cX0_tellFrom 74 = .ok (.iload_n 2, 1) := dk_28 ((dQ_X0_tellFrom_4 10).trans dk_j10)
theorem dX0_tellFrom_75 : decode cX0_tellFrom 75 = .ok (.imul, 1) := dk_104 ((dQ_X0_tellFrom_4 11).trans dk_j11)
theorem dX0_tellFrom_76 : decode cX0_tellFrom 76 = .ok (.iaload, 1) := dk_46 ((dQ_X0_tellFrom_4 12).trans dk_j12)
theorem dX0_tellFrom_77 : decode cX0_tellFrom 77 = .ok (.iastore, 1) := dk_79 ((dQ_X0_tellFrom_4 13).trans dk_j13)
theorem dX0_tellFrom_78 : decode cX0_tellFrom 78 = .ok (.aload_n 0, 1) := dk_42 ((dQ_X0_tellFrom_4 14).trans dk_j14)
theorem dX0_tellFrom_79 : decode cX0_tellFrom 79 = .ok (.getfield 22, 3) := dk_180 ((dQ_X0_tellFrom_4 15).trans dk_j15) ((dQ_X0_tellFrom_5 0).trans dk_j0) ((dQ_X0_tellFrom_5 1).trans dk_j1) dk_vu2_0_22
theorem dX0_tellFrom_82 : decode cX0_tellFrom 82 = .ok (.iload_n 2, 1) := dk_28 ((dQ_X0_tellFrom_5 2).trans dk_j2)
theorem dX0_tellFrom_83 : decode cX0_tellFrom 83 = .ok (.aload_n 1, 1) := dk_43 ((dQ_X0_tellFrom_5 3).trans dk_j3)
theorem dX0_tellFrom_84 : decode cX0_tellFrom 84 = .ok (.getfield 67, 3) := dk_180 ((dQ_X0_tellFrom_5 4).trans dk_j4) ((dQ_X0_tellFrom_5 5).trans dk_j5) ((dQ_X0_tellFrom_5 6).trans dk_j6) dk_vu2_0_67
theorem dX0_tellFrom_87 : decode cX0_tellFrom 87 = .ok (.iconst 2, 1) := dk_5 ((dQ_X0_tellFrom_5 7).trans dk_j7)
theorem dX0_tellFrom_88 : decode cX0_tellFrom 88 = .ok (.iload_n 2, 1) := dk_28 ((dQ_X0_tellFrom_5 8).trans dk_j8)
theorem dX0_tellFrom_89 : decode cX0_tellFrom 89 = .ok (.imul, 1) := dk_104 ((dQ_X0_tellFrom_5 9).trans dk_j9)
theorem dX0_tellFrom_90 : decode cX0_tellFrom 90 = .ok (.iconst 1, 1) := dk_4 ((dQ_X0_tellFrom_5 10).trans dk_j10)
theorem dX0_tellFrom_91 : decode cX0_tellFrom 91 = .ok (.iadd, 1) := dk_96 ((dQ_X0_tellFrom_5 11).trans dk_j11)
theorem dX0_tellFrom_92 : decode cX0_tellFrom 92 = .ok (.iaload, 1) := dk_46 ((dQ_X0_tellFrom_5 12).trans dk_j12)
theorem dX0_tellFrom_93 : decode cX0_tellFrom 93 = .ok (.iastore, 1) := dk_79 ((dQ_X0_tellFrom_5 13).trans dk_j13)
theorem dX0_tellFrom_94 : decode cX0_tellFrom 94 = .ok (.aload_n 0, 1) := dk_42 ((dQ_X0_tellFrom_5 14).trans dk_j14)
theorem dX0_tellFrom_95 : decode cX0_tellFrom 95 = .ok (.getfield 25, 3) := dk_180 ((dQ_X0_tellFrom_5 15).trans dk_j15) ((dQ_X0_tellFrom_6 0).trans dk_j0) ((dQ_X0_tellFrom_6 1).trans dk_j1) dk_vu2_0_25
theorem dX0_tellFrom_98 : decode cX0_tellFrom 98 = .ok (.iload_n 2, 1) := dk_28 ((dQ_X0_tellFrom_6 2).trans dk_j2)
theorem dX0_tellFrom_99 : decode cX0_tellFrom 99 = .ok (.aload_n 1, 1) := dk_43 ((dQ_X0_tellFrom_6 3).trans dk_j3)
theorem dX0_tellFrom_100 : decode cX0_tellFrom 100 = .ok (.iconst 0, 1) := dk_3 ((dQ_X0_tellFrom_6 4).trans dk_j4)
theorem dX0_tellFrom_101 : decode cX0_tellFrom 101 = .ok (.iload_n 2, 1) := dk_28 ((dQ_X0_tellFrom_6 5).trans dk_j5)
theorem dX0_tellFrom_102 : decode cX0_tellFrom 102 = .ok (.invokevirtual 70, 3) := dk_182 ((dQ_X0_tellFrom_6 6).trans dk_j6) ((dQ_X0_tellFrom_6 7).trans dk_j7) ((dQ_X0_tellFrom_6 8).trans dk_j8) dk_vu2_0_70
theorem dX0_tellFrom_105 : decode cX0_tellFrom 105 = .ok (.iastore, 1) := dk_79 ((dQ_X0_tellFrom_6 9).trans dk_j9)
theorem dX0_tellFrom_106 : decode cX0_tellFrom 106 = .ok (.aload_n 0, 1) := dk_42 ((dQ_X0_tellFrom_6 10).trans dk_j10)
theorem dX0_tellFrom_107 : decode cX0_tellFrom 107 = .ok (.getfield 28, 3) := dk_180 ((dQ_X0_tellFrom_6 11).trans dk_j11) ((dQ_X0_tellFrom_6 12).trans dk_j12) ((dQ_X0_tellFrom_6 13).trans dk_j13) dk_vu2_0_28
theorem dX0_tellFrom_110 : decode cX0_tellFrom 110 = .ok (.iload_n 2, 1) := dk_28 ((dQ_X0_tellFrom_6 14).trans dk_j14)
theorem dX0_tellFrom_111 : decode cX0_tellFrom 111 = .ok (.aload_n 1, 1) := dk_43 ((dQ_X0_tellFrom_6 15).trans dk_j15)
theorem dX0_tellFrom_112 : decode cX0_tellFrom 112 = .ok (.iconst 1, 1) := dk_4 ((dQ_X0_tellFrom_7 0).trans dk_j0)
theorem dX0_tellFrom_113 : decode cX0_tellFrom 113 = .ok (.iload_n 2, 1) := dk_28 ((dQ_X0_tellFrom_7 1).trans dk_j1)
theorem dX0_tellFrom_114 : decode cX0_tellFrom 114 = .ok (.invokevirtual 70, 3) := dk_182 ((dQ_X0_tellFrom_7 2).trans dk_j2) ((dQ_X0_tellFrom_7 3).trans dk_j3) ((dQ_X0_tellFrom_7 4).trans dk_j4) dk_vu2_0_70
theorem dX0_tellFrom_117 : decode cX0_tellFrom 117 = .ok (.iastore, 1) := dk_79 ((dQ_X0_tellFrom_7 5).trans dk_j5)
theorem dX0_tellFrom_118 : decode cX0_tellFrom 118 = .ok (.iinc 2 1, 3) := dk_132 ((dQ_X0_tellFrom_7 6).trans dk_j6) ((dQ_X0_tellFrom_7 7).trans dk_j7) ((dQ_X0_tellFrom_7 8).trans dk_j8) dk_vu1_2 dk_vs1_1
theorem dX0_tellFrom_121 : decode cX0_tellFrom 121 = .ok (.goto (-65), 3) := dk_167 ((dQ_X0_tellFrom_7 9).trans dk_j9) ((dQ_X0_tellFrom_7 10).trans dk_j10) ((dQ_X0_tellFrom_7 11).trans dk_j11) dk_vs2_255_191
theorem dX0_tellFrom_124 : decode cX0_tellFrom 124 = .ok (.aload_n 0, 1) := dk_42 ((dQ_X0_tellFrom_7 12).trans dk_j12)
theorem dX0_tellFrom_125 : decode cX0_tellFrom 125 = .ok (.getfield 15, 3) := dk_180 ((dQ_X0_tellFrom_7 13).trans dk_j13) ((dQ_X0_tellFrom_7 14).trans dk_j14) ((dQ_X0_tellFrom_7 15).trans dk_j15) dk_vu2_0_15
theorem dX0_tellFrom_128 : decode cX0_tellFrom 128 = .ok (.aload_n 1, 1) := dk_43 ((dQ_X0_tellFrom_8 0).trans dk_j0)
theorem dX0_tellFrom_129 : decode cX0_tellFrom 129 = .ok (.getfield 46, 3) := dk_180 ((dQ_X0_tellFrom_8 1).trans dk_j1) ((dQ_X0_tellFrom_8 2).trans dk_j2) ((dQ_X0_tellFrom_8 3).trans dk_j3) dk_vu2_0_46
theorem dX0_tellFrom_132 : decode cX0_tellFrom 132 = .ok (.iconst 1, 1) := dk_4 ((dQ_X0_tellFrom_8 4).trans dk_j4)
theorem dX0_tellFrom_133 : decode cX0_tellFrom 133 = .ok (.iaload, 1) := dk_46 ((dQ_X0_tellFrom_8 5).trans dk_j5)
theorem dX0_tellFrom_134 : decode cX0_tellFrom 134 = .ok (.invokestatic 74, 3) := dk_184 ((dQ_X0_tellFrom_8 6).trans dk_j6) ((dQ_X0_tellFrom_8 7).trans dk_j7) ((dQ_X0_tellFrom_8 8).trans dk_j8) dk_vu2_0_74
theorem dX0_tellFrom_137 : decode cX0_tellFrom 137 = .ok (.iconst 0, 1) := dk_3 ((dQ_X0_tellFrom_8 9).trans dk_j9)
theorem dX0_tellFrom_138 : decode cX0_tellFrom 138 = .ok (.istore_n 2, 1) := dk_61 ((dQ_X0_tellFrom_8 10).trans dk_j10)
theorem dX0_tellFrom_139 : decode cX0_tellFrom 139 = .ok (.iload_n 2, 1) := dk_28 ((dQ_X0_tellFrom_8 11).trans dk_j11)
theorem dX0_tellFrom_140 : decode cX0_tellFrom 140 = .ok (.aload_n 1, 1) := dk_43 ((dQ_X0_tellFrom_8 12).trans dk_j12)
theorem dX0_tellFrom_141 : decode cX0_tellFrom 141 = .ok (.getfield 46, 3) := dk_180 ((dQ_X0_tellFrom_8 13).trans dk_j13) ((dQ_X0_tellFrom_8 14).trans dk_j14) ((dQ_X0_tellFrom_8 15).trans dk_j15) dk_vu2_0_46
theorem dX0_tellFrom_144 : decode cX0_tellFrom 144 = .ok (.bipush 6, 2) := dk_16 ((dQ_X0_tellFrom_9 0).trans dk_j0) ((dQ_X0_tellFrom_9 1).trans dk_j1) dk_vs1_6
theorem dX0_tellFrom_146 : decode cX0_tellFrom 146 = .ok (.iaload, 1) := dk_46 ((dQ_X0_tellFrom_9 2).trans dk_j2)
theorem dX0_tellFrom_147 : decode cX0_tellFrom 147 = .ok (.if_icmp .ge 35, 3) := dk_162 ((dQ_X0_tellFrom_9 3).trans dk_j3) ((dQ_X0_tellFrom_9 4).trans dk_j4) ((dQ_X0_tellFrom_9 5).trans dk_j5) dk_vs2_0_35
theorem dX0_tellFrom_150 : decode cX0_tellFrom 150 = .ok (.aload_n 0, 1) := dk_42 ((dQ_X0_tellFrom_9 6).trans dk_j6)
theorem dX0_tellFrom_151 : decode cX0_tellFrom 151 = .ok (.getfield 15, 3) := dk_180 ((dQ_X0_tellFrom_9 7).trans dk_j7) ((dQ_X0_tellFrom_9 8).trans dk_j8) ((dQ_X0_tellFrom_9 9).trans dk_j9) dk_vu2_0_15
theorem dX0_tellFrom_154 : decode cX0_tellFrom 154 = .ok (.aload_n 1, 1) := dk_43 ((dQ_X0_tellFrom_9 10).trans dk_j10)
theorem dk_vu2_0_80 : (0x00 : UInt8).toNat * 256 + (0x50 : UInt8).toNat = (80 : Nat) := by decide +kernel
theorem dX0_tellFrom_155 : decode cX0_tellFrom 155 = .ok (.getfield 80, 3) := dk_180 ((dQ_X0_tellFrom_9 11).trans dk_j11) ((dQ_X0_tellFrom_9 12).trans dk_j12) ((dQ_X0_tellFrom_9 13).trans dk_j13) dk_vu2_0_80
theorem dX0_tellFrom_158 : decode cX0_tellFrom 158 = .ok (.iconst 2, 1) := dk_5 ((dQ_X0_tellFrom_9 14).trans dk_j14)
theorem dX0_tellFrom_159 : decode cX0_tellFrom 159 = .ok (.iload_n 2, 1) := dk_28 ((dQ_X0_tellFrom_9 15).trans dk_j15)
theorem dX0_tellFrom_160 : decode cX0_tellFrom 160 = .ok (.imul, 1) := dk_104 ((dQ_X0_tellFrom_10 0).trans dk_j0)
theorem dX0_tellFrom_161 : decode cX0_tellFrom 161 = .ok (.iconst 1, 1) := dk_4 ((dQ_X0_tellFrom_10 1).trans dk_j1)
theorem dX0_tellFrom_162 : decode cX0_tellFrom 162 = .ok (.iadd, 1) := dk_96 ((dQ_X0_tellFrom_10 2).trans dk_j2)
theorem dX0_tellFrom_163 : decode cX0_tellFrom 163 = .ok (.iaload, 1) := dk_46 ((dQ_X0_tellFrom_10 3).trans dk_j3)
theorem dX0_tellFrom_164 : decode cX0_tellFrom 164 = .ok (.dup2, 1) := dk_92 ((dQ_X0_tellFrom_10 4).trans dk_j4)
theorem dX0_tellFrom_165 : decode cX0_tellFrom 165 = .ok (.iaload, 1) := dk_46 ((dQ_X0_tellFrom_10 5).trans dk_j5)
theorem dX0_tellFrom_166 : decode cX0_tellFrom 166 = .ok (.aload_n 1, 1) := dk_43 ((dQ_X0_tellFrom_10 6).trans dk_j6)
theorem dX0_tellFrom_167 : decode cX0_tellFrom 167 = .ok (.getfield 80, 3) := dk_180 ((dQ_X0_tellFrom_10 7).trans dk_j7) ((dQ_X0_tellFrom_10 8).trans dk_j8) ((dQ_X0_tellFrom_10 9).trans dk_j9) dk_vu2_0_80
theorem dX0_tellFrom_170 : decode cX0_tellFrom 170 = .ok (.iconst 2, 1) := dk_5 ((dQ_X0_tellFrom_10 10).trans dk_j10)
theorem dX0_tellFrom_171 : decode cX0_tellFrom 171 = .ok (.iload_n 2, 1) := dk_28 ((dQ_X0_tellFrom_10 11).trans dk_j11)
theorem dX0_tellFrom_172 : decode cX0_tellFrom 172 = .ok (.imul, 1) := dk_104 ((dQ_X0_tellFrom_10 12).trans dk_j12)
theorem dX0_tellFrom_173 : decode cX0_tellFrom 173 = .ok (.iaload, 1) := dk_46 ((dQ_X0_tellFrom_10 13).trans dk_j13)
theorem dX0_tellFrom_174 : decode cX0_tellFrom 174 = .ok (.iadd, 1) := dk_96 ((dQ_X0_tellFrom_10 14).trans dk_j14)
theorem dX0_tellFrom_175 : decode cX0_tellFrom 175 = .ok (.iastore, 1) := dk_79 ((dQ_X0_tellFrom_10 15).trans dk_j15)
theorem dX0_tellFrom_176 : decode cX0_tellFrom 176 = .ok (.iinc 2 1, 3) := dk_132 ((dQ_X0_tellFrom_11 0).trans dk_j0) ((dQ_X0_tellFrom_11 1).trans dk_j1) ((dQ_X0_tellFrom_11 2).trans dk_j2) dk_vu1_2 dk_vs1_1
theorem dX0_tellFrom_179 : decode cX0_tellFrom 179 = .ok (.goto (-40), 3) := dk_167 ((dQ_X0_tellFrom_11 3).trans dk_j3) ((dQ_X0_tellFrom_11 4).trans dk_j4) ((dQ_X0_tellFrom_11 5).trans dk_j5) dk_vs2_255_216
theorem dX0_tellFrom_182 : decode cX0_tellFrom 182 = .ok (.return_, 1) := dk_177 ((dQ_X0_tellFrom_11 6).trans dk_j6)
def dT_X0_copyFrom_13 : List UInt8 := (0xbe : UInt8) :: (0xb8 : UInt8) :: (0x00 : UInt8) :: (0x3d : UInt8) :: (0xb1 : UInt8) :: []
def dT_X0_copyFrom_12 : List UInt8 := (0x00 : UInt8) :: (0x3d : UInt8) :: (0x2b : UInt8) :: (0xb4 : UInt8) :: (0x00 : UInt8) :: (0x2b : UInt8) :: (0x03 : UInt8) :: (0x2a : UInt8) :: (0xb4 : UInt8) :: (0x00 : UInt8) :: (0x2b : UInt8) :: (0x03 : UInt8) :: (0x2a : UInt8) :: (0xb4 : UInt8) :: (0x00 : UInt8) :: (0x2b : UInt8) :: dT_X0_copyFrom_13
def dT_X0_copyFrom_11 : List UInt8 := (0x2b : UInt8) :: (0xb4 : UInt8) :: (0x00 : UInt8) :: (0x28 : UInt8) :: (0x03 : UInt8) :: (0x2a : UInt8) :: (0xb4 : UInt8) :: (0x00 : UInt8) :: (0x28 : UInt8) :: (0x03 : UInt8) :: (0x2a : UInt8) :: (0xb4 : UInt8) :: (0x00 : UInt8) :: (0x28 : UInt8) :: (0xbe : UInt8) :: (0xb8 : UInt8) :: dT_X0_copyFrom_12
def dT_X0_copyFrom_10 : List UInt8 := (0x00 : UInt8) :: (0x25 : UInt8) :: (0x03 : UInt8) :: (0x2a : UInt8) :: (0xb4 : UInt8) :: (0x00 : UInt8) :: (0x25 : UInt8) :: (0x03 : UInt8) :: (0x2a : UInt8) :: (0xb4 : UInt8) :: (0x00 : UInt8) :: (0x25 : UInt8) :: (0xbe : UInt8) :: (0xb8 : UInt8) :: (0x00 : UInt8) :: (0x3d : UInt8) :: dT_X0_copyFrom_11
def dT_X0_copyFrom_9 : List UInt8 := (0x03 : UInt8) :: (0x2a : UInt8) :: (0xb4 : UInt8) :: (0x00 : UInt8) :: (0x22 : UInt8) :: (0x03 : UInt8) :: (0x2a : UInt8) :: (0xb4 : UInt8) :: (0x00 : UInt8) :: (0x22 : UInt8) :: (0xbe : UInt8) :: (0xb8 : UInt8) :: (0x00 : UInt8) :: (0x3d : UInt8) :: (0x2b : UInt8) :: (0xb4 : UInt8) :: dT_X0_copyFrom_10
def dT_X0_copyFrom_8 : List UInt8 := (0xb4 : UInt8) :: (0x00 : UInt8) :: (0x1f : UInt8) :: (0x03 : UInt8) :: (0x2a : UInt8) :: (0xb4 : UInt8) :: (0x00 : UInt8) :: (0x1f : UInt8) :: (0xbe : UInt8) :: (0xb8 : UInt8) :: (0x00 : UInt8) :: (0x3d : UInt8) :: (0x2b : UInt8) :: (0xb4 : UInt8) :: (0x00 : UInt8) :: (0x22 : UInt8) :: dT_X0_copyFrom_9
def dT_X0_copyFrom_7 : List UInt8 := (0x1c : UInt8) :: (0x03 : UInt8) :: (0x2a : UInt8) :: (0xb4 : UInt8) :: (0x00 : UInt8) :: (0x1c : UInt8) :: (0xbe : UInt8) :: (0xb8 : UInt8) :: (0x00 : UInt8) :: (0x3d : UInt8) :: (0x2b : UInt8) :: (0xb4 : UInt8) :: (0x00 : UInt8) :: (0x1f : UInt8) :: (0x03 : UInt8) :: (0x2a : UInt8) :: dT_X0_copyFrom_8
def dT_X0_copyFrom_6 : List UInt8 := (0x2a : UInt8) :: (0xb4 : UInt8) :: (0x00 : UInt8) :: (0x19 : UInt8) :: (0xbe : UInt8) :: (0xb8 : UInt8) :: (0x00 : UInt8) :: (0x3d : UInt8) :: (0x2b : UInt8) :: (0xb4 : UInt8) :: (0x00 : UInt8) :: (0x1c : UInt8) :: (0x03 : UInt8) :: (0x2a : UInt8) :: (0xb4 : UInt8) :: (0x00 : UInt8) :: dT_X0_copyFrom_7
def dT_X0_copyFrom_5 : List UInt8 := (0x00 : UInt8) :: (0x16 : UInt8) :: (0xbe : UInt8) :: (0xb8 : UInt8) :: (0x00 : UInt8) :: (0x3d : UInt8) :: (0x2b : UInt8) :: (0xb4 : UInt8) :: (0x00 : UInt8) :: (0x19 : UInt8) :: (0x03 : UInt8) :: (0x2a : UInt8) :: (0xb4 : UInt8) :: (0x00 : UInt8) :: (0x19 : UInt8) :: (0x03 : UInt8) :: dT_X0_copyFrom_6
def dT_X0_copyFrom_4 : List UInt8 := (0xbe : UInt8) :: (0xb8 : UInt8) :: (0x00 : UInt8) :: (0x3d : UInt8) :: (0x2b : UInt8) :: (0xb4 : UInt8) :: (0x00 : UInt8) :: (0x16 : UInt8) :: (0x03 : UInt8) :: (0x2a : UInt8) :: (0xb4 : UInt8) :: (0x00 : UInt8) :: (0x16 : UInt8) :: (0x03 : UInt8) :: (0x2a : UInt8) :: (0xb4 : UInt8) :: dT_X0_copyFrom_5
def dT_X0_copyFrom_3 : List UInt8 := (0x00 : UInt8) :: (0x3d : UInt8) :: (0x2b : UInt8) :: (0xb4 : UInt8) :: (0x00 : UInt8) :: (0x13 : UInt8) :: (0x03 : UInt8) :: (0x2a : UInt8) :: (0xb4 : UInt8) :: (0x00 : UInt8) :: (0x13 : UInt8) :: (0x03 : UInt8) :: (0x2a : UInt8) :: (0xb4 : UInt8) :: (0x00 : UInt8) :: (0x13 : UInt8) :: dT_X0_copyFrom_4
def dT_X0_copyFrom_2 : List UInt8 := (0x2b : UInt8) :: (0xb4 : UInt8) :: (0x00 : UInt8) :: (0x0f : UInt8) :: (0x03 : UInt8) :: (0x2a : UInt8) :: (0xb4 : UInt8) :: (0x00 : UInt8) :: (0x0f : UInt8) :: (0x03 : UInt8) :: (0x2a : UInt8) :: (0xb4 : UInt8) :: (0x00 : UInt8) :: (0x0f : UInt8) :: (0xbe : UInt8) :: (0xb8 : UInt8) :: dT_X0_copyFrom_3
def dT_X0_copyFrom_1 : List UInt8 := (0x2a : UInt8) :: (0x2b : UInt8) :: (0xb4 : UInt8) :: (0x00 : UInt8) :: (0x39 : UInt8) :: (0xb5 : UInt8) :: (0x00 : UInt8) :: (0x39 : UInt8) :: (0x2a : UInt8) :: (0x2b : UInt8) :: (0xb4 : UInt8) :: (0x00 : UInt8) :: (0x09 : UInt8) :: (0xb5 : UInt8) :: (0x00 : UInt8) :: (0x09 : UInt8) :: dT_X0_copyFrom_2
def dT_X0_copyFrom_0 : List UInt8 := (0x2a : UInt8) :: (0x2b : UInt8) :: (0xb4 : UInt8) :: (0x00 : UInt8) :: (0x33 : UInt8) :: (0xb5 : UInt8) :: (0x00 : UInt8) :: (0x33 : UInt8) :: (0x2a : UInt8) :: (0x2b : UInt8) :: (0xb4 : UInt8) :: (0x00 : UInt8) :: (0x36 : UInt8) :: (0xb5 : UInt8) :: (0x00 : UInt8) :: (0x36 : UInt8) :: dT_X0_copyFrom_1
theorem dT_X0_copyFrom : cX0_copyFrom.data.toList = dT_X0_copyFrom_0 := eq_of_beq (show (cX0_copyFrom.data.toList == dT_X0_copyFrom_0) = true by decide +kernel)
theorem dQ_X0_copyFrom_0 : dQ_P cX0_copyFrom 0 dT_X0_copyFrom_0 := fun i => by rw [dT_X0_copyFrom]; rfl
theorem dQ_X0_copyFrom_1 : dQ_P cX0_copyFrom 16 dT_X0_copyFrom_1 := fun i => (dQ_X0_copyFrom_0 (i + 16)).trans dk_t
theorem dQ_X0_copyFrom_2 : dQ_P cX0_copyFrom 32 dT_X0_copyFrom_2 := fun i => (dQ_X0_copyFrom_1 (i + 16)).trans dk_t
theorem dQ_X0_copyFrom_3 : dQ_P cX0_copyFrom 48 dT_X0_copyFrom_3 := fun i => (dQ_X0_copyFrom_2 (i + 16)).trans dk_t
theorem dQ_X0_copyFrom_4 : dQ_P cX0_copyFrom 64 dT_X0_copyFrom_4 := fun i => (dQ_X0_copyFrom_3 (i + 16)).trans dk_t
theorem dQ_X0_copyFrom_5 : dQ_P cX0_copyFrom 80 dT_X0_copyFrom_5 := fun i => (dQ_X0_copyFrom_4 (i + 16)).trans dk_t
theorem dQ_X0_copyFrom_6 : dQ_P cX0_copyFrom 96 dT_X0_copyFrom_6 := fun i => (dQ_X0_copyFrom_5 (i + 16)).trans dk_t
theorem dQ_X0_copyFrom_7 : dQ_P cX0_copyFrom 112 dT_X0_copyFrom_7 := fun i => (dQ_X0_copyFrom_6 (i + 16)).trans dk_t
theorem dQ_X0_copyFrom_8 : dQ_P cX0_copyFrom 128 dT_X0_copyFrom_8 := fun i => (dQ_X0_copyFrom_7 (i + 16)).trans dk_t
theorem dQ_X0_copyFrom_9 : dQ_P cX0_copyFrom 144 dT_X0_copyFrom_9 := fun i => (dQ_X0_copyFrom_8 (i + 16)).trans dk_t
theorem dQ_X0_copyFrom_10 : dQ_P cX0_copyFrom 160 dT_X0_copyFrom_10 := fun i => (dQ_X0_copyFrom_9 (i + 16)).trans dk_t
theorem dQ_X0_copyFrom_11 : dQ_P cX0_copyFrom 176 dT_X0_copyFrom_11 := fun i => (dQ_X0_copyFrom_10 (i + 16)).trans dk_t
theorem dQ_X0_copyFrom_12 : dQ_P cX0_copyFrom 192 dT_X0_copyFrom_12 := fun i => (dQ_X0_copyFrom_11 (i + 16)).trans dk_t
theorem dQ_X0_copyFrom_13 : dQ_P cX0_copyFrom 208 dT_X0_copyFrom_13 := fun i => (dQ_X0_copyFrom_12 (i + 16)).trans dk_t
theorem dX0_copyFrom_0 : decode cX0_copyFrom 0 = .ok (.aload_n 0, 1) := dk_42 ((dQ_X0_copyFrom_0 0).trans dk_j0)
theorem dX0_copyFrom_1 : decode cX0_copyFrom 1 = .ok (.aload_n 1, 1) := dk_43 ((dQ_X0_copyFrom_0 1).trans dk_j1)
theorem dX0_copyFrom_2 : decode cX0_copyFrom 2 = .ok (.getfield 51, 3) := dk_180 ((dQ_X0_copyFrom_0 2).trans dk_j2) ((dQ_X0_copyFrom_0 3).trans dk_j3) ((dQ_X0_copyFrom_0 4).trans dk_j4) dk_vu2_0_51
theorem dX0_copyFrom_5 : decode cX0_copyFrom 5 = .ok (.putfield 51, 3) := dk_181 ((dQ_X0_copyFrom_0 5).trans dk_j5) ((dQ_X0_copyFrom_0 6).trans dk_j6) ((dQ_X0_copyFrom_0 7).trans dk_j7) dk_vu2_0_51
theorem dX0_copyFrom_8 : decode cX0_copyFrom 8 = .ok (.aload_n 0, 1) := dk_42 ((dQ_X0_copyFrom_0 8).trans dk_j8)
theorem dX0_copyFrom_9 : decode cX0_copyFrom 9 = .ok (.aload_n 1, 1) := dk_43 ((dQ_X0_copyFrom_0 9).trans dk_j9)
theorem dX0_copyFrom_10 : decode cX0_copyFrom 10 = .ok (.getfield 54, 3) := dk_180 ((dQ_X0_copyFrom_0 10).trans dk_j10) ((dQ_X0_copyFrom_0 11).trans dk_j11) ((dQ_X0_copyFrom_0 12).trans dk_j12) dk_vu2_0_54
theorem dX0_copyFrom_13 : decode cX0_copyFrom 13 = .ok (.putfield 54, 3) := dk_181 ((dQ_X0_copyFrom_0 13).trans dk_j13) ((dQ_X0_copyFrom_0 14).trans dk_j14) ((dQ_X0_copyFrom_0 15).trans dk_j15) dk_vu2_0_54
theorem dX0_copyFrom_16 : decode cX0_copyFrom 16 = .ok (.aload_n 0, 1) := dk_42 ((dQ_X0_copyFrom_1 0).trans dk_j0)
theorem dX0_copyFrom_17 : decode cX0_copyFrom 17 = .ok (.aload_n 1, 1) := dk_43 ((dQ_X0_copyFrom_1 1).trans dk_j1)
theorem dX0_copyFrom_18 : decode cX0_copyFrom 18 = .ok (.getfield 57, 3) := dk_180 ((dQ_X0_copyFrom_1 2).trans dk_j2) ((dQ_X0_copyFrom_1 3).trans dk_j3) ((dQ_X0_copyFrom_1 4).trans dk_j4) dk_vu2_0_57
theorem dX0_copyFrom_21 : decode cX0_copyFrom 21 = .ok (.putfield 57, 3) := dk_181 ((dQ_X0_copyFrom_1 5).trans dk_j5) ((dQ_X0_copyFrom_1 6).trans dk_j6) ((dQ_X0_copyFrom_1 7).trans dk_j7) dk_vu2_0_57
theorem dX0_copyFrom_24 : decode cX0_copyFrom 24 = .ok (.aload_n 0, 1) := dk_42 ((dQ_X0_copyFrom_1 8).trans dk_j8)
theorem dX0_copyFrom_25 : decode cX0_copyFrom 25 = .ok (.aload_n 1, 1) := dk_43 ((dQ_X0_copyFrom_1 9).trans dk_j9)
theorem dX0_copyFrom_26 : decode cX0_copyFrom 26 = .ok (.getfield 9, 3) := dk_180 ((dQ_X0_copyFrom_1 10).trans dk_j10) ((dQ_X0_copyFrom_1 11).trans dk_j11) ((dQ_X0_copyFrom_1 12).trans dk_j12) dk_vu2_0_9
theorem dX0_copyFrom_29 : decode cX0_copyFrom 29 = .ok (.putfield 9, 3) := dk_181 ((dQ_X0_copyFrom_1 13).trans dk_j13) ((dQ_X0_copyFrom_1 14).trans dk_j14) ((dQ_X0_copyFrom_1 15).trans dk_j15) dk_vu2_0_9
theorem dX0_copyFrom_32 : decode cX0_copyFrom 32 = .ok (.aload_n 1, 1) := dk_43 ((dQ_X0_copyFrom_2 0).trans dk_j0)
theorem dX0_copyFrom_33 : decode cX0_copyFrom 33 = .ok (.getfield 15, 3) := dk_180 ((dQ_X0_copyFrom_2 1).trans dk_j1) ((dQ_X0_copyFrom_2 2).trans dk_j2) ((dQ_X0_copyFrom_2 3).trans dk_j3) dk_vu2_0_15
theorem dX0_copyFrom_36 : decode cX0_copyFrom 36 = .ok (.iconst 0, 1) := dk_3 ((dQ_X0_copyFrom_2 4).trans dk_j4)
theorem dX0_copyFrom_37 : decode cX0_copyFrom 37 = .ok (.aload_n 0, 1) := dk_42 ((dQ_X0_copyFrom_2 5).trans dk_j5)
theorem dX0_copyFrom_38 : decode cX0_copyFrom 38 = .ok (.getfield 15, 3) := dk_180 ((dQ_X0_copyFrom_2 6).trans dk_j6) ((dQ_X0_copyFrom_2 7).trans dk_j7) ((dQ_X0_copyFrom_2 8).trans dk_j8) dk_vu2_0_15
theorem dX0_copyFrom_41 : decode cX0_copyFrom 41 = .ok (.iconst 0, 1) := dk_3 ((dQ_X0_copyFrom_2 9).trans dk_j9)
theorem dX0_copyFrom_42 : decode cX0_copyFrom 42 = .ok (.aload_n 0, 1) := dk_42 ((dQ_X0_copyFrom_2 10).trans dk_j10)
theorem dX0_copyFrom_43 : decode cX0_copyFrom 43 = .ok (.getfield 15, 3) := dk_180 ((dQ_X0_copyFrom_2 11).trans dk_j11) ((dQ_X0_copyFrom_2 12).trans dk_j12) ((dQ_X0_copyFrom_2 13).trans dk_j13) dk_vu2_0_15
theorem dX0_copyFrom_46 : decode cX0_copyFrom 46 = .ok (.arraylength, 1) := dk_190 ((dQ_X0_copyFrom_2 14).trans dk_j14)
theorem dX0_copyFrom_47 : decode cX0_copyFrom 47 = .ok (.invokestatic 61, 3) := dk_184 ((dQ_X0_copyFrom_2 15).trans dk_j15) ((dQ_X0_copyFrom_3 0).trans dk_j0) ((dQ_X0_copyFrom_3 1).trans dk_j1) dk_vu2_0_61
theorem dX0_copyFrom_50 : decode cX0_copyFrom 50 = .ok (.aload_n 1, 1) := dk_43 ((dQ_X0_copyFrom_3 2).trans dk_j2)
theorem dX0_copyFrom_51 : decode cX0_copyFrom 51 = .ok (.getfield 19, 3) := dk_180 ((dQ_X0_copyFrom_3 3).trans dk_j3) ((dQ_X0_copyFrom_3 4).trans dk_j4) ((dQ_X0_copyFrom_3 5).trans dk_j5) dk_vu2_0_19
theorem dX0_copyFrom_54 : decode cX0_copyFrom 54 = .ok (.iconst 0, 1) := dk_3 ((dQ_X0_copyFrom_3 6).trans dk_j6)
theorem dX0_copyFrom_55 : decode cX0_copyFrom 55 = .ok (.aload_n 0, 1) := dk_42 ((dQ_X0_copyFrom_3 7).trans dk_j7)
theorem dX0_copyFrom_56 : decode cX0_copyFrom 56 = .ok (.getfield 19, 3) := dk_180 ((dQ_X0_copyFrom_3 8).trans dk_j8) ((dQ_X0_copyFrom_3 9).trans dk_j9) ((dQ_X0_copyFrom_3 10).trans dk_j10) dk_vu2_0_19
theorem dX0_copyFrom_59 : decode cX0_copyFrom 59 = .ok (.iconst 0, 1) := dk_3 ((dQ_X0_copyFrom_3 11).trans dk_j11)
theorem dX0_copyFrom_60 : decode cX0_copyFrom 60 = .ok (.aload_n 0, 1) := dk_42 ((dQ_X0_copyFrom_3 12).trans dk_j12)
theorem dX0_copyFrom_61 : decode cX0_copyFrom 61 = .ok (.getfield 19, 3) := dk_180 ((dQ_X0_copyFrom_3 13).trans dk_j13) ((dQ_X0_copyFrom_3 14).trans dk_j14) ((dQ_X0_copyFrom_3 15).trans dk_j15) dk_vu2_0_19
theorem dX0_copyFrom_64 : decode cX0_copyFrom 64 = .ok (.arraylength, 1) := dk_190 ((dQ_X0_copyFrom_4 0).trans dk_j0)
theorem dX0_copyFrom_65 : decode cX0_copyFrom 65 = .ok (.invokestatic 61, 3) := dk_184 ((dQ_X0_copyFrom_4 1).trans dk_j1) ((dQ_X0_copyFrom_4 2).trans dk_j2) ((dQ_X0_copyFrom_4 3).trans dk_j3) dk_vu2_0_61
theorem dX0_copyFrom_68 : decode cX0_copyFrom 68 = .ok (.aload_n 1, 1) := dk_43 ((dQ_X0_copyFrom_4 4).trans dk_j4)
theorem dX0_copyFrom_69 : decode cX0_copyFrom 69 = .ok (.getfield 22, 3) := dk_180 ((dQ_X0_copyFrom_4 5).trans dk_j5) ((dQ_X0_copyFrom_4 6).trans dk_j6) ((dQ_X0_copyFrom_4 7).trans dk_j7) dk_vu2_0_22
theorem dX0_copyFrom_72 : decode cX0_copyFrom 72 = .ok (.iconst 0, 1) := dk_3 ((dQ_X0_copyFrom_4 8).trans dk_j8)
theorem dX0_copyFrom_73 : decode cX0_copyFrom 73 = .ok (.aload_n 0, 1) := dk_42 ((dQ_X0_copyFrom_4 9).trans dk_j9)
theorem dX0_copyFrom_74 : decode cX0_copyFrom 74 = .ok (.getfield 22, 3) := dk_180 ((dQ_X0_copyFrom_4 10).trans dk_j10) ((dQ_X0_copyFrom_4 11).trans dk_j11) ((dQ_X0_copyFrom_4 12).trans dk_j12) dk_vu2_0_22
theorem dX0_copyFrom_77 : decode cX0_copyFrom 77 = .ok (.iconst 0, 1) := dk_3 ((dQ_X0_copyFrom_4 13).trans dk_j13)
theorem dX0_copyFrom_78 : decode cX0_copyFrom 78 = .ok (.aload_n 0, 1) := dk_42 ((dQ_X0_copyFrom_4 14).trans dk_j14)
theorem dX0_copyFrom_79 : decode cX0_copyFrom 79 = .ok (.getfield 22, 3) := dk_180 ((dQ_X0_copyFrom_4 15).trans dk_j15) ((dQ_X0_copyFrom_5 0).trans dk_j0) ((dQ_X0_copyFrom_5 1).trans dk_j1) dk_vu2_0_22
theorem dX0_copyFrom_82 : decode cX0_copyFrom 82 = .ok (.arraylength, 1) := dk_190 ((dQ_X0_copyFrom_5 2).trans dk_j2)
theorem dX0_copyFrom_83 : decode cX0_copyFrom 83 = .ok (.invokestatic 61, 3) := dk_184 ((dQ_X0_copyFrom_5 3).trans dk_j3) ((dQ_X0_copyFrom_5 4).trans dk_j4) ((dQ_X0_copyFrom_5 5).trans dk_j5) dk_vu2_0_61
theorem dX0_copyFrom_86 : decode cX0_copyFrom 86 = .ok (.aload_n 1, 1) := dk_43 ((dQ_X0_copyFrom_5 6).trans dk_j6)
theorem dX0_copyFrom_87 : decode cX0_copyFrom 87 = .ok (.getfield 25, 3) := dk_180 ((dQ_X0_copyFrom_5 7).trans dk_j7) ((dQ_X0_copyFrom_5 8).trans dk_j8) ((dQ_X0_copyFrom_5 9).trans dk_j9) dk_vu2_0_25
theorem dX0_copyFrom_90 : decode cX0_copyFrom 90 = .ok (.iconst 0, 1) := dk_3 ((dQ_X0_copyFrom_5 10).trans dk_j10)
theorem dX0_copyFrom_91 : decode cX0_copyFrom 91 = .ok (.aload_n 0, 1) := dk_42 ((dQ_X0_copyFrom_5 11).trans dk_j11)
theorem dX0_copyFrom_92 : decode cX0_copyFrom 92 = .ok (.getfield 25, 3) := dk_180 ((dQ_X0_copyFrom_5 12).trans dk_j12) ((dQ_X0_copyFrom_5 13).trans dk_j13) ((dQ_X0_copyFrom_5 14).trans dk_j14) dk_vu2_0_25
theorem dX0_copyFrom_95 : decode cX0_copyFrom 95 = .ok (.iconst 0, 1) := dk_3 ((dQ_X0_copyFrom_5 15).trans dk_j15)
theorem dX0_copyFrom_96 : decode cX0_copyFrom 96 = .ok (.aload_n 0, 1) := dk_42 ((dQ_X0_copyFrom_6 0).trans dk_j0)
theorem dX0_copyFrom_97 : decode cX0_copyFrom 97 = .ok (.getfield 25, 3) := dk_180 ((dQ_X0_copyFrom_6 1).trans dk_j1) ((dQ_X0_copyFrom_6 2).trans dk_j2) ((dQ_X0_copyFrom_6 3).trans dk_j3) dk_vu2_0_25
theorem dX0_copyFrom_100 : decode cX0_copyFrom 100 = .ok (.arraylength, 1) := dk_190 ((dQ_X0_copyFrom_6 4).trans dk_j4)
theorem dX0_copyFrom_101 : decode cX0_copyFrom 101 = .ok (.invokestatic 61, 3) := dk_184 ((dQ_X0_copyFrom_6 5).trans dk_j5) ((dQ_X0_copyFrom_6 6).trans dk_j6) ((dQ_X0_copyFrom_6 7).trans dk_j7) dk_vu2_0_61
theorem dX0_copyFrom_104 : decode cX0_copyFrom 104 = .ok (.aload_n 1, 1) := dk_43 ((dQ_X0_copyFrom_6 8).trans dk_j8)
theorem dX0_copyFrom_105 : decode cX0_copyFrom 105 = .ok (.getfield 28, 3) := dk_180 ((dQ_X0_copyFrom_6 9).trans dk_j9) ((dQ_X0_copyFrom_6 10).trans dk_j10) ((dQ_X0_copyFrom_6 11).trans dk_j11) dk_vu2_0_28
theorem dX0_copyFrom_108 : decode cX0_copyFrom 108 = .ok (.iconst 0, 1) := dk_3 ((dQ_X0_copyFrom_6 12).trans dk_j12)
theorem dX0_copyFrom_109 : decode cX0_copyFrom 109 = .ok (.aload_n 0, 1) := dk_42 ((dQ_X0_copyFrom_6 13).trans dk_j13)
theorem dX0_copyFrom_110 : decode cX0_copyFrom 110 = .ok (.getfield 28, 3) := dk_180 ((dQ_X0_copyFrom_6 14).trans dk_j14) ((dQ_X0_copyFrom_6 15).trans dk_j15) ((dQ_X0_copyFrom_7 0).trans dk_j0) dk_vu2_0_28
theorem dX0_copyFrom_113 : decode cX0_copyFrom 113 = .ok (.iconst 0, 1) := dk_3 ((dQ_X0_copyFrom_7 1).trans dk_j1)
theorem dX0_copyFrom_114 : decode cX0_copyFrom 114 = .ok (.aload_n 0, 1) := dk_42 ((dQ_X0_copyFrom_7 2).trans dk_j2)
theorem dX0_copyFrom_115 : decode cX0_copyFrom 115 = .ok (.getfield 28, 3) := dk_180 ((dQ_X0_copyFrom_7 3).trans dk_j3) ((dQ_X0_copyFrom_7 4).trans dk_j4) ((dQ_X0_copyFrom_7 5).trans dk_j5) dk_vu2_0_28
theorem dX0_copyFrom_118 : decode cX0_copyFrom 118 = .ok (.arraylength, 1) := dk_190 ((dQ_X0_copyFrom_7 6).trans dk_j6)
theorem dX0_copyFrom_119 : decode cX0_copyFrom 119 = .ok (.invokestatic 61, 3) := dk_184 ((dQ_X0_copyFrom_7 7).trans dk_j7) ((dQ_X0_copyFrom_7 8).trans dk_j8) ((dQ_X0_copyFrom_7 9).trans dk_j9) dk_vu2_0_61
theorem dX0_copyFrom_122 : decode cX0_copyFrom 122 = .ok (.aload_n 1, 1) := dk_43 ((dQ_X0_copyFrom_7 10).trans dk_j10)
theorem dX0_copyFrom_123 : decode cX0_copyFrom 123 = .ok (.getfield 31, 3) := dk_180 ((dQ_X0_copyFrom_7 11).trans dk_j11) ((dQ_X0_copyFrom_7 12).trans dk_j12) ((dQ_X0_copyFrom_7 13).trans dk_j13) dk_vu2_0_31
theorem dX0_copyFrom_126 : decode cX0_copyFrom 126 = .ok (.iconst 0, 1) := dk_3 ((dQ_X0_copyFrom_7 14).trans dk_j14)
theorem dX0_copyFrom_127 : decode cX0_copyFrom 127 = .ok (.aload_n 0, 1) := dk_42 ((dQ_X0_copyFrom_7 15).trans dk_j15)
theorem dX0_copyFrom_128 : decode cX0_copyFrom 128 = .ok (.getfield 31, 3) := dk_180 ((dQ_X0_copyFrom_8 0).trans dk_j0) ((dQ_X0_copyFrom_8 1).trans dk_j1) ((dQ_X0_copyFrom_8 2).trans dk_j2) dk_vu2_0_31
theorem dX0_copyFrom_131 : decode cX0_copyFrom 131 = .ok (.iconst 0, 1) := dk_3 ((dQ_X0_copyFrom_8 3).trans dk_j3)
theorem dX0_copyFrom_132 : decode cX0_copyFrom 132 = .ok (.aload_n 0, 1) := dk_42 ((dQ_X0_copyFrom_8 4).trans dk_j4)
theorem dX0_copyFrom_133 : decode cX0_copyFrom 133 = .ok (.getfield 31, 3) := dk_180 ((dQ_X0_copyFrom_8 5).trans dk_j5) ((dQ_X0_copyFrom_8 6).trans dk_j6) ((dQ_X0_copyFrom_8 7).trans dk_j7) dk_vu2_0_31
theorem dX0_copyFrom_136 : decode cX0_copyFrom 136 = .ok (.arraylength, 1) := dk_190 ((dQ_X0_copyFrom_8 8).trans dk_j8)
theorem dX0_copyFrom_137 : decode cX0_copyFrom 137 = .ok (.invokestatic 61, 3) := dk_184 ((dQ_X0_copyFrom_8 9).trans dk_j9) ((dQ_X0_copyFrom_8 10).trans dk_j10) ((dQ_X0_copyFrom_8 11).trans dk_j11) dk_vu2_0_61
theorem dX0_copyFrom_140 : decode cX0_copyFrom 140 = .ok (.aload_n 1, 1) := dk_43 ((dQ_X0_copyFrom_8 12).trans dk_j12)
theorem dX0_copyFrom_141 : decode cX0_copyFrom 141 = .ok (.getfield 34, 3) := dk_180 ((dQ_X0_copyFrom_8 13).trans dk_j13) ((dQ_X0_copyFrom_8 14).trans dk_j14) ((dQ_X0_copyFrom_8 15).trans dk_j15) dk_vu2_0_34
theorem dX0_copyFrom_144 : decode cX0_copyFrom 144 = .ok (.iconst 0, 1) := dk_3 ((dQ_X0_copyFrom_9 0).trans dk_j0)
theorem dX0_copyFrom_145 : decode cX0_copyFrom 145 = .ok (.aload_n 0, 1) := dk_42 ((dQ_X0_copyFrom_9 1).trans dk_j1)
theorem dX0_copyFrom_146 : decode cX0_copyFrom 146 = .ok (.getfield 34, 3) := dk_180 ((dQ_X0_copyFrom_9 2).trans dk_j2) ((dQ_X0_copyFrom_9 3).trans dk_j3) ((dQ_X0_copyFrom_9 4).trans dk_j4) dk_vu2_0_34
theorem dX0_copyFrom_149 : decode cX0_copyFrom 149 = .ok (.iconst 0, 1) := dk_3 ((dQ_X0_copyFrom_9 5).trans dk_j5)
theorem dX0_copyFrom_150 : decode cX0_copyFrom 150 = .ok (.aload_n 0, 1) := dk_42 ((dQ_X0_copyFrom_9 6).trans dk_j6)
theorem dX0_copyFrom_151 : decode cX0_copyFrom 151 = .ok (.getfield 34, 3) := dk_180 ((dQ_X0_copyFrom_9 7).trans dk_j7) ((dQ_X0_copyFrom_9 8).trans dk_j8) ((dQ_X0_copyFrom_9 9).trans dk_j9) dk_vu2_0_34
theorem dX0_copyFrom_154 : decode cX0_copyFrom 154 = .ok (.arraylength, 1) := dk_190 ((dQ_X0_copyFrom_9 10).trans dk_j10)
theorem dX0_copyFrom_155 : decode cX0_copyFrom 155 = .ok (.invokestatic 61, 3) := dk_184 ((dQ_X0_copyFrom_9 11).trans dk_j11) ((dQ_X0_copyFrom_9 12).trans dk_j12) ((dQ_X0_copyFrom_9 13).trans dk_j13) dk_vu2_0_61
theorem dX0_copyFrom_158 : decode cX0_copyFrom 158 = .ok (.aload_n 1, 1) := dk_43 ((dQ_X0_copyFrom_9 14).trans dk_j14)
theorem dX0_copyFrom_159 : decode cX0_copyFrom 159 = .ok (.getfield 37, 3) := dk_180 ((dQ_X0_copyFrom_9 15).trans dk_j15) ((dQ_X0_copyFrom_10 0).trans dk_j0) ((dQ_X0_copyFrom_10 1).trans dk_j1) dk_vu2_0_37
theorem dX0_copyFrom_162 : decode cX0_copyFrom 162 = .ok (.iconst 0, 1) := dk_3 ((dQ_X0_copyFrom_10 2).trans dk_j2)
theorem dX0_copyFrom_163 : decode cX0_copyFrom 163 = .ok (.aload_n 0, 1) := dk_42 ((dQ_X0_copyFrom_10 3).trans dk_j3)
theorem dX0_copyFrom_164 : decode cX0_copyFrom 164 = .ok (.getfield 37, 3) := dk_180 ((dQ_X0_copyFrom_10 4).trans dk_j4) ((dQ_X0_copyFrom_10 5).trans dk_j5) ((dQ_X0_copyFrom_10 6).trans dk_j6) dk_vu2_0_37
theorem dX0_copyFrom_167 : decode cX0_copyFrom 167 = .ok (.iconst 0, 1) := dk_3 ((dQ_X0_copyFrom_10 7).trans dk_j7)
theorem dX0_copyFrom_168 : decode cX0_copyFrom 168 = .ok (.aload_n 0, 1) := dk_42 ((dQ_X0_copyFrom_10 8).trans dk_j8)
theorem dX0_copyFrom_169 : decode cX0_copyFrom 169 = .ok (.getfield 37, 3) := dk_180 ((dQ_X0_copyFrom_10 9).trans dk_j9) ((dQ_X0_copyFrom_10 10).trans dk_j10) ((dQ_X0_copyFrom_10 11).trans dk_j11) dk_vu2_0_37
theorem dX0_copyFrom_172 : decode cX0_copyFrom 172 = .ok (.arraylength, 1) := dk_190 ((dQ_X0_copyFrom_10 12).trans dk_j12)
theorem dX0_copyFrom_173 : decode cX0_copyFrom 173 = .ok (.invokestatic 61, 3) := dk_184 ((dQ_X0_copyFrom_10 13).trans dk_j13) ((dQ_X0_copyFrom_10 14).trans dk_j14) ((dQ_X0_copyFrom_10 15).trans dk_j15) dk_vu2_0_61
theorem dX0_copyFrom_176 : decode cX0_copyFrom 176 = .ok (.aload_n 1, 1) := dk_43 ((dQ_X0_copyFrom_11 0).trans dk_j0)
theorem dX0_copyFrom_177 : decode cX0_copyFrom 177 = .ok (.getfield 40, 3) := dk_180 ((dQ_X0_copyFrom_11 1).trans dk_j1) ((dQ_X0_copyFrom_11 2).trans dk_j2) ((dQ_X0_copyFrom_11 3).trans dk_j3) dk_vu2_0_40
theorem dX0_copyFrom_180 : decode cX0_copyFrom 180 = .ok (.iconst 0, 1) := dk_3 ((dQ_X0_copyFrom_11 4).trans dk_j4)
theorem dX0_copyFrom_181 : decode cX0_copyFrom 181 = .ok (.aload_n 0, 1) := dk_42 ((dQ_X0_copyFrom_11 5).trans dk_j5)
theorem dX0_copyFrom_182 : decode cX0_copyFrom 182 = .ok (.getfield 40, 3) := dk_180 ((dQ_X0_copyFrom_11 6).trans dk_j6) ((dQ_X0_copyFrom_11 7).trans dk_j7) ((dQ_X0_copyFrom_11 8).trans dk_j8) dk_vu2_0_40
theorem dX0_copyFrom_185 : decode cX0_copyFrom 185 = .ok (.iconst 0, 1) := dk_3 ((dQ_X0_copyFrom_11 9).trans dk_j9)
theorem dX0_copyFrom_186 : decode cX0_copyFrom 186 = .ok (.aload_n 0, 1) := dk_42 ((dQ_X0_copyFrom_11 10).trans dk_j10)
theorem dX0_copyFrom_187 : decode cX0_copyFrom 187 = .ok (.getfield 40, 3) := dk_180 ((dQ_X0_copyFrom_11 11).trans dk_j11) ((dQ_X0_copyFrom_11 12).trans dk_j12) ((dQ_X0_copyFrom_11 13).trans dk_j13) dk_vu2_0_40
theorem dX0_copyFrom_190 : decode cX0_copyFrom 190 = .ok (.arraylength, 1) := dk_190 ((dQ_X0_copyFrom_11 14).trans dk_j14)
theorem dX0_copyFrom_191 : decode cX0_copyFrom 191 = .ok (.invokestatic 61, 3) := dk_184 ((dQ_X0_copyFrom_11 15).trans dk_j15) ((dQ_X0_copyFrom_12 0).trans dk_j0) ((dQ_X0_copyFrom_12 1).trans dk_j1) dk_vu2_0_61
theorem dX0_copyFrom_194 : decode cX0_copyFrom 194 = .ok (.aload_n 1, 1) := dk_43 ((dQ_X0_copyFrom_12 2).trans dk_j2)
theorem dX0_copyFrom_195 : decode cX0_copyFrom 195 = .ok (.getfield 43, 3) := dk_180 ((dQ_X0_copyFrom_12 3).trans dk_j3) ((dQ_X0_copyFrom_12 4).trans dk_j4) ((dQ_X0_copyFrom_12 5).trans dk_j5) dk_vu2_0_43
theorem dX0_copyFrom_198 : decode cX0_copyFrom 198 = .ok (.iconst 0, 1) := dk_3 ((dQ_X0_copyFrom_12 6).trans dk_j6)
theorem dX0_copyFrom_199 : decode cX0_copyFrom 199 = .ok (.aload_n 0, 1) := dk_42 ((dQ_X0_copyFrom_12 7).trans dk_j7)
theorem dX0_copyFrom_200 : decode cX0_copyFrom 200 = .ok (.getfield 43, 3) := dk_180 ((dQ_X0_copyFrom_12 8).trans dk_j8) ((dQ_X0_copyFrom_12 9).trans dk_j9) ((dQ_X0_copyFrom_12 10).trans dk_j10) dk_vu2_0_43
theorem dX0_copyFrom_203 : decode cX0_copyFrom 203 = .ok (.iconst 0, 1) := dk_3 ((dQ_X0_copyFrom_12 11).trans dk_j11)
theorem dX0_copyFrom_204 : decode cX0_copyFrom 204 = .ok (.aload_n 0, 1) := dk_42 ((dQ_X0_copyFrom_12 12).trans dk_j12)
theorem dX0_copyFrom_205 : decode cX0_copyFrom 205 = .ok (.getfield 43, 3) := dk_180 ((dQ_X0_copyFrom_12 13).trans dk_j13) ((dQ_X0_copyFrom_12 14).trans dk_j14) ((dQ_X0_copyFrom_12 15).trans dk_j15) dk_vu2_0_43
theorem dX0_copyFrom_208 : decode cX0_copyFrom 208 = .ok (.arraylength, 1) := dk_190 ((dQ_X0_copyFrom_13 0).trans dk_j0)
theorem dX0_copyFrom_209 : decode cX0_copyFrom 209 = .ok (.invokestatic 61, 3) := dk_184 ((dQ_X0_copyFrom_13 1).trans dk_j1) ((dQ_X0_copyFrom_13 2).trans dk_j2) ((dQ_X0_copyFrom_13 3).trans dk_j3) dk_vu2_0_61
theorem dX0_copyFrom_212 : decode cX0_copyFrom 212 = .ok (.return_, 1) := dk_177 ((dQ_X0_copyFrom_13 4).trans dk_j4)
def dT_X0_liveWhole_0 : List UInt8 := (0x2a : UInt8) :: (0x03 : UInt8) :: (0x2a : UInt8) :: (0xb4 : UInt8) :: (0x00 : UInt8) :: (0x33 : UInt8) :: (0xb6 : UInt8) :: (0x00 : UInt8) :: (0x53 : UInt8) :: (0xb1 : UInt8) :: []
theorem dT_X0_liveWhole : cX0_liveWhole.data.toList = dT_X0_liveWhole_0 := eq_of_beq (show (cX0_liveWhole.data.toList == dT_X0_liveWhole_0) = true by decide +kernel)
theorem dQ_X0_liveWhole_0 : dQ_P cX0_liveWhole 0 dT_X0_liveWhole_0 := fun i => by rw [dT_X0_liveWhole]; rfl
theorem dX0_liveWhole_0 : decode cX0_liveWhole 0 = .ok (.aload_n 0, 1) := dk_42 ((dQ_X0_liveWhole_0 0).trans dk_j0)
theorem dX0_liveWhole_1 : decode cX0_liveWhole 1 = .ok (.iconst 0, 1) := dk_3 ((dQ_X0_liveWhole_0 1).trans dk_j1)
theorem dX0_liveWhole_2 : decode cX0_liveWhole 2 = .ok (.aload_n 0, 1) := dk_42 ((dQ_X0_liveWhole_0 2).trans dk_j2)
theorem dX0_liveWhole_3 : decode cX0_liveWhole 3 = .ok (.getfield 51, 3) := dk_180 ((dQ_X0_liveWhole_0 3).trans dk_j3) ((dQ_X0_liveWhole_0 4).trans dk_j4) ((dQ_X0_liveWhole_0 5).trans dk_j5) dk_vu2_0_51
theorem dX0_liveWhole_6 : decode cX0_liveWhole 6 = .ok (.invokevirtual 83, 3) := dk_182 ((dQ_X0_liveWhole_0 6).trans dk_j6) ((dQ_X0_liveWhole_0 7).trans dk_j7) ((dQ_X0_liveWhole_0 8).trans dk_j8) dk_vu2_0_83
theorem dX0_liveWhole_9 : decode cX0_liveWhole 9 = .ok (.return_, 1) := dk_177 ((dQ_X0_liveWhole_0 9).trans dk_j9)
def dT_X0_live_3 : List UInt8 := (0x5b : UInt8) :: (0x2a : UInt8) :: (0x1d : UInt8) :: (0xb6 : UInt8) :: (0x00 : UInt8) :: (0x5f : UInt8) :: (0x84 : UInt8) :: (0x03 : UInt8) :: (0x01 : UInt8) :: (0xa7 : UInt8) :: (0xff : UInt8) :: (0xe6 : UInt8) :: (0xb1 : UInt8) :: []
def dT_X0_live_2 : List UInt8 := (0x1c : UInt8) :: (0xa2 : UInt8) :: (0x00 : UInt8) :: (0x1b : UInt8) :: (0x1d : UInt8) :: (0x2a : UInt8) :: (0xb4 : UInt8) :: (0x00 : UInt8) :: (0x33 : UInt8) :: (0xa2 : UInt8) :: (0x00 : UInt8) :: (0x13 : UInt8) :: (0x2a : UInt8) :: (0x1d : UInt8) :: (0xb6 : UInt8) :: (0x00 : UInt8) :: dT_X0_live_3
def dT_X0_live_1 : List UInt8 := (0x2e : UInt8) :: (0x1b : UInt8) :: (0xb8 : UInt8) :: (0x00 : UInt8) :: (0x57 : UInt8) :: (0x7e : UInt8) :: (0x4f : UInt8) :: (0x84 : UInt8) :: (0x03 : UInt8) :: (0x01 : UInt8) :: (0xa7 : UInt8) :: (0xff : UInt8) :: (0xe8 : UInt8) :: (0x1b : UInt8) :: (0x3e : UInt8) :: (0x1d : UInt8) :: dT_X0_live_2
def dT_X0_live_0 : List UInt8 := (0x03 : UInt8) :: (0x3e : UInt8) :: (0x1d : UInt8) :: (0x2a : UInt8) :: (0xb4 : UInt8) :: (0x00 : UInt8) :: (0x36 : UInt8) :: (0xa2 : UInt8) :: (0x00 : UInt8) :: (0x16 : UInt8) :: (0x2a : UInt8) :: (0xb4 : UInt8) :: (0x00 : UInt8) :: (0x2b : UInt8) :: (0x1d : UInt8) :: (0x5c : UInt8) :: dT_X0_live_1
theorem dT_X0_live : cX0_live.data.toList = dT_X0_live_0 := eq_of_beq (show (cX0_live.data.toList == dT_X0_live_0) = true by decide +kernel)
theorem dQ_X0_live_0 : dQ_P cX0_live 0 dT_X0_live_0 := fun i => by rw [dT_X0_live]; rfl
theorem dQ_X0_live_1 : dQ_P cX0_live 16 dT_X0_live_1 := fun i => (dQ_X0_live_0 (i + 16)).trans dk_t
theorem dQ_X0_live_2 : dQ_P cX0_live 32 dT_X0_live_2 := fun i => (dQ_X0_live_1 (i + 16)).trans dk_t
theorem dQ_X0_live_3 : dQ_P cX0_live 48 dT_X0_live_3 := fun i => (dQ_X0_live_2 (i + 16)).trans dk_t
theorem dX0_live_0 : decode cX0_live 0 = .ok (.iconst 0, 1) := dk_3 ((dQ_X0_live_0 0).trans dk_j0)
theorem dX0_live_1 : decode cX0_live 1 = .ok (.istore_n 3, 1) := dk_62 ((dQ_X0_live_0 1).trans dk_j1)
theorem dX0_live_2 : decode cX0_live 2 = .ok (.iload_n 3, 1) := dk_29 ((dQ_X0_live_0 2).trans dk_j2)
theorem dX0_live_3 : decode cX0_live 3 = .ok (.aload_n 0, 1) := dk_42 ((dQ_X0_live_0 3).trans dk_j3)
theorem dX0_live_4 : decode cX0_live 4 = .ok (.getfield 54, 3) := dk_180 ((dQ_X0_live_0 4).trans dk_j4) ((dQ_X0_live_0 5).trans dk_j5) ((dQ_X0_live_0 6).trans dk_j6) dk_vu2_0_54
theorem dX0_live_7 : decode cX0_live 7 = .ok (.if_icmp .ge 22, 3) := dk_162 ((dQ_X0_live_0 7).trans dk_j7) ((dQ_X0_live_0 8).trans dk_j8) ((dQ_X0_live_0 9).trans dk_j9) dk_vs2_0_22
theorem dX0_live_10 : decode cX0_live 10 = .ok (.aload_n 0, 1) := dk_42 ((dQ_X0_live_0 10).trans dk_j10)
theorem dX0_live_11 : decode cX0_live 11 = .ok (.getfield 43, 3) := dk_180 ((dQ_X0_live_0 11).trans dk_j11) ((dQ_X0_live_0 12).trans dk_j12) ((dQ_X0_live_0 13).trans dk_j13) dk_vu2_0_43
theorem dX0_live_14 : decode cX0_live 14 = .ok (.iload_n 3, 1) := dk_29 ((dQ_X0_live_0 14).trans dk_j14)
theorem dX0_live_15 : decode cX0_live 15 = .ok (.dup2, 1) := dk_92 ((dQ_X0_live_0 15).trans dk_j15)
theorem dX0_live_16 : decode cX0_live 16 = .ok (.iaload, 1) := dk_46 ((dQ_X0_live_1 0).trans dk_j0)
theorem dX0_live_17 : decode cX0_live 17 = .ok (.iload_n 1, 1) := dk_27 ((dQ_X0_live_1 1).trans dk_j1)
theorem dX0_live_18 : decode cX0_live 18 = .ok (.invokestatic 87, 3) := dk_184 ((dQ_X0_live_1 2).trans dk_j2) ((dQ_X0_live_1 3).trans dk_j3) ((dQ_X0_live_1 4).trans dk_j4) dk_vu2_0_87
theorem dX0_live_21 : decode cX0_live 21 = .ok (.iand, 1) := dk_126 ((dQ_X0_live_1 5).trans dk_j5)
theorem dX0_live_22 : decode cX0_live 22 = .ok (.iastore, 1) := dk_79 ((dQ_X0_live_1 6).trans dk_j6)
theorem dX0_live_23 : decode cX0_live 23 = .ok (.iinc 3 1, 3) := dk_132 ((dQ_X0_live_1 7).trans dk_j7) ((dQ_X0_live_1 8).trans dk_j8) ((dQ_X0_live_1 9).trans dk_j9) dk_vu1_3 dk_vs1_1
theorem dX0_live_26 : decode cX0_live 26 = .ok (.goto (-24), 3) := dk_167 ((dQ_X0_live_1 10).trans dk_j10) ((dQ_X0_live_1 11).trans dk_j11) ((dQ_X0_live_1 12).trans dk_j12) dk_vs2_255_232
theorem dX0_live_29 : decode cX0_live 29 = .ok (.iload_n 1, 1) := dk_27 ((dQ_X0_live_1 13).trans dk_j13)
theorem dX0_live_30 : decode cX0_live 30 = .ok (.istore_n 3, 1) := dk_62 ((dQ_X0_live_1 14).trans dk_j14)
theorem dX0_live_31 : decode cX0_live 31 = .ok (.iload_n 3, 1) := dk_29 ((dQ_X0_live_1 15).trans dk_j15)
theorem dX0_live_32 : decode cX0_live 32 = .ok (.iload_n 2, 1) := dk_28 ((dQ_X0_live_2 0).trans dk_j0)
theorem dX0_live_33 : decode cX0_live 33 = .ok (.if_icmp .ge 27, 3) := dk_162 ((dQ_X0_live_2 1).trans dk_j1) ((dQ_X0_live_2 2).trans dk_j2) ((dQ_X0_live_2 3).trans dk_j3) dk_vs2_0_27
theorem dX0_live_36 : decode cX0_live 36 = .ok (.iload_n 3, 1) := dk_29 ((dQ_X0_live_2 4).trans dk_j4)
theorem dX0_live_37 : decode cX0_live 37 = .ok (.aload_n 0, 1) := dk_42 ((dQ_X0_live_2 5).trans dk_j5)
theorem dX0_live_38 : decode cX0_live 38 = .ok (.getfield 51, 3) := dk_180 ((dQ_X0_live_2 6).trans dk_j6) ((dQ_X0_live_2 7).trans dk_j7) ((dQ_X0_live_2 8).trans dk_j8) dk_vu2_0_51
theorem dX0_live_41 : decode cX0_live 41 = .ok (.if_icmp .ge 19, 3) := dk_162 ((dQ_X0_live_2 9).trans dk_j9) ((dQ_X0_live_2 10).trans dk_j10) ((dQ_X0_live_2 11).trans dk_j11) dk_vs2_0_19
theorem dX0_live_44 : decode cX0_live 44 = .ok (.aload_n 0, 1) := dk_42 ((dQ_X0_live_2 12).trans dk_j12)
theorem dX0_live_45 : decode cX0_live 45 = .ok (.iload_n 3, 1) := dk_29 ((dQ_X0_live_2 13).trans dk_j13)
theorem dX0_live_46 : decode cX0_live 46 = .ok (.invokevirtual 91, 3) := dk_182 ((dQ_X0_live_2 14).trans dk_j14) ((dQ_X0_live_2 15).trans dk_j15) ((dQ_X0_live_3 0).trans dk_j0) dk_vu2_0_91
theorem dX0_live_49 : decode cX0_live 49 = .ok (.aload_n 0, 1) := dk_42 ((dQ_X0_live_3 1).trans dk_j1)
theorem dX0_live_50 : decode cX0_live 50 = .ok (.iload_n 3, 1) := dk_29 ((dQ_X0_live_3 2).trans dk_j2)
theorem dk_vu2_0_95 : (0x00 : UInt8).toNat * 256 + (0x5f : UInt8).toNat = (95 : Nat) := by decide +kernel
theorem dX0_live_51 : decode cX0_live 51 = .ok (.invokevirtual 95, 3) := dk_182 ((dQ_X0_live_3 3).trans dk_j3) ((dQ_X0_live_3 4).trans dk_j4) ((dQ_X0_live_3 5).trans dk_j5) dk_vu2_0_95
theorem dX0_live_54 : decode cX0_live 54 = .ok (.iinc 3 1, 3) := dk_132 ((dQ_X0_live_3 6).trans dk_j6) ((dQ_X0_live_3 7).trans dk_j7) ((dQ_X0_live_3 8).trans dk_j8) dk_vu1_3 dk_vs1_1
theorem dX0_live_57 : decode cX0_live 57 = .ok (.goto (-26), 3) := dk_167 ((dQ_X0_live_3 9).trans dk_j9) ((dQ_X0_live_3 10).trans dk_j10) ((dQ_X0_live_3 11).trans dk_j11) dk_vs2_255_230
theorem dX0_live_60 : decode cX0_live 60 = .ok (.return_, 1) := dk_177 ((dQ_X0_live_3 12).trans dk_j12)
def dT_X0_tickleByNets_9 : List UInt8 := (0x00 : UInt8) :: (0x04 : UInt8) :: (0x03 : UInt8) :: (0x60 : UInt8) :: (0x4f : UInt8) :: (0x84 : UInt8) :: (0x04 : UInt8) :: (0x01 : UInt8) :: (0xa7 : UInt8) :: (0xff : UInt8) :: (0x9f : UInt8) :: (0xb1 : UInt8) :: []
def dT_X0_tickleByNets_8 : List UInt8 := (0x15 : UInt8) :: (0x06 : UInt8) :: (0x60 : UInt8) :: (0x5c : UInt8) :: (0x2e : UInt8) :: (0x1d : UInt8) :: (0x15 : UInt8) :: (0x05 : UInt8) :: (0xb8 : UInt8) :: (0x00 : UInt8) :: (0x62 : UInt8) :: (0x99 : UInt8) :: (0x00 : UInt8) :: (0x07 : UInt8) :: (0x08 : UInt8) :: (0xa7 : UInt8) :: dT_X0_tickleByNets_9
def dT_X0_tickleByNets_7 : List UInt8 := (0x62 : UInt8) :: (0x99 : UInt8) :: (0x00 : UInt8) :: (0x07 : UInt8) :: (0x08 : UInt8) :: (0xa7 : UInt8) :: (0x00 : UInt8) :: (0x04 : UInt8) :: (0x03 : UInt8) :: (0x60 : UInt8) :: (0x4f : UInt8) :: (0x2a : UInt8) :: (0xb4 : UInt8) :: (0x00 : UInt8) :: (0x25 : UInt8) :: (0x1c : UInt8) :: dT_X0_tickleByNets_8
def dT_X0_tickleByNets_6 : List UInt8 := (0x06 : UInt8) :: (0x2a : UInt8) :: (0xb4 : UInt8) :: (0x00 : UInt8) :: (0x25 : UInt8) :: (0x1c : UInt8) :: (0x15 : UInt8) :: (0x05 : UInt8) :: (0x60 : UInt8) :: (0x5c : UInt8) :: (0x2e : UInt8) :: (0x1d : UInt8) :: (0x15 : UInt8) :: (0x06 : UInt8) :: (0xb8 : UInt8) :: (0x00 : UInt8) :: dT_X0_tickleByNets_7
def dT_X0_tickleByNets_5 : List UInt8 := (0x68 : UInt8) :: (0x2e : UInt8) :: (0x36 : UInt8) :: (0x05 : UInt8) :: (0x2a : UInt8) :: (0xb4 : UInt8) :: (0x00 : UInt8) :: (0x1f : UInt8) :: (0x05 : UInt8) :: (0x15 : UInt8) :: (0x04 : UInt8) :: (0x68 : UInt8) :: (0x04 : UInt8) :: (0x60 : UInt8) :: (0x2e : UInt8) :: (0x36 : UInt8) :: dT_X0_tickleByNets_6
def dT_X0_tickleByNets_4 : List UInt8 := (0x15 : UInt8) :: (0x04 : UInt8) :: (0x2a : UInt8) :: (0xb4 : UInt8) :: (0x00 : UInt8) :: (0x09 : UInt8) :: (0x9f : UInt8) :: (0x00 : UInt8) :: (0x4f : UInt8) :: (0x2a : UInt8) :: (0xb4 : UInt8) :: (0x00 : UInt8) :: (0x1f : UInt8) :: (0x05 : UInt8) :: (0x15 : UInt8) :: (0x04 : UInt8) :: dT_X0_tickleByNets_5
def dT_X0_tickleByNets_3 : List UInt8 := (0x9a : UInt8) :: (0x00 : UInt8) :: (0x04 : UInt8) :: (0xb1 : UInt8) :: (0x03 : UInt8) :: (0x36 : UInt8) :: (0x04 : UInt8) :: (0x15 : UInt8) :: (0x04 : UInt8) :: (0x2a : UInt8) :: (0xb4 : UInt8) :: (0x00 : UInt8) :: (0x39 : UInt8) :: (0xa2 : UInt8) :: (0x00 : UInt8) :: (0x5e : UInt8) :: dT_X0_tickleByNets_4
def dT_X0_tickleByNets_2 : List UInt8 := (0x00 : UInt8) :: (0x07 : UInt8) :: (0x03 : UInt8) :: (0xa7 : UInt8) :: (0x00 : UInt8) :: (0x0b : UInt8) :: (0x2a : UInt8) :: (0xb4 : UInt8) :: (0x00 : UInt8) :: (0x28 : UInt8) :: (0x1b : UInt8) :: (0x04 : UInt8) :: (0x64 : UInt8) :: (0x2e : UInt8) :: (0x3e : UInt8) :: (0x1d : UInt8) :: dT_X0_tickleByNets_3
def dT_X0_tickleByNets_1 : List UInt8 := (0xb4 : UInt8) :: (0x00 : UInt8) :: (0x25 : UInt8) :: (0x1c : UInt8) :: (0x1d : UInt8) :: (0x60 : UInt8) :: (0x03 : UInt8) :: (0x4f : UInt8) :: (0x84 : UInt8) :: (0x03 : UInt8) :: (0x01 : UInt8) :: (0xa7 : UInt8) :: (0xff : UInt8) :: (0xec : UInt8) :: (0x1b : UInt8) :: (0x9a : UInt8) :: dT_X0_tickleByNets_2
def dT_X0_tickleByNets_0 : List UInt8 := (0x10 : UInt8) :: (0x06 : UInt8) :: (0x1b : UInt8) :: (0x68 : UInt8) :: (0x3d : UInt8) :: (0x03 : UInt8) :: (0x3e : UInt8) :: (0x1d : UInt8) :: (0x2a : UInt8) :: (0xb4 : UInt8) :: (0x00 : UInt8) :: (0x36 : UInt8) :: (0xa2 : UInt8) :: (0x00 : UInt8) :: (0x12 : UInt8) :: (0x2a : UInt8) :: dT_X0_tickleByNets_1
theorem dT_X0_tickleByNets : cX0_tickleByNets.data.toList = dT_X0_tickleByNets_0 := eq_of_beq (show (cX0_tickleByNets.data.toList == dT_X0_tickleByNets_0) = true by decide +kernel)
theorem dQ_X0_tickleByNets_0 : dQ_P cX0_tickleByNets 0 dT_X0_tickleByNets_0 := fun i => by rw [dT_X0_tickleByNets]; rfl
theorem dQ_X0_tickleByNets_1 : dQ_P cX0_tickleByNets 16 dT_X0_tickleByNets_1 := fun i => (dQ_X0_tickleByNets_0 (i + 16)).trans dk_t
theorem dQ_X0_tickleByNets_2 : dQ_P cX0_tickleByNets 32 dT_X0_tickleByNets_2 := fun i => (dQ_X0_tickleByNets_1 (i + 16)).trans dk_t
theorem dQ_X0_tickleByNets_3 : dQ_P cX0_tickleByNets 48 dT_X0_tickleByNets_3 := fun i => (dQ_X0_tickleByNets_2 (i + 16)).trans dk_t
theorem dQ_X0_tickleByNets_4 : dQ_P cX0_tickleByNets 64 dT_X0_tickleByNets_4 := fun i => (dQ_X0_tickleByNets_3 (i + 16)).trans dk_t
theorem dQ_X0_tickleByNets_5 : dQ_P cX0_tickleByNets 80 dT_X0_tickleByNets_5 := fun i => (dQ_X0_tickleByNets_4 (i + 16)).trans dk_t
theorem dQ_X0_tickleByNets_6 : dQ_P cX0_tickleByNets 96 dT_X0_tickleByNets_6 := fun i => (dQ_X0_tickleByNets_5 (i + 16)).trans dk_t
theorem dQ_X0_tickleByNets_7 : dQ_P cX0_tickleByNets 112 dT_X0_tickleByNets_7 := fun i => (dQ_X0_tickleByNets_6 (i + 16)).trans dk_t
theorem dQ_X0_tickleByNets_8 : dQ_P cX0_tickleByNets 128 dT_X0_tickleByNets_8 := fun i => (dQ_X0_tickleByNets_7 (i + 16)).trans dk_t
theorem dQ_X0_tickleByNets_9 : dQ_P cX0_tickleByNets 144 dT_X0_tickleByNets_9 := fun i => (dQ_X0_tickleByNets_8 (i + 16)).trans dk_t
theorem dX0_tickleByNets_0 : decode cX0_tickleByNets 0 = .ok (.bipush 6, 2) := dk_16 ((dQ_X0_tickleByNets_0 0).trans dk_j0) ((dQ_X0_tickleByNets_0 1).trans dk_j1) dk_vs1_6
theorem dX0_tickleByNets_2 : decode cX0_tickleByNets 2 = .ok (.iload_n 1, 1) := dk_27 ((dQ_X0_tickleByNets_0 2).trans dk_j2)
theorem dX0_tickleByNets_3 : decode cX0_tickleByNets 3 = .ok (.imul, 1) := dk_104 ((dQ_X0_tickleByNets_0 3).trans dk_j3)
theorem dX0_tickleByNets_4 : decode cX0_tickleByNets 4 = .ok (.istore_n 2, 1) := dk_61 ((dQ_X0_tickleByNets_0 4).trans dk_j4)
theorem dX0_tickleByNets_5 : decode cX0_tickleByNets 5 = .ok (.iconst 0, 1) := dk_3 ((dQ_X0_tickleByNets_0 5).trans dk_j5)
theorem dX0_tickleByNets_6 : decode cX0_tickleByNets 6 = .ok (.istore_n 3, 1) := dk_62 ((dQ_X0_tickleByNets_0 6).trans dk_j6)
theorem dX0_tickleByNets_7 : decode cX0_tickleByNets 7 = .ok (.iload_n 3, 1) := dk_29 ((dQ_X0_tickleByNets_0 7).trans dk_j7)
theorem dX0_tickleByNets_8 : decode cX0_tickleByNets 8 = .ok (.aload_n 0, 1) := dk_42 ((dQ_X0_tickleByNets_0 8).trans dk_j8)
theorem dX0_tickleByNets_9 : decode cX0_tickleByNets 9 = .ok (.getfield 54, 3) := dk_180 ((dQ_X0_tickleByNets_0 9).trans dk_j9) ((dQ_X0_tickleByNets_0 10).trans dk_j10) ((dQ_X0_tickleByNets_0 11).trans dk_j11) dk_vu2_0_54
theorem dX0_tickleByNets_12 : decode cX0_tickleByNets 12 = .ok (.if_icmp .ge 18, 3) := dk_162 ((dQ_X0_tickleByNets_0 12).trans dk_j12) ((dQ_X0_tickleByNets_0 13).trans dk_j13) ((dQ_X0_tickleByNets_0 14).trans dk_j14) dk_vs2_0_18
theorem dX0_tickleByNets_15 : decode cX0_tickleByNets 15 = .ok (.aload_n 0, 1) := dk_42 ((dQ_X0_tickleByNets_0 15).trans dk_j15)
theorem dX0_tickleByNets_16 : decode cX0_tickleByNets 16 = .ok (.getfield 37, 3) := dk_180 ((dQ_X0_tickleByNets_1 0).trans dk_j0) ((dQ_X0_tickleByNets_1 1).trans dk_j1) ((dQ_X0_tickleByNets_1 2).trans dk_j2) dk_vu2_0_37
theorem dX0_tickleByNets_19 : decode cX0_tickleByNets 19 = .ok (.iload_n 2, 1) := dk_28 ((dQ_X0_tickleByNets_1 3).trans dk_j3)
theorem dX0_tickleByNets_20 : decode cX0_tickleByNets 20 = .ok (.iload_n 3, 1) := dk_29 ((dQ_X0_tickleByNets_1 4).trans dk_j4)
theorem dX0_tickleByNets_21 : decode cX0_tickleByNets 21 = .ok (.iadd, 1) := dk_96 ((dQ_X0_tickleByNets_1 5).trans dk_j5)
theorem dX0_tickleByNets_22 : decode cX0_tickleByNets 22 = .ok (.iconst 0, 1) := dk_3 ((dQ_X0_tickleByNets_1 6).trans dk_j6)
theorem dX0_tickleByNets_23 : decode cX0_tickleByNets 23 = .ok (.iastore, 1) := dk_79 ((dQ_X0_tickleByNets_1 7).trans dk_j7)
theorem dX0_tickleByNets_24 : decode cX0_tickleByNets 24 = .ok (.iinc 3 1, 3) := dk_132 ((dQ_X0_tickleByNets_1 8).trans dk_j8) ((dQ_X0_tickleByNets_1 9).trans dk_j9) ((dQ_X0_tickleByNets_1 10).trans dk_j10) dk_vu1_3 dk_vs1_1
theorem dX0_tickleByNets_27 : decode cX0_tickleByNets 27 = .ok (.goto (-20), 3) := dk_167 ((dQ_X0_tickleByNets_1 11).trans dk_j11) ((dQ_X0_tickleByNets_1 12).trans dk_j12) ((dQ_X0_tickleByNets_1 13).trans dk_j13) dk_vs2_255_236
theorem dX0_tickleByNets_30 : decode cX0_tickleByNets 30 = .ok (.iload_n 1, 1) := dk_27 ((dQ_X0_tickleByNets_1 14).trans dk_j14)
theorem dX0_tickleByNets_31 : decode cX0_tickleByNets 31 = .ok (.ifCond .ne 7, 3) := dk_154 ((dQ_X0_tickleByNets_1 15).trans dk_j15) ((dQ_X0_tickleByNets_2 0).trans dk_j0) ((dQ_X0_tickleByNets_2 1).trans dk_j1) dk_vs2_0_7
theorem dX0_tickleByNets_34 : decode cX0_tickleByNets 34 = .ok (.iconst 0, 1) := dk_3 ((dQ_X0_tickleByNets_2 2).trans dk_j2)
theorem dX0_tickleByNets_35 : decode cX0_tickleByNets 35 = .ok (.goto 11, 3) := dk_167 ((dQ_X0_tickleByNets_2 3).trans dk_j3) ((dQ_X0_tickleByNets_2 4).trans dk_j4) ((dQ_X0_tickleByNets_2 5).trans dk_j5) dk_vs2_0_11
theorem dX0_tickleByNets_38 : decode cX0_tickleByNets 38 = .ok (.aload_n 0, 1) := dk_42 ((dQ_X0_tickleByNets_2 6).trans dk_j6)
theorem dX0_tickleByNets_39 : decode cX0_tickleByNets 39 = .ok (.getfield 40, 3) := dk_180 ((dQ_X0_tickleByNets_2 7).trans dk_j7) ((dQ_X0_tickleByNets_2 8).trans dk_j8) ((dQ_X0_tickleByNets_2 9).trans dk_j9) dk_vu2_0_40
theorem dX0_tickleByNets_42 : decode cX0_tickleByNets 42 = .ok (.iload_n 1, 1) := dk_27 ((dQ_X0_tickleByNets_2 10).trans dk_j10)
theorem dX0_tickleByNets_43 : decode cX0_tickleByNets 43 = .ok (.iconst 1, 1) := dk_4 ((dQ_X0_tickleByNets_2 11).trans dk_j11)
theorem dX0_tickleByNets_44 : decode cX0_tickleByNets 44 = .ok (.isub, 1) := dk_100 ((dQ_X0_tickleByNets_2 12).trans dk_j12)
theorem dX0_tickleByNets_45 : decode cX0_tickleByNets 45 = .ok (.iaload, 1) := dk_46 ((dQ_X0_tickleByNets_2 13).trans dk_j13)
theorem dX0_tickleByNets_46 : decode cX0_tickleByNets 46 = .ok (.istore_n 3, 1) := dk_62 ((dQ_X0_tickleByNets_2 14).trans dk_j14)
theorem dX0_tickleByNets_47 : decode cX0_tickleByNets 47 = .ok (.iload_n 3, 1) := dk_29 ((dQ_X0_tickleByNets_2 15).trans dk_j15)
theorem dX0_tickleByNets_48 : decode cX0_tickleByNets 48 = .ok (.ifCond .ne 4, 3) := dk_154 ((dQ_X0_tickleByNets_3 0).trans dk_j0) ((dQ_X0_tickleByNets_3 1).trans dk_j1) ((dQ_X0_tickleByNets_3 2).trans dk_j2) dk_vs2_0_4
theorem dX0_tickleByNets_51 : decode cX0_tickleByNets 51 = .ok (.return_, 1) := dk_177 ((dQ_X0_tickleByNets_3 3).trans dk_j3)
theorem dX0_tickleByNets_52 : decode cX0_tickleByNets 52 = .ok (.iconst 0, 1) := dk_3 ((dQ_X0_tickleByNets_3 4).trans dk_j4)
theorem dX0_tickleByNets_53 : decode cX0_tickleByNets 53 = .ok (.istore 4, 2) := dk_54 ((dQ_X0_tickleByNets_3 5).trans dk_j5) ((dQ_X0_tickleByNets_3 6).trans dk_j6) dk_vu1_4
theorem dX0_tickleByNets_55 : decode cX0_tickleByNets 55 = .ok (.iload 4, 2) := dk_21 ((dQ_X0_tickleByNets_3 7).trans dk_j7) ((dQ_X0_tickleByNets_3 8).trans dk_j8) dk_vu1_4
theorem dX0_tickleByNets_57 : decode cX0_tickleByNets 57 = .ok (.aload_n 0, 1) := dk_42 ((dQ_X0_tickleByNets_3 9).trans dk_j9)
theorem dX0_tickleByNets_58 : decode cX0_tickleByNets 58 = .ok (.getfield 57, 3) := dk_180 ((dQ_X0_tickleByNets_3 10).trans dk_j10) ((dQ_X0_tickleByNets_3 11).trans dk_j11) ((dQ_X0_tickleByNets_3 12).trans dk_j12) dk_vu2_0_57
theorem dk_vs2_0_94 : Reader.signed 16 ((0x00 : UInt8).toNat * 256 + (0x5e : UInt8).toNat) = (94 : Int) := by decide +kernel
theorem dX0_tickleByNets_61 : decode cX0_tickleByNets 61 = .ok (.if_icmp .ge 94, 3) := dk_162 ((dQ_X0_tickleByNets_3 13).trans dk_j13) ((dQ_X0_tickleByNets_3 14).trans dk_j14) ((dQ_X0_tickleByNets_3 15).trans dk_j15) dk_vs2_0_94
theorem dX0_tickleByNets_64 : decode cX0_tickleByNets 64 = .ok (.iload 4, 2) := dk_21 ((dQ_X0_tickleByNets_4 0).trans dk_j0) ((dQ_X0_tickleByNets_4 1).trans dk_j1) dk_vu1_4
theorem dX0_tickleByNets_66 : decode cX0_tickleByNets 66 = .ok (.aload_n 0, 1) := dk_42 ((dQ_X0_tickleByNets_4 2).trans dk_j2)
theorem dX0_tickleByNets_67 : decode cX0_tickleByNets 67 = .ok (.getfield 9, 3) := dk_180 ((dQ_X0_tickleByNets_4 3).trans dk_j3) ((dQ_X0_tickleByNets_4 4).trans dk_j4) ((dQ_X0_tickleByNets_4 5).trans dk_j5) dk_vu2_0_9
theorem dk_vs2_0_79 : Reader.signed 16 ((0x00 : UInt8).toNat * 256 + (0x4f : UInt8).toNat) = (79 : Int) := by decide +kernel
theorem dX0_tickleByNets_70 : decode cX0_tickleByNets 70 = .ok (.if_icmp .eq 79, 3) := dk_159 ((dQ_X0_tickleByNets_4 6).trans dk_j6) ((dQ_X0_tickleByNets_4 7).trans dk_j7) ((dQ_X0_tickleByNets_4 8).trans dk_j8) dk_vs2_0_79
theorem dX0_tickleByNets_73 : decode cX0_tickleByNets 73 = .ok (.aload_n 0, 1) := dk_42 ((dQ_X0_tickleByNets_4 9).trans dk_j9)
theorem dX0_tickleByNets_74 : decode cX0_tickleByNets 74 = .ok (.getfield 31, 3) := dk_180 ((dQ_X0_tickleByNets_4 10).trans dk_j10) ((dQ_X0_tickleByNets_4 11).trans dk_j11) ((dQ_X0_tickleByNets_4 12).trans dk_j12) dk_vu2_0_31
theorem dX0_tickleByNets_77 : decode cX0_tickleByNets 77 = .ok (.iconst 2, 1) := dk_5 ((dQ_X0_tickleByNets_4 13).trans dk_j13)
theorem dX0_tickleByNets_78 : decode cX0_tickleByNets 78 = .ok (.iload 4, 2) := dk_21 ((dQ_X0_tickleByNets_4 14).trans dk_j14) ((dQ_X0_tickleByNets_4 15).trans dk_j15) dk_vu1_4
theorem dX0_tickleByNets_80 : decode cX0_tickleByNets 80 = .ok (.imul, 1) := dk_104 ((dQ_X0_tickleByNets_5 0).trans dk_j0)
theorem dX0_tickleByNets_81 : decode cX0_tickleByNets 81 = .ok (.iaload, 1) := dk_46 ((dQ_X0_tickleByNets_5 1).trans dk_j1)
theorem dX0_tickleByNets_82 : decode cX0_tickleByNets 82 = .ok (.istore 5, 2) := dk_54 ((dQ_X0_tickleByNets_5 2).trans dk_j2) ((dQ_X0_tickleByNets_5 3).trans dk_j3) dk_vu1_5
theorem dX0_tickleByNets_84 : decode cX0_tickleByNets 84 = .ok (.aload_n 0, 1) := dk_42 ((dQ_X0_tickleByNets_5 4).trans dk_j4)
theorem dX0_tickleByNets_85 : decode cX0_tickleByNets 85 = .ok (.getfield 31, 3) := dk_180 ((dQ_X0_tickleByNets_5 5).trans dk_j5) ((dQ_X0_tickleByNets_5 6).trans dk_j6) ((dQ_X0_tickleByNets_5 7).trans dk_j7) dk_vu2_0_31
theorem dX0_tickleByNets_88 : decode cX0_tickleByNets 88 = .ok (.iconst 2, 1) := dk_5 ((dQ_X0_tickleByNets_5 8).trans dk_j8)
theorem dX0_tickleByNets_89 : decode cX0_tickleByNets 89 = .ok (.iload 4, 2) := dk_21 ((dQ_X0_tickleByNets_5 9).trans dk_j9) ((dQ_X0_tickleByNets_5 10).trans dk_j10) dk_vu1_4
theorem dX0_tickleByNets_91 : decode cX0_tickleByNets 91 = .ok (.imul, 1) := dk_104 ((dQ_X0_tickleByNets_5 11).trans dk_j11)
theorem dX0_tickleByNets_92 : decode cX0_tickleByNets 92 = .ok (.iconst 1, 1) := dk_4 ((dQ_X0_tickleByNets_5 12).trans dk_j12)
theorem dX0_tickleByNets_93 : decode cX0_tickleByNets 93 = .ok (.iadd, 1) := dk_96 ((dQ_X0_tickleByNets_5 13).trans dk_j13)
theorem dX0_tickleByNets_94 : decode cX0_tickleByNets 94 = .ok (.iaload, 1) := dk_46 ((dQ_X0_tickleByNets_5 14).trans dk_j14)
theorem dX0_tickleByNets_95 : decode cX0_tickleByNets 95 = .ok (.istore 6, 2) := dk_54 ((dQ_X0_tickleByNets_5 15).trans dk_j15) ((dQ_X0_tickleByNets_6 0).trans dk_j0) dk_vu1_6
theorem dX0_tickleByNets_97 : decode cX0_tickleByNets 97 = .ok (.aload_n 0, 1) := dk_42 ((dQ_X0_tickleByNets_6 1).trans dk_j1)
theorem dX0_tickleByNets_98 : decode cX0_tickleByNets 98 = .ok (.getfield 37, 3) := dk_180 ((dQ_X0_tickleByNets_6 2).trans dk_j2) ((dQ_X0_tickleByNets_6 3).trans dk_j3) ((dQ_X0_tickleByNets_6 4).trans dk_j4) dk_vu2_0_37
theorem dX0_tickleByNets_101 : decode cX0_tickleByNets 101 = .ok (.iload_n 2, 1) := dk_28 ((dQ_X0_tickleByNets_6 5).trans dk_j5)
theorem dX0_tickleByNets_102 : decode cX0_tickleByNets 102 = .ok (.iload 5, 2) := dk_21 ((dQ_X0_tickleByNets_6 6).trans dk_j6) ((dQ_X0_tickleByNets_6 7).trans dk_j7) dk_vu1_5
theorem dX0_tickleByNets_104 : decode cX0_tickleByNets 104 = .ok (.iadd, 1) := dk_96 ((dQ_X0_tickleByNets_6 8).trans dk_j8)
theorem dX0_tickleByNets_105 : decode cX0_tickleByNets 105 = .ok (.dup2, 1) := dk_92 ((dQ_X0_tickleByNets_6 9).trans dk_j9)
theorem dX0_tickleByNets_106 : decode cX0_tickleByNets 106 = .ok (.iaload, 1) := dk_46 ((dQ_X0_tickleByNets_6 10).trans dk_j10)
theorem dX0_tickleByNets_107 : decode cX0_tickleByNets 107 = .ok (.iload_n 3, 1) := dk_29 ((dQ_X0_tickleByNets_6 11).trans dk_j11)
theorem dX0_tickleByNets_108 : decode cX0_tickleByNets 108 = .ok (.iload 6, 2) := dk_21 ((dQ_X0_tickleByNets_6 12).trans dk_j12) ((dQ_X0_tickleByNets_6 13).trans dk_j13) dk_vu1_6
theorem dX0_tickleByNets_110 : decode cX0_tickleByNets 110 = .ok (.invokestatic 98, 3) := dk_184 ((dQ_X0_tickleByNets_6 14).trans dk_j14) ((dQ_X0_tickleByNets_6 15).trans dk_j15) ((dQ_X0_tickleByNets_7 0).trans dk_j0) dk_vu2_0_98
theorem dX0_tickleByNets_113 : decode cX0_tickleByNets 113 = .ok (.ifCond .eq 7, 3) := dk_153 ((dQ_X0_tickleByNets_7 1).trans dk_j1) ((dQ_X0_tickleByNets_7 2).trans dk_j2) ((dQ_X0_tickleByNets_7 3).trans dk_j3) dk_vs2_0_7
theorem dX0_tickleByNets_116 : decode cX0_tickleByNets 116 = .ok (.iconst 5, 1) := dk_8 ((dQ_X0_tickleByNets_7 4).trans dk_j4)
theorem dX0_tickleByNets_117 : decode cX0_tickleByNets 117 = .ok (.goto 4, 3) := dk_167 ((dQ_X0_tickleByNets_7 5).trans dk_j5) ((dQ_X0_tickleByNets_7 6).trans dk_j6) ((dQ_X0_tickleByNets_7 7).trans dk_j7) dk_vs2_0_4
theorem dX0_tickleByNets_120 : decode cX0_tickleByNets 120 = .ok (.iconst 0, 1) := dk_3 ((dQ_X0_tickleByNets_7 8).trans dk_j8)
theorem dX0_tickleByNets_121 : decode cX0_tickleByNets 121 = .ok (.iadd, 1) := dk_96 ((dQ_X0_tickleByNets_7 9).trans dk_j9)
theorem dX0_tickleByNets_122 : decode cX0_tickleByNets 122 = .ok (.iastore, 1) := dk_79 ((dQ_X0_tickleByNets_7 10).trans dk_j10)
theorem dX0_tickleByNets_123 : decode cX0_tickleByNets 123 = .ok (.aload_n 0, 1) := dk_42 ((dQ_X0_tickleByNets_7 11).trans dk_j11)
theorem dX0_tickleByNets_124 : decode cX0_tickleByNets 124 = .ok (.getfield 37, 3) := dk_180 ((dQ_X0_tickleByNets_7 12).trans dk_j12) ((dQ_X0_tickleByNets_7 13).trans dk_j13) ((dQ_X0_tickleByNets_7 14).trans dk_j14) dk_vu2_0_37
theorem dX0_tickleByNets_127 : decode cX0_tickleByNets 127 = .ok (.iload_n 2, 1) := dk_28 ((dQ_X0_tickleByNets_7 15).trans dk_j15)
theorem dX0_tickleByNets_128 : decode cX0_tickleByNets 128 = .ok (.iload 6, 2) := dk_21 ((dQ_X0_tickleByNets_8 0).trans dk_j0) ((dQ_X0_tickleByNets_8 1).trans dk_j1) dk_vu1_6
theorem dX0_tickleByNets_130 : decode cX0_tickleByNets 130 = .ok (.iadd, 1) := dk_96 ((dQ_X0_tickleByNets_8 2).trans dk_j2)
theorem dX0_tickleByNets_131 : decode cX0_tickleByNets 131 = .ok (.dup2, 1) := dk_92 ((dQ_X0_tickleByNets_8 3).trans dk_j3)
theorem dX0_tickleByNets_132 : decode cX0_tickleByNets 132 = .ok (.iaload, 1) := dk_46 ((dQ_X0_tickleByNets_8 4).trans dk_j4)
theorem dX0_tickleByNets_133 : decode cX0_tickleByNets 133 = .ok (.iload_n 3, 1) := dk_29 ((dQ_X0_tickleByNets_8 5).trans dk_j5)
theorem dX0_tickleByNets_134 : decode cX0_tickleByNets 134 = .ok (.iload 5, 2) := dk_21 ((dQ_X0_tickleByNets_8 6).trans dk_j6) ((dQ_X0_tickleByNets_8 7).trans dk_j7) dk_vu1_5
theorem dX0_tickleByNets_136 : decode cX0_tickleByNets 136 = .ok (.invokestatic 98, 3) := dk_184 ((dQ_X0_tickleByNets_8 8).trans dk_j8) ((dQ_X0_tickleByNets_8 9).trans dk_j9) ((dQ_X0_tickleByNets_8 10).trans dk_j10) dk_vu2_0_98
theorem dX0_tickleByNets_139 : decode cX0_tickleByNets 139 = .ok (.ifCond .eq 7, 3) := dk_153 ((dQ_X0_tickleByNets_8 11).trans dk_j11) ((dQ_X0_tickleByNets_8 12).trans dk_j12) ((dQ_X0_tickleByNets_8 13).trans dk_j13) dk_vs2_0_7
theorem dX0_tickleByNets_142 : decode cX0_tickleByNets 142 = .ok (.iconst 5, 1) := dk_8 ((dQ_X0_tickleByNets_8 14).trans dk_j14)
theorem dX0_tickleByNets_143 : decode cX0_tickleByNets 143 = .ok (.goto 4, 3) := dk_167 ((dQ_X0_tickleByNets_8 15).trans dk_j15) ((dQ_X0_tickleByNets_9 0).trans dk_j0) ((dQ_X0_tickleByNets_9 1).trans dk_j1) dk_vs2_0_4
theorem dX0_tickleByNets_146 : decode cX0_tickleByNets 146 = .ok (.iconst 0, 1) := dk_3 ((dQ_X0_tickleByNets_9 2).trans dk_j2)
theorem dX0_tickleByNets_147 : decode cX0_tickleByNets 147 = .ok (.iadd, 1) := dk_96 ((dQ_X0_tickleByNets_9 3).trans dk_j3)
theorem dX0_tickleByNets_148 : decode cX0_tickleByNets 148 = .ok (.iastore, 1) := dk_79 ((dQ_X0_tickleByNets_9 4).trans dk_j4)
theorem dX0_tickleByNets_149 : decode cX0_tickleByNets 149 = .ok (.iinc 4 1, 3) := dk_132 ((dQ_X0_tickleByNets_9 5).trans dk_j5) ((dQ_X0_tickleByNets_9 6).trans dk_j6) ((dQ_X0_tickleByNets_9 7).trans dk_j7) dk_vu1_4 dk_vs1_1
theorem dk_vs2_255_159 : Reader.signed 16 ((0xff : UInt8).toNat * 256 + (0x9f : UInt8).toNat) = (-97 : Int) := by decide +kernel
theorem dX0_tickleByNets_152 : decode cX0_tickleByNets 152 = .ok (.goto (-97), 3) := dk_167 ((dQ_X0_tickleByNets_9 8).trans dk_j8) ((dQ_X0_tickleByNets_9 9).trans dk_j9) ((dQ_X0_tickleByNets_9 10).trans dk_j10) dk_vs2_255_159
theorem dX0_tickleByNets_155 : decode cX0_tickleByNets 155 = .ok (.return_, 1) := dk_177 ((dQ_X0_tickleByNets_9 11).trans dk_j11)
def dT_X0_liveMinute_7 : List UInt8 := (0xa7 : UInt8) :: (0xff : UInt8) :: (0x9a : UInt8) :: (0x2a : UInt8) :: (0xb4 : UInt8) :: (0x00 : UInt8) :: (0x28 : UInt8) :: (0x1b : UInt8) :: (0x1d : UInt8) :: (0x4f : UInt8) :: (0xb1 : UInt8) :: []
def dT_X0_liveMinute_6 : List UInt8 := (0x36 : UInt8) :: (0x05 : UInt8) :: (0x2a : UInt8) :: (0xb4 : UInt8) :: (0x00 : UInt8) :: (0x22 : UInt8) :: (0x1c : UInt8) :: (0x15 : UInt8) :: (0x04 : UInt8) :: (0x60 : UInt8) :: (0x15 : UInt8) :: (0x05 : UInt8) :: (0x4f : UInt8) :: (0x84 : UInt8) :: (0x04 : UInt8) :: (0x01 : UInt8) :: dT_X0_liveMinute_7
def dT_X0_liveMinute_5 : List UInt8 := (0x80 : UInt8) :: (0x3e : UInt8) :: (0x2a : UInt8) :: (0xb4 : UInt8) :: (0x00 : UInt8) :: (0x2b : UInt8) :: (0x15 : UInt8) :: (0x04 : UInt8) :: (0x5c : UInt8) :: (0x2e : UInt8) :: (0x04 : UInt8) :: (0x1b : UInt8) :: (0x78 : UInt8) :: (0x80 : UInt8) :: (0x4f : UInt8) :: (0x03 : UInt8) :: dT_X0_liveMinute_6
def dT_X0_liveMinute_4 : List UInt8 := (0x19 : UInt8) :: (0x15 : UInt8) :: (0x04 : UInt8) :: (0x2e : UInt8) :: (0x1b : UInt8) :: (0xb8 : UInt8) :: (0x00 : UInt8) :: (0x62 : UInt8) :: (0x9a : UInt8) :: (0x00 : UInt8) :: (0x1a : UInt8) :: (0x1d : UInt8) :: (0x04 : UInt8) :: (0x15 : UInt8) :: (0x04 : UInt8) :: (0x78 : UInt8) :: dT_X0_liveMinute_5
def dT_X0_liveMinute_3 : List UInt8 := (0x05 : UInt8) :: (0x15 : UInt8) :: (0x05 : UInt8) :: (0x2a : UInt8) :: (0xb4 : UInt8) :: (0x00 : UInt8) :: (0x16 : UInt8) :: (0x15 : UInt8) :: (0x04 : UInt8) :: (0x2e : UInt8) :: (0xa1 : UInt8) :: (0x00 : UInt8) :: (0x28 : UInt8) :: (0x2a : UInt8) :: (0xb4 : UInt8) :: (0x00 : UInt8) :: dT_X0_liveMinute_4
def dT_X0_liveMinute_2 : List UInt8 := (0x00 : UInt8) :: (0x0f : UInt8) :: (0x2a : UInt8) :: (0xb4 : UInt8) :: (0x00 : UInt8) :: (0x22 : UInt8) :: (0x1c : UInt8) :: (0x10 : UInt8) :: (0x06 : UInt8) :: (0x64 : UInt8) :: (0x15 : UInt8) :: (0x04 : UInt8) :: (0x60 : UInt8) :: (0x2e : UInt8) :: (0x60 : UInt8) :: (0x36 : UInt8) :: dT_X0_liveMinute_3
def dT_X0_liveMinute_1 : List UInt8 := (0xa2 : UInt8) :: (0x00 : UInt8) :: (0x63 : UInt8) :: (0x2a : UInt8) :: (0x15 : UInt8) :: (0x04 : UInt8) :: (0x1b : UInt8) :: (0xb6 : UInt8) :: (0x00 : UInt8) :: (0x66 : UInt8) :: (0x1b : UInt8) :: (0x9a : UInt8) :: (0x00 : UInt8) :: (0x07 : UInt8) :: (0x03 : UInt8) :: (0xa7 : UInt8) :: dT_X0_liveMinute_2
def dT_X0_liveMinute_0 : List UInt8 := (0x10 : UInt8) :: (0x06 : UInt8) :: (0x1b : UInt8) :: (0x68 : UInt8) :: (0x3d : UInt8) :: (0x03 : UInt8) :: (0x3e : UInt8) :: (0x03 : UInt8) :: (0x36 : UInt8) :: (0x04 : UInt8) :: (0x15 : UInt8) :: (0x04 : UInt8) :: (0x2a : UInt8) :: (0xb4 : UInt8) :: (0x00 : UInt8) :: (0x36 : UInt8) :: dT_X0_liveMinute_1
theorem dT_X0_liveMinute : cX0_liveMinute.data.toList = dT_X0_liveMinute_0 := eq_of_beq (show (cX0_liveMinute.data.toList == dT_X0_liveMinute_0) = true by decide +kernel)
theorem dQ_X0_liveMinute_0 : dQ_P cX0_liveMinute 0 dT_X0_liveMinute_0 := fun i => by rw [dT_X0_liveMinute]; rfl
theorem dQ_X0_liveMinute_1 : dQ_P cX0_liveMinute 16 dT_X0_liveMinute_1 := fun i => (dQ_X0_liveMinute_0 (i + 16)).trans dk_t
theorem dQ_X0_liveMinute_2 : dQ_P cX0_liveMinute 32 dT_X0_liveMinute_2 := fun i => (dQ_X0_liveMinute_1 (i + 16)).trans dk_t
theorem dQ_X0_liveMinute_3 : dQ_P cX0_liveMinute 48 dT_X0_liveMinute_3 := fun i => (dQ_X0_liveMinute_2 (i + 16)).trans dk_t
theorem dQ_X0_liveMinute_4 : dQ_P cX0_liveMinute 64 dT_X0_liveMinute_4 := fun i => (dQ_X0_liveMinute_3 (i + 16)).trans dk_t
theorem dQ_X0_liveMinute_5 : dQ_P cX0_liveMinute 80 dT_X0_liveMinute_5 := fun i => (dQ_X0_liveMinute_4 (i + 16)).trans dk_t
theorem dQ_X0_liveMinute_6 : dQ_P cX0_liveMinute 96 dT_X0_liveMinute_6 := fun i => (dQ_X0_liveMinute_5 (i + 16)).trans dk_t
theorem dQ_X0_liveMinute_7 : dQ_P cX0_liveMinute 112 dT_X0_liveMinute_7 := fun i => (dQ_X0_liveMinute_6 (i + 16)).trans dk_t
theorem dX0_liveMinute_0 : decode cX0_liveMinute 0 = .ok (.bipush 6, 2) := dk_16 ((dQ_X0_liveMinute_0 0).trans dk_j0) ((dQ_X0_liveMinute_0 1).trans dk_j1) dk_vs1_6
theorem dX0_liveMinute_2 : decode cX0_liveMinute 2 = .ok (.iload_n 1, 1) := dk_27 ((dQ_X0_liveMinute_0 2).trans dk_j2)
theorem dX0_liveMinute_3 : decode cX0_liveMinute 3 = .ok (.imul, 1) := dk_104 ((dQ_X0_liveMinute_0 3).trans dk_j3)
theorem dX0_liveMinute_4 : decode cX0_liveMinute 4 = .ok (.istore_n 2, 1) := dk_61 ((dQ_X0_liveMinute_0 4).trans dk_j4)
theorem dX0_liveMinute_5 : decode cX0_liveMinute 5 = .ok (.iconst 0, 1) := dk_3 ((dQ_X0_liveMinute_0 5).trans dk_j5)
theorem dX0_liveMinute_6 : decode cX0_liveMinute 6 = .ok (.istore_n 3, 1) := dk_62 ((dQ_X0_liveMinute_0 6).trans dk_j6)
theorem dX0_liveMinute_7 : decode cX0_liveMinute 7 = .ok (.iconst 0, 1) := dk_3 ((dQ_X0_liveMinute_0 7).trans dk_j7)
theorem dX0_liveMinute_8 : decode cX0_liveMinute 8 = .ok (.istore 4, 2) := dk_54 ((dQ_X0_liveMinute_0 8).trans dk_j8) ((dQ_X0_liveMinute_0 9).trans dk_j9) dk_vu1_4
theorem dX0_liveMinute_10 : decode cX0_liveMinute 10 = .ok (.iload 4, 2) := dk_21 ((dQ_X0_liveMinute_0 10).trans dk_j10) ((dQ_X0_liveMinute_0 11).trans dk_j11) dk_vu1_4
theorem dX0_liveMinute_12 : decode cX0_liveMinute 12 = .ok (.aload_n 0, 1) := dk_42 ((dQ_X0_liveMinute_0 12).trans dk_j12)
theorem dX0_liveMinute_13 : decode cX0_liveMinute 13 = .ok (.getfield 54, 3) := dk_180 ((dQ_X0_liveMinute_0 13).trans dk_j13) ((dQ_X0_liveMinute_0 14).trans dk_j14) ((dQ_X0_liveMinute_0 15).trans dk_j15) dk_vu2_0_54
theorem dk_vs2_0_99 : Reader.signed 16 ((0x00 : UInt8).toNat * 256 + (0x63 : UInt8).toNat) = (99 : Int) := by decide +kernel
theorem dX0_liveMinute_16 : decode cX0_liveMinute 16 = .ok (.if_icmp .ge 99, 3) := dk_162 ((dQ_X0_liveMinute_1 0).trans dk_j0) ((dQ_X0_liveMinute_1 1).trans dk_j1) ((dQ_X0_liveMinute_1 2).trans dk_j2) dk_vs2_0_99
theorem dX0_liveMinute_19 : decode cX0_liveMinute 19 = .ok (.aload_n 0, 1) := dk_42 ((dQ_X0_liveMinute_1 3).trans dk_j3)
theorem dX0_liveMinute_20 : decode cX0_liveMinute 20 = .ok (.iload 4, 2) := dk_21 ((dQ_X0_liveMinute_1 4).trans dk_j4) ((dQ_X0_liveMinute_1 5).trans dk_j5) dk_vu1_4
theorem dX0_liveMinute_22 : decode cX0_liveMinute 22 = .ok (.iload_n 1, 1) := dk_27 ((dQ_X0_liveMinute_1 6).trans dk_j6)
theorem dk_vu2_0_102 : (0x00 : UInt8).toNat * 256 + (0x66 : UInt8).toNat = (102 : Nat) := by decide +kernel
theorem dX0_liveMinute_23 : decode cX0_liveMinute 23 = .ok (.invokevirtual 102, 3) := dk_182 ((dQ_X0_liveMinute_1 7).trans dk_j7) ((dQ_X0_liveMinute_1 8).trans dk_j8) ((dQ_X0_liveMinute_1 9).trans dk_j9) dk_vu2_0_102
theorem dX0_liveMinute_26 : decode cX0_liveMinute 26 = .ok (.iload_n 1, 1) := dk_27 ((dQ_X0_liveMinute_1 10).trans dk_j10)
theorem dX0_liveMinute_27 : decode cX0_liveMinute 27 = .ok (.ifCond .ne 7, 3) := dk_154 ((dQ_X0_liveMinute_1 11).trans dk_j11) ((dQ_X0_liveMinute_1 12).trans dk_j12) ((dQ_X0_liveMinute_1 13).trans dk_j13) dk_vs2_0_7
theorem dX0_liveMinute_30 : decode cX0_liveMinute 30 = .ok (.iconst 0, 1) := dk_3 ((dQ_X0_liveMinute_1 14).trans dk_j14)
theorem dX0_liveMinute_31 : decode cX0_liveMinute 31 = .ok (.goto 15, 3) := dk_167 ((dQ_X0_liveMinute_1 15).trans dk_j15) ((dQ_X0_liveMinute_2 0).trans dk_j0) ((dQ_X0_liveMinute_2 1).trans dk_j1) dk_vs2_0_15
theorem dX0_liveMinute_34 : decode cX0_liveMinute 34 = .ok (.aload_n 0, 1) := dk_42 ((dQ_X0_liveMinute_2 2).trans dk_j2)
theorem dX0_liveMinute_35 : decode cX0_liveMinute 35 = .ok (.getfield 34, 3) := dk_180 ((dQ_X0_liveMinute_2 3).trans dk_j3) ((dQ_X0_liveMinute_2 4).trans dk_j4) ((dQ_X0_liveMinute_2 5).trans dk_j5) dk_vu2_0_34
theorem dX0_liveMinute_38 : decode cX0_liveMinute 38 = .ok (.iload_n 2, 1) := dk_28 ((dQ_X0_liveMinute_2 6).trans dk_j6)
theorem dX0_liveMinute_39 : decode cX0_liveMinute 39 = .ok (.bipush 6, 2) := dk_16 ((dQ_X0_liveMinute_2 7).trans dk_j7) ((dQ_X0_liveMinute_2 8).trans dk_j8) dk_vs1_6
theorem dX0_liveMinute_41 : decode cX0_liveMinute 41 = .ok (.isub, 1) := dk_100 ((dQ_X0_liveMinute_2 9).trans dk_j9)
theorem dX0_liveMinute_42 : decode cX0_liveMinute 42 = .ok (.iload 4, 2) := dk_21 ((dQ_X0_liveMinute_2 10).trans dk_j10) ((dQ_X0_liveMinute_2 11).trans dk_j11) dk_vu1_4
theorem dX0_liveMinute_44 : decode cX0_liveMinute 44 = .ok (.iadd, 1) := dk_96 ((dQ_X0_liveMinute_2 12).trans dk_j12)
theorem dX0_liveMinute_45 : decode cX0_liveMinute 45 = .ok (.iaload, 1) := dk_46 ((dQ_X0_liveMinute_2 13).trans dk_j13)
theorem dX0_liveMinute_46 : decode cX0_liveMinute 46 = .ok (.iadd, 1) := dk_96 ((dQ_X0_liveMinute_2 14).trans dk_j14)
theorem dX0_liveMinute_47 : decode cX0_liveMinute 47 = .ok (.istore 5, 2) := dk_54 ((dQ_X0_liveMinute_2 15).trans dk_j15) ((dQ_X0_liveMinute_3 0).trans dk_j0) dk_vu1_5
theorem dX0_liveMinute_49 : decode cX0_liveMinute 49 = .ok (.iload 5, 2) := dk_21 ((dQ_X0_liveMinute_3 1).trans dk_j1) ((dQ_X0_liveMinute_3 2).trans dk_j2) dk_vu1_5
theorem dX0_liveMinute_51 : decode cX0_liveMinute 51 = .ok (.aload_n 0, 1) := dk_42 ((dQ_X0_liveMinute_3 3).trans dk_j3)
theorem dX0_liveMinute_52 : decode cX0_liveMinute 52 = .ok (.getfield 22, 3) := dk_180 ((dQ_X0_liveMinute_3 4).trans dk_j4) ((dQ_X0_liveMinute_3 5).trans dk_j5) ((dQ_X0_liveMinute_3 6).trans dk_j6) dk_vu2_0_22
theorem dX0_liveMinute_55 : decode cX0_liveMinute 55 = .ok (.iload 4, 2) := dk_21 ((dQ_X0_liveMinute_3 7).trans dk_j7) ((dQ_X0_liveMinute_3 8).trans dk_j8) dk_vu1_4
theorem dX0_liveMinute_57 : decode cX0_liveMinute 57 = .ok (.iaload, 1) := dk_46 ((dQ_X0_liveMinute_3 9).trans dk_j9)
theorem dX0_liveMinute_58 : decode cX0_liveMinute 58 = .ok (.if_icmp .lt 40, 3) := dk_161 ((dQ_X0_liveMinute_3 10).trans dk_j10) ((dQ_X0_liveMinute_3 11).trans dk_j11) ((dQ_X0_liveMinute_3 12).trans dk_j12) dk_vs2_0_40
theorem dX0_liveMinute_61 : decode cX0_liveMinute 61 = .ok (.aload_n 0, 1) := dk_42 ((dQ_X0_liveMinute_3 13).trans dk_j13)
theorem dX0_liveMinute_62 : decode cX0_liveMinute 62 = .ok (.getfield 25, 3) := dk_180 ((dQ_X0_liveMinute_3 14).trans dk_j14) ((dQ_X0_liveMinute_3 15).trans dk_j15) ((dQ_X0_liveMinute_4 0).trans dk_j0) dk_vu2_0_25
theorem dX0_liveMinute_65 : decode cX0_liveMinute 65 = .ok (.iload 4, 2) := dk_21 ((dQ_X0_liveMinute_4 1).trans dk_j1) ((dQ_X0_liveMinute_4 2).trans dk_j2) dk_vu1_4
theorem dX0_liveMinute_67 : decode cX0_liveMinute 67 = .ok (.iaload, 1) := dk_46 ((dQ_X0_liveMinute_4 3).trans dk_j3)
theorem dX0_liveMinute_68 : decode cX0_liveMinute 68 = .ok (.iload_n 1, 1) := dk_27 ((dQ_X0_liveMinute_4 4).trans dk_j4)
theorem dX0_liveMinute_69 : decode cX0_liveMinute 69 = .ok (.invokestatic 98, 3) := dk_184 ((dQ_X0_liveMinute_4 5).trans dk_j5) ((dQ_X0_liveMinute_4 6).trans dk_j6) ((dQ_X0_liveMinute_4 7).trans dk_j7) dk_vu2_0_98
theorem dX0_liveMinute_72 : decode cX0_liveMinute 72 = .ok (.ifCond .ne 26, 3) := dk_154 ((dQ_X0_liveMinute_4 8).trans dk_j8) ((dQ_X0_liveMinute_4 9).trans dk_j9) ((dQ_X0_liveMinute_4 10).trans dk_j10) dk_vs2_0_26
theorem dX0_liveMinute_75 : decode cX0_liveMinute 75 = .ok (.iload_n 3, 1) := dk_29 ((dQ_X0_liveMinute_4 11).trans dk_j11)
theorem dX0_liveMinute_76 : decode cX0_liveMinute 76 = .ok (.iconst 1, 1) := dk_4 ((dQ_X0_liveMinute_4 12).trans dk_j12)
theorem dX0_liveMinute_77 : decode cX0_liveMinute 77 = .ok (.iload 4, 2) := dk_21 ((dQ_X0_liveMinute_4 13).trans dk_j13) ((dQ_X0_liveMinute_4 14).trans dk_j14) dk_vu1_4
theorem dX0_liveMinute_79 : decode cX0_liveMinute 79 = .ok (.ishl, 1) := dk_120 ((dQ_X0_liveMinute_4 15).trans dk_j15)
theorem dX0_liveMinute_80 : decode cX0_liveMinute 80 = .ok (.ior, 1) := dk_128 ((dQ_X0_liveMinute_5 0).trans dk_j0)
theorem dX0_liveMinute_81 : decode cX0_liveMinute 81 = .ok (.istore_n 3, 1) := dk_62 ((dQ_X0_liveMinute_5 1).trans dk_j1)
theorem dX0_liveMinute_82 : decode cX0_liveMinute 82 = .ok (.aload_n 0, 1) := dk_42 ((dQ_X0_liveMinute_5 2).trans dk_j2)
theorem dX0_liveMinute_83 : decode cX0_liveMinute 83 = .ok (.getfield 43, 3) := dk_180 ((dQ_X0_liveMinute_5 3).trans dk_j3) ((dQ_X0_liveMinute_5 4).trans dk_j4) ((dQ_X0_liveMinute_5 5).trans dk_j5) dk_vu2_0_43
theorem dX0_liveMinute_86 : decode cX0_liveMinute 86 = .ok (.iload 4, 2) := dk_21 ((dQ_X0_liveMinute_5 6).trans dk_j6) ((dQ_X0_liveMinute_5 7).trans dk_j7) dk_vu1_4
theorem dX0_liveMinute_88 : decode cX0_liveMinute 88 = .ok (.dup2, 1) := dk_92 ((dQ_X0_liveMinute_5 8).trans dk_j8)
theorem dX0_liveMinute_89 : decode cX0_liveMinute 89 = .ok (.iaload, 1) := dk_46 ((dQ_X0_liveMinute_5 9).trans dk_j9)
theorem dX0_liveMinute_90 : decode cX0_liveMinute 90 = .ok (.iconst 1, 1) := dk_4 ((dQ_X0_liveMinute_5 10).trans dk_j10)
theorem dX0_liveMinute_91 : decode cX0_liveMinute 91 = .ok (.iload_n 1, 1) := dk_27 ((dQ_X0_liveMinute_5 11).trans dk_j11)
theorem dX0_liveMinute_92 : decode cX0_liveMinute 92 = .ok (.ishl, 1) := dk_120 ((dQ_X0_liveMinute_5 12).trans dk_j12)
theorem dX0_liveMinute_93 : decode cX0_liveMinute 93 = .ok (.ior, 1) := dk_128 ((dQ_X0_liveMinute_5 13).trans dk_j13)
theorem dX0_liveMinute_94 : decode cX0_liveMinute 94 = .ok (.iastore, 1) := dk_79 ((dQ_X0_liveMinute_5 14).trans dk_j14)
theorem dX0_liveMinute_95 : decode cX0_liveMinute 95 = .ok (.iconst 0, 1) := dk_3 ((dQ_X0_liveMinute_5 15).trans dk_j15)
theorem dX0_liveMinute_96 : decode cX0_liveMinute 96 = .ok (.istore 5, 2) := dk_54 ((dQ_X0_liveMinute_6 0).trans dk_j0) ((dQ_X0_liveMinute_6 1).trans dk_j1) dk_vu1_5
theorem dX0_liveMinute_98 : decode cX0_liveMinute 98 = .ok (.aload_n 0, 1) := dk_42 ((dQ_X0_liveMinute_6 2).trans dk_j2)
theorem dX0_liveMinute_99 : decode cX0_liveMinute 99 = .ok (.getfield 34, 3) := dk_180 ((dQ_X0_liveMinute_6 3).trans dk_j3) ((dQ_X0_liveMinute_6 4).trans dk_j4) ((dQ_X0_liveMinute_6 5).trans dk_j5) dk_vu2_0_34
theorem dX0_liveMinute_102 : decode cX0_liveMinute 102 = .ok (.iload_n 2, 1) := dk_28 ((dQ_X0_liveMinute_6 6).trans dk_j6)
theorem dX0_liveMinute_103 : decode cX0_liveMinute 103 = .ok (.iload 4, 2) := dk_21 ((dQ_X0_liveMinute_6 7).trans dk_j7) ((dQ_X0_liveMinute_6 8).trans dk_j8) dk_vu1_4
theorem dX0_liveMinute_105 : decode cX0_liveMinute 105 = .ok (.iadd, 1) := dk_96 ((dQ_X0_liveMinute_6 9).trans dk_j9)
theorem dX0_liveMinute_106 : decode cX0_liveMinute 106 = .ok (.iload 5, 2) := dk_21 ((dQ_X0_liveMinute_6 10).trans dk_j10) ((dQ_X0_liveMinute_6 11).trans dk_j11) dk_vu1_5
theorem dX0_liveMinute_108 : decode cX0_liveMinute 108 = .ok (.iastore, 1) := dk_79 ((dQ_X0_liveMinute_6 12).trans dk_j12)
theorem dX0_liveMinute_109 : decode cX0_liveMinute 109 = .ok (.iinc 4 1, 3) := dk_132 ((dQ_X0_liveMinute_6 13).trans dk_j13) ((dQ_X0_liveMinute_6 14).trans dk_j14) ((dQ_X0_liveMinute_6 15).trans dk_j15) dk_vu1_4 dk_vs1_1
theorem dk_vs2_255_154 : Reader.signed 16 ((0xff : UInt8).toNat * 256 + (0x9a : UInt8).toNat) = (-102 : Int) := by decide +kernel
theorem dX0_liveMinute_112 : decode cX0_liveMinute 112 = .ok (.goto (-102), 3) := dk_167 ((dQ_X0_liveMinute_7 0).trans dk_j0) ((dQ_X0_liveMinute_7 1).trans dk_j1) ((dQ_X0_liveMinute_7 2).trans dk_j2) dk_vs2_255_154
theorem dX0_liveMinute_115 : decode cX0_liveMinute 115 = .ok (.aload_n 0, 1) := dk_42 ((dQ_X0_liveMinute_7 3).trans dk_j3)
theorem dX0_liveMinute_116 : decode cX0_liveMinute 116 = .ok (.getfield 40, 3) := dk_180 ((dQ_X0_liveMinute_7 4).trans dk_j4) ((dQ_X0_liveMinute_7 5).trans dk_j5) ((dQ_X0_liveMinute_7 6).trans dk_j6) dk_vu2_0_40
theorem dX0_liveMinute_119 : decode cX0_liveMinute 119 = .ok (.iload_n 1, 1) := dk_27 ((dQ_X0_liveMinute_7 7).trans dk_j7)
theorem dX0_liveMinute_120 : decode cX0_liveMinute 120 = .ok (.iload_n 3, 1) := dk_29 ((dQ_X0_liveMinute_7 8).trans dk_j8)
theorem dX0_liveMinute_121 : decode cX0_liveMinute 121 = .ok (.iastore, 1) := dk_79 ((dQ_X0_liveMinute_7 9).trans dk_j9)
theorem dX0_liveMinute_122 : decode cX0_liveMinute 122 = .ok (.return_, 1) := dk_177 ((dQ_X0_liveMinute_7 10).trans dk_j10)
def dT_X0_comesTo_2 : List UInt8 := (0x68 : UInt8) :: (0x2a : UInt8) :: (0x1b : UInt8) :: (0x1c : UInt8) :: (0xb6 : UInt8) :: (0x00 : UInt8) :: (0x69 : UInt8) :: (0x60 : UInt8) :: (0x1d : UInt8) :: (0x60 : UInt8) :: (0xac : UInt8) :: []
def dT_X0_comesTo_1 : List UInt8 := (0x00 : UInt8) :: (0x04 : UInt8) :: (0x03 : UInt8) :: (0x3e : UInt8) :: (0x2a : UInt8) :: (0xb4 : UInt8) :: (0x00 : UInt8) :: (0x13 : UInt8) :: (0x1b : UInt8) :: (0x2e : UInt8) :: (0x2a : UInt8) :: (0xb4 : UInt8) :: (0x00 : UInt8) :: (0x0f : UInt8) :: (0x1c : UInt8) :: (0x2e : UInt8) :: dT_X0_comesTo_2
def dT_X0_comesTo_0 : List UInt8 := (0x2a : UInt8) :: (0xb4 : UInt8) :: (0x00 : UInt8) :: (0x1c : UInt8) :: (0x1b : UInt8) :: (0x2e : UInt8) :: (0x1c : UInt8) :: (0xb8 : UInt8) :: (0x00 : UInt8) :: (0x62 : UInt8) :: (0x99 : UInt8) :: (0x00 : UInt8) :: (0x08 : UInt8) :: (0x10 : UInt8) :: (0x28 : UInt8) :: (0xa7 : UInt8) :: dT_X0_comesTo_1
theorem dT_X0_comesTo : cX0_comesTo.data.toList = dT_X0_comesTo_0 := eq_of_beq (show (cX0_comesTo.data.toList == dT_X0_comesTo_0) = true by decide +kernel)
theorem dQ_X0_comesTo_0 : dQ_P cX0_comesTo 0 dT_X0_comesTo_0 := fun i => by rw [dT_X0_comesTo]; rfl
theorem dQ_X0_comesTo_1 : dQ_P cX0_comesTo 16 dT_X0_comesTo_1 := fun i => (dQ_X0_comesTo_0 (i + 16)).trans dk_t
theorem dQ_X0_comesTo_2 : dQ_P cX0_comesTo 32 dT_X0_comesTo_2 := fun i => (dQ_X0_comesTo_1 (i + 16)).trans dk_t
theorem dX0_comesTo_0 : decode cX0_comesTo 0 = .ok (.aload_n 0, 1) := dk_42 ((dQ_X0_comesTo_0 0).trans dk_j0)
theorem dX0_comesTo_1 : decode cX0_comesTo 1 = .ok (.getfield 28, 3) := dk_180 ((dQ_X0_comesTo_0 1).trans dk_j1) ((dQ_X0_comesTo_0 2).trans dk_j2) ((dQ_X0_comesTo_0 3).trans dk_j3) dk_vu2_0_28
theorem dX0_comesTo_4 : decode cX0_comesTo 4 = .ok (.iload_n 1, 1) := dk_27 ((dQ_X0_comesTo_0 4).trans dk_j4)
theorem dX0_comesTo_5 : decode cX0_comesTo 5 = .ok (.iaload, 1) := dk_46 ((dQ_X0_comesTo_0 5).trans dk_j5)
theorem dX0_comesTo_6 : decode cX0_comesTo 6 = .ok (.iload_n 2, 1) := dk_28 ((dQ_X0_comesTo_0 6).trans dk_j6)
theorem dX0_comesTo_7 : decode cX0_comesTo 7 = .ok (.invokestatic 98, 3) := dk_184 ((dQ_X0_comesTo_0 7).trans dk_j7) ((dQ_X0_comesTo_0 8).trans dk_j8) ((dQ_X0_comesTo_0 9).trans dk_j9) dk_vu2_0_98
theorem dX0_comesTo_10 : decode cX0_comesTo 10 = .ok (.ifCond .eq 8, 3) := dk_153 ((dQ_X0_comesTo_0 10).trans dk_j10) ((dQ_X0_comesTo_0 11).trans dk_j11) ((dQ_X0_comesTo_0 12).trans dk_j12) dk_vs2_0_8
theorem dX0_comesTo_13 : decode cX0_comesTo 13 = .ok (.bipush 40, 2) := dk_16 ((dQ_X0_comesTo_0 13).trans dk_j13) ((dQ_X0_comesTo_0 14).trans dk_j14) dk_vs1_40
theorem dX0_comesTo_15 : decode cX0_comesTo 15 = .ok (.goto 4, 3) := dk_167 ((dQ_X0_comesTo_0 15).trans dk_j15) ((dQ_X0_comesTo_1 0).trans dk_j0) ((dQ_X0_comesTo_1 1).trans dk_j1) dk_vs2_0_4
theorem dX0_comesTo_18 : decode cX0_comesTo 18 = .ok (.iconst 0, 1) := dk_3 ((dQ_X0_comesTo_1 2).trans dk_j2)
theorem dX0_comesTo_19 : decode cX0_comesTo 19 = .ok (.istore_n 3, 1) := dk_62 ((dQ_X0_comesTo_1 3).trans dk_j3)
theorem dX0_comesTo_20 : decode cX0_comesTo 20 = .ok (.aload_n 0, 1) := dk_42 ((dQ_X0_comesTo_1 4).trans dk_j4)
theorem dX0_comesTo_21 : decode cX0_comesTo 21 = .ok (.getfield 19, 3) := dk_180 ((dQ_X0_comesTo_1 5).trans dk_j5) ((dQ_X0_comesTo_1 6).trans dk_j6) ((dQ_X0_comesTo_1 7).trans dk_j7) dk_vu2_0_19
theorem dX0_comesTo_24 : decode cX0_comesTo 24 = .ok (.iload_n 1, 1) := dk_27 ((dQ_X0_comesTo_1 8).trans dk_j8)
theorem dX0_comesTo_25 : decode cX0_comesTo 25 = .ok (.iaload, 1) := dk_46 ((dQ_X0_comesTo_1 9).trans dk_j9)
theorem dX0_comesTo_26 : decode cX0_comesTo 26 = .ok (.aload_n 0, 1) := dk_42 ((dQ_X0_comesTo_1 10).trans dk_j10)
theorem dX0_comesTo_27 : decode cX0_comesTo 27 = .ok (.getfield 15, 3) := dk_180 ((dQ_X0_comesTo_1 11).trans dk_j11) ((dQ_X0_comesTo_1 12).trans dk_j12) ((dQ_X0_comesTo_1 13).trans dk_j13) dk_vu2_0_15
theorem dX0_comesTo_30 : decode cX0_comesTo 30 = .ok (.iload_n 2, 1) := dk_28 ((dQ_X0_comesTo_1 14).trans dk_j14)
theorem dX0_comesTo_31 : decode cX0_comesTo 31 = .ok (.iaload, 1) := dk_46 ((dQ_X0_comesTo_1 15).trans dk_j15)
theorem dX0_comesTo_32 : decode cX0_comesTo 32 = .ok (.imul, 1) := dk_104 ((dQ_X0_comesTo_2 0).trans dk_j0)
theorem dX0_comesTo_33 : decode cX0_comesTo 33 = .ok (.aload_n 0, 1) := dk_42 ((dQ_X0_comesTo_2 1).trans dk_j1)
theorem dX0_comesTo_34 : decode cX0_comesTo 34 = .ok (.iload_n 1, 1) := dk_27 ((dQ_X0_comesTo_2 2).trans dk_j2)
theorem dX0_comesTo_35 : decode cX0_comesTo 35 = .ok (.iload_n 2, 1) := dk_28 ((dQ_X0_comesTo_2 3).trans dk_j3)
theorem dk_vu2_0_105 : (0x00 : UInt8).toNat * 256 + (0x69 : UInt8).toNat = (105 : Nat) := by decide +kernel
theorem dX0_comesTo_36 : decode cX0_comesTo 36 = .ok (.invokevirtual 105, 3) := dk_182 ((dQ_X0_comesTo_2 4).trans dk_j4) ((dQ_X0_comesTo_2 5).trans dk_j5) ((dQ_X0_comesTo_2 6).trans dk_j6) dk_vu2_0_105
theorem dX0_comesTo_39 : decode cX0_comesTo 39 = .ok (.iadd, 1) := dk_96 ((dQ_X0_comesTo_2 7).trans dk_j7)
theorem dX0_comesTo_40 : decode cX0_comesTo 40 = .ok (.iload_n 3, 1) := dk_29 ((dQ_X0_comesTo_2 8).trans dk_j8)
theorem dX0_comesTo_41 : decode cX0_comesTo 41 = .ok (.iadd, 1) := dk_96 ((dQ_X0_comesTo_2 9).trans dk_j9)
theorem dX0_comesTo_42 : decode cX0_comesTo 42 = .ok (.ireturn, 1) := dk_172 ((dQ_X0_comesTo_2 10).trans dk_j10)
def dT_X0_cameAt_0 : List UInt8 := (0x2a : UInt8) :: (0xb4 : UInt8) :: (0x00 : UInt8) :: (0x25 : UInt8) :: (0x10 : UInt8) :: (0x06 : UInt8) :: (0x1c : UInt8) :: (0x68 : UInt8) :: (0x1b : UInt8) :: (0x60 : UInt8) :: (0x2e : UInt8) :: (0xac : UInt8) :: []
theorem dT_X0_cameAt : cX0_cameAt.data.toList = dT_X0_cameAt_0 := eq_of_beq (show (cX0_cameAt.data.toList == dT_X0_cameAt_0) = true by decide +kernel)
theorem dQ_X0_cameAt_0 : dQ_P cX0_cameAt 0 dT_X0_cameAt_0 := fun i => by rw [dT_X0_cameAt]; rfl
theorem dX0_cameAt_0 : decode cX0_cameAt 0 = .ok (.aload_n 0, 1) := dk_42 ((dQ_X0_cameAt_0 0).trans dk_j0)
theorem dX0_cameAt_1 : decode cX0_cameAt 1 = .ok (.getfield 37, 3) := dk_180 ((dQ_X0_cameAt_0 1).trans dk_j1) ((dQ_X0_cameAt_0 2).trans dk_j2) ((dQ_X0_cameAt_0 3).trans dk_j3) dk_vu2_0_37
theorem dX0_cameAt_4 : decode cX0_cameAt 4 = .ok (.bipush 6, 2) := dk_16 ((dQ_X0_cameAt_0 4).trans dk_j4) ((dQ_X0_cameAt_0 5).trans dk_j5) dk_vs1_6
theorem dX0_cameAt_6 : decode cX0_cameAt 6 = .ok (.iload_n 2, 1) := dk_28 ((dQ_X0_cameAt_0 6).trans dk_j6)
theorem dX0_cameAt_7 : decode cX0_cameAt 7 = .ok (.imul, 1) := dk_104 ((dQ_X0_cameAt_0 7).trans dk_j7)
theorem dX0_cameAt_8 : decode cX0_cameAt 8 = .ok (.iload_n 1, 1) := dk_27 ((dQ_X0_cameAt_0 8).trans dk_j8)
theorem dX0_cameAt_9 : decode cX0_cameAt 9 = .ok (.iadd, 1) := dk_96 ((dQ_X0_cameAt_0 9).trans dk_j9)
theorem dX0_cameAt_10 : decode cX0_cameAt 10 = .ok (.iaload, 1) := dk_46 ((dQ_X0_cameAt_0 10).trans dk_j10)
theorem dX0_cameAt_11 : decode cX0_cameAt 11 = .ok (.ireturn, 1) := dk_172 ((dQ_X0_cameAt_0 11).trans dk_j11)
def dT_X0_tickleAt_0 : List UInt8 := (0x2a : UInt8) :: (0xb4 : UInt8) :: (0x00 : UInt8) :: (0x22 : UInt8) :: (0x10 : UInt8) :: (0x06 : UInt8) :: (0x1c : UInt8) :: (0x68 : UInt8) :: (0x1b : UInt8) :: (0x60 : UInt8) :: (0x2e : UInt8) :: (0xac : UInt8) :: []
theorem dT_X0_tickleAt : cX0_tickleAt.data.toList = dT_X0_tickleAt_0 := eq_of_beq (show (cX0_tickleAt.data.toList == dT_X0_tickleAt_0) = true by decide +kernel)
theorem dQ_X0_tickleAt_0 : dQ_P cX0_tickleAt 0 dT_X0_tickleAt_0 := fun i => by rw [dT_X0_tickleAt]; rfl
theorem dX0_tickleAt_0 : decode cX0_tickleAt 0 = .ok (.aload_n 0, 1) := dk_42 ((dQ_X0_tickleAt_0 0).trans dk_j0)
theorem dX0_tickleAt_1 : decode cX0_tickleAt 1 = .ok (.getfield 34, 3) := dk_180 ((dQ_X0_tickleAt_0 1).trans dk_j1) ((dQ_X0_tickleAt_0 2).trans dk_j2) ((dQ_X0_tickleAt_0 3).trans dk_j3) dk_vu2_0_34
theorem dX0_tickleAt_4 : decode cX0_tickleAt 4 = .ok (.bipush 6, 2) := dk_16 ((dQ_X0_tickleAt_0 4).trans dk_j4) ((dQ_X0_tickleAt_0 5).trans dk_j5) dk_vs1_6
theorem dX0_tickleAt_6 : decode cX0_tickleAt 6 = .ok (.iload_n 2, 1) := dk_28 ((dQ_X0_tickleAt_0 6).trans dk_j6)
theorem dX0_tickleAt_7 : decode cX0_tickleAt 7 = .ok (.imul, 1) := dk_104 ((dQ_X0_tickleAt_0 7).trans dk_j7)
theorem dX0_tickleAt_8 : decode cX0_tickleAt 8 = .ok (.iload_n 1, 1) := dk_27 ((dQ_X0_tickleAt_0 8).trans dk_j8)
theorem dX0_tickleAt_9 : decode cX0_tickleAt 9 = .ok (.iadd, 1) := dk_96 ((dQ_X0_tickleAt_0 9).trans dk_j9)
theorem dX0_tickleAt_10 : decode cX0_tickleAt 10 = .ok (.iaload, 1) := dk_46 ((dQ_X0_tickleAt_0 10).trans dk_j10)
theorem dX0_tickleAt_11 : decode cX0_tickleAt 11 = .ok (.ireturn, 1) := dk_172 ((dQ_X0_tickleAt_0 11).trans dk_j11)
def dT_X0_total_1 : List UInt8 := (0x2b : UInt8) :: (0x1c : UInt8) :: (0x2e : UInt8) :: (0xb8 : UInt8) :: (0x00 : UInt8) :: (0x6c : UInt8) :: (0x60 : UInt8) :: (0x3c : UInt8) :: (0x84 : UInt8) :: (0x02 : UInt8) :: (0x01 : UInt8) :: (0xa7 : UInt8) :: (0xff : UInt8) :: (0xe9 : UInt8) :: (0x1b : UInt8) :: (0xac : UInt8) :: []
def dT_X0_total_0 : List UInt8 := (0x03 : UInt8) :: (0x3c : UInt8) :: (0x03 : UInt8) :: (0x3d : UInt8) :: (0x1c : UInt8) :: (0x2a : UInt8) :: (0xb4 : UInt8) :: (0x00 : UInt8) :: (0x36 : UInt8) :: (0xa2 : UInt8) :: (0x00 : UInt8) :: (0x15 : UInt8) :: (0x1b : UInt8) :: (0x2a : UInt8) :: (0xb4 : UInt8) :: (0x00 : UInt8) :: dT_X0_total_1
theorem dT_X0_total : cX0_total.data.toList = dT_X0_total_0 := eq_of_beq (show (cX0_total.data.toList == dT_X0_total_0) = true by decide +kernel)
theorem dQ_X0_total_0 : dQ_P cX0_total 0 dT_X0_total_0 := fun i => by rw [dT_X0_total]; rfl
theorem dQ_X0_total_1 : dQ_P cX0_total 16 dT_X0_total_1 := fun i => (dQ_X0_total_0 (i + 16)).trans dk_t
theorem dX0_total_0 : decode cX0_total 0 = .ok (.iconst 0, 1) := dk_3 ((dQ_X0_total_0 0).trans dk_j0)
theorem dX0_total_1 : decode cX0_total 1 = .ok (.istore_n 1, 1) := dk_60 ((dQ_X0_total_0 1).trans dk_j1)
theorem dX0_total_2 : decode cX0_total 2 = .ok (.iconst 0, 1) := dk_3 ((dQ_X0_total_0 2).trans dk_j2)
theorem dX0_total_3 : decode cX0_total 3 = .ok (.istore_n 2, 1) := dk_61 ((dQ_X0_total_0 3).trans dk_j3)
theorem dX0_total_4 : decode cX0_total 4 = .ok (.iload_n 2, 1) := dk_28 ((dQ_X0_total_0 4).trans dk_j4)
theorem dX0_total_5 : decode cX0_total 5 = .ok (.aload_n 0, 1) := dk_42 ((dQ_X0_total_0 5).trans dk_j5)
theorem dX0_total_6 : decode cX0_total 6 = .ok (.getfield 54, 3) := dk_180 ((dQ_X0_total_0 6).trans dk_j6) ((dQ_X0_total_0 7).trans dk_j7) ((dQ_X0_total_0 8).trans dk_j8) dk_vu2_0_54
theorem dX0_total_9 : decode cX0_total 9 = .ok (.if_icmp .ge 21, 3) := dk_162 ((dQ_X0_total_0 9).trans dk_j9) ((dQ_X0_total_0 10).trans dk_j10) ((dQ_X0_total_0 11).trans dk_j11) dk_vs2_0_21
theorem dX0_total_12 : decode cX0_total 12 = .ok (.iload_n 1, 1) := dk_27 ((dQ_X0_total_0 12).trans dk_j12)
theorem dX0_total_13 : decode cX0_total 13 = .ok (.aload_n 0, 1) := dk_42 ((dQ_X0_total_0 13).trans dk_j13)
theorem dX0_total_14 : decode cX0_total 14 = .ok (.getfield 43, 3) := dk_180 ((dQ_X0_total_0 14).trans dk_j14) ((dQ_X0_total_0 15).trans dk_j15) ((dQ_X0_total_1 0).trans dk_j0) dk_vu2_0_43
theorem dX0_total_17 : decode cX0_total 17 = .ok (.iload_n 2, 1) := dk_28 ((dQ_X0_total_1 1).trans dk_j1)
theorem dX0_total_18 : decode cX0_total 18 = .ok (.iaload, 1) := dk_46 ((dQ_X0_total_1 2).trans dk_j2)
theorem dk_vu2_0_108 : (0x00 : UInt8).toNat * 256 + (0x6c : UInt8).toNat = (108 : Nat) := by decide +kernel
theorem dX0_total_19 : decode cX0_total 19 = .ok (.invokestatic 108, 3) := dk_184 ((dQ_X0_total_1 3).trans dk_j3) ((dQ_X0_total_1 4).trans dk_j4) ((dQ_X0_total_1 5).trans dk_j5) dk_vu2_0_108
theorem dX0_total_22 : decode cX0_total 22 = .ok (.iadd, 1) := dk_96 ((dQ_X0_total_1 6).trans dk_j6)
theorem dX0_total_23 : decode cX0_total 23 = .ok (.istore_n 1, 1) := dk_60 ((dQ_X0_total_1 7).trans dk_j7)
theorem dX0_total_24 : decode cX0_total 24 = .ok (.iinc 2 1, 3) := dk_132 ((dQ_X0_total_1 8).trans dk_j8) ((dQ_X0_total_1 9).trans dk_j9) ((dQ_X0_total_1 10).trans dk_j10) dk_vu1_2 dk_vs1_1
theorem dX0_total_27 : decode cX0_total 27 = .ok (.goto (-23), 3) := dk_167 ((dQ_X0_total_1 11).trans dk_j11) ((dQ_X0_total_1 12).trans dk_j12) ((dQ_X0_total_1 13).trans dk_j13) dk_vs2_255_233
theorem dX0_total_30 : decode cX0_total 30 = .ok (.iload_n 1, 1) := dk_27 ((dQ_X0_total_1 14).trans dk_j14)
theorem dX0_total_31 : decode cX0_total 31 = .ok (.ireturn, 1) := dk_172 ((dQ_X0_total_1 15).trans dk_j15)
def dT_X1_init_0 : List UInt8 := (0x2a : UInt8) :: (0xb7 : UInt8) :: (0x00 : UInt8) :: (0x03 : UInt8) :: (0x2a : UInt8) :: (0x10 : UInt8) :: (0x1f : UInt8) :: (0xbc : UInt8) :: (0x0b : UInt8) :: (0xb5 : UInt8) :: (0x00 : UInt8) :: (0x09 : UInt8) :: (0xb1 : UInt8) :: []
theorem dT_X1_init : cX1_init.data.toList = dT_X1_init_0 := eq_of_beq (show (cX1_init.data.toList == dT_X1_init_0) = true by decide +kernel)
theorem dQ_X1_init_0 : dQ_P cX1_init 0 dT_X1_init_0 := fun i => by rw [dT_X1_init]; rfl
theorem dX1_init_0 : decode cX1_init 0 = .ok (.aload_n 0, 1) := dk_42 ((dQ_X1_init_0 0).trans dk_j0)
theorem dX1_init_1 : decode cX1_init 1 = .ok (.invokespecial 3, 3) := dk_183 ((dQ_X1_init_0 1).trans dk_j1) ((dQ_X1_init_0 2).trans dk_j2) ((dQ_X1_init_0 3).trans dk_j3) dk_vu2_0_3
theorem dX1_init_4 : decode cX1_init 4 = .ok (.aload_n 0, 1) := dk_42 ((dQ_X1_init_0 4).trans dk_j4)
theorem dX1_init_5 : decode cX1_init 5 = .ok (.bipush 31, 2) := dk_16 ((dQ_X1_init_0 5).trans dk_j5) ((dQ_X1_init_0 6).trans dk_j6) dk_vs1_31
theorem dX1_init_7 : decode cX1_init 7 = .ok (.newarray .long, 2) := by decide +kernel
theorem dX1_init_9 : decode cX1_init 9 = .ok (.putfield 9, 3) := dk_181 ((dQ_X1_init_0 9).trans dk_j9) ((dQ_X1_init_0 10).trans dk_j10) ((dQ_X1_init_0 11).trans dk_j11) dk_vu2_0_9
theorem dX1_init_12 : decode cX1_init 12 = .ok (.return_, 1) := dk_177 ((dQ_X1_init_0 12).trans dk_j12)
def dT_X1_reckon_6 : List UInt8 := (0x15 : UInt8) :: (0x04 : UInt8) :: (0x15 : UInt8) :: (0x05 : UInt8) :: (0xb6 : UInt8) :: (0x00 : UInt8) :: (0x2c : UInt8) :: (0x84 : UInt8) :: (0x06 : UInt8) :: (0x01 : UInt8) :: (0xa7 : UInt8) :: (0xff : UInt8) :: (0xd7 : UInt8) :: (0xb1 : UInt8) :: []
def dT_X1_reckon_5 : List UInt8 := (0x00 : UInt8) :: (0x24 : UInt8) :: (0x94 : UInt8) :: (0x99 : UInt8) :: (0x00 : UInt8) :: (0x14 : UInt8) :: (0x2a : UInt8) :: (0x2c : UInt8) :: (0x2b : UInt8) :: (0x1d : UInt8) :: (0x03 : UInt8) :: (0xb6 : UInt8) :: (0x00 : UInt8) :: (0x0f : UInt8) :: (0x15 : UInt8) :: (0x06 : UInt8) :: dT_X1_reckon_6
def dT_X1_reckon_4 : List UInt8 := (0x06 : UInt8) :: (0x15 : UInt8) :: (0x06 : UInt8) :: (0x15 : UInt8) :: (0x04 : UInt8) :: (0xa3 : UInt8) :: (0x00 : UInt8) :: (0x28 : UInt8) :: (0x2a : UInt8) :: (0xb4 : UInt8) :: (0x00 : UInt8) :: (0x09 : UInt8) :: (0x15 : UInt8) :: (0x06 : UInt8) :: (0x2f : UInt8) :: (0x14 : UInt8) :: dT_X1_reckon_5
def dT_X1_reckon_3 : List UInt8 := (0x09 : UInt8) :: (0x14 : UInt8) :: (0x00 : UInt8) :: (0x24 : UInt8) :: (0xb8 : UInt8) :: (0x00 : UInt8) :: (0x26 : UInt8) :: (0x2a : UInt8) :: (0xb4 : UInt8) :: (0x00 : UInt8) :: (0x09 : UInt8) :: (0x03 : UInt8) :: (0x09 : UInt8) :: (0x50 : UInt8) :: (0x03 : UInt8) :: (0x36 : UInt8) :: dT_X1_reckon_4
def dT_X1_reckon_2 : List UInt8 := (0x15 : UInt8) :: (0x05 : UInt8) :: (0xa4 : UInt8) :: (0x00 : UInt8) :: (0x04 : UInt8) :: (0xb1 : UInt8) :: (0x2a : UInt8) :: (0x14 : UInt8) :: (0x00 : UInt8) :: (0x24 : UInt8) :: (0xb5 : UInt8) :: (0x00 : UInt8) :: (0x20 : UInt8) :: (0x2a : UInt8) :: (0xb4 : UInt8) :: (0x00 : UInt8) :: dT_X1_reckon_3
def dT_X1_reckon_1 : List UInt8 := (0x00 : UInt8) :: (0x15 : UInt8) :: (0x04 : UInt8) :: (0x64 : UInt8) :: (0xb8 : UInt8) :: (0x00 : UInt8) :: (0x1b : UInt8) :: (0x36 : UInt8) :: (0x05 : UInt8) :: (0x2a : UInt8) :: (0x09 : UInt8) :: (0xb5 : UInt8) :: (0x00 : UInt8) :: (0x20 : UInt8) :: (0x15 : UInt8) :: (0x04 : UInt8) :: dT_X1_reckon_2
def dT_X1_reckon_0 : List UInt8 := (0x2b : UInt8) :: (0x1d : UInt8) :: (0x04 : UInt8) :: (0xb6 : UInt8) :: (0x00 : UInt8) :: (0x0f : UInt8) :: (0x36 : UInt8) :: (0x04 : UInt8) :: (0x2b : UInt8) :: (0x1d : UInt8) :: (0x05 : UInt8) :: (0xb6 : UInt8) :: (0x00 : UInt8) :: (0x0f : UInt8) :: (0x2c : UInt8) :: (0xb4 : UInt8) :: dT_X1_reckon_1
theorem dT_X1_reckon : cX1_reckon.data.toList = dT_X1_reckon_0 := eq_of_beq (show (cX1_reckon.data.toList == dT_X1_reckon_0) = true by decide +kernel)
theorem dQ_X1_reckon_0 : dQ_P cX1_reckon 0 dT_X1_reckon_0 := fun i => by rw [dT_X1_reckon]; rfl
theorem dQ_X1_reckon_1 : dQ_P cX1_reckon 16 dT_X1_reckon_1 := fun i => (dQ_X1_reckon_0 (i + 16)).trans dk_t
theorem dQ_X1_reckon_2 : dQ_P cX1_reckon 32 dT_X1_reckon_2 := fun i => (dQ_X1_reckon_1 (i + 16)).trans dk_t
theorem dQ_X1_reckon_3 : dQ_P cX1_reckon 48 dT_X1_reckon_3 := fun i => (dQ_X1_reckon_2 (i + 16)).trans dk_t
theorem dQ_X1_reckon_4 : dQ_P cX1_reckon 64 dT_X1_reckon_4 := fun i => (dQ_X1_reckon_3 (i + 16)).trans dk_t
theorem dQ_X1_reckon_5 : dQ_P cX1_reckon 80 dT_X1_reckon_5 := fun i => (dQ_X1_reckon_4 (i + 16)).trans dk_t
theorem dQ_X1_reckon_6 : dQ_P cX1_reckon 96 dT_X1_reckon_6 := fun i => (dQ_X1_reckon_5 (i + 16)).trans dk_t
theorem dX1_reckon_0 : decode cX1_reckon 0 = .ok (.aload_n 1, 1) := dk_43 ((dQ_X1_reckon_0 0).trans dk_j0)
theorem dX1_reckon_1 : decode cX1_reckon 1 = .ok (.iload_n 3, 1) := dk_29 ((dQ_X1_reckon_0 1).trans dk_j1)
theorem dX1_reckon_2 : decode cX1_reckon 2 = .ok (.iconst 1, 1) := dk_4 ((dQ_X1_reckon_0 2).trans dk_j2)
theorem dX1_reckon_3 : decode cX1_reckon 3 = .ok (.invokevirtual 15, 3) := dk_182 ((dQ_X1_reckon_0 3).trans dk_j3) ((dQ_X1_reckon_0 4).trans dk_j4) ((dQ_X1_reckon_0 5).trans dk_j5) dk_vu2_0_15
theorem dX1_reckon_6 : decode cX1_reckon 6 = .ok (.istore 4, 2) := dk_54 ((dQ_X1_reckon_0 6).trans dk_j6) ((dQ_X1_reckon_0 7).trans dk_j7) dk_vu1_4
theorem dX1_reckon_8 : decode cX1_reckon 8 = .ok (.aload_n 1, 1) := dk_43 ((dQ_X1_reckon_0 8).trans dk_j8)
theorem dX1_reckon_9 : decode cX1_reckon 9 = .ok (.iload_n 3, 1) := dk_29 ((dQ_X1_reckon_0 9).trans dk_j9)
theorem dX1_reckon_10 : decode cX1_reckon 10 = .ok (.iconst 2, 1) := dk_5 ((dQ_X1_reckon_0 10).trans dk_j10)
theorem dX1_reckon_11 : decode cX1_reckon 11 = .ok (.invokevirtual 15, 3) := dk_182 ((dQ_X1_reckon_0 11).trans dk_j11) ((dQ_X1_reckon_0 12).trans dk_j12) ((dQ_X1_reckon_0 13).trans dk_j13) dk_vu2_0_15
theorem dX1_reckon_14 : decode cX1_reckon 14 = .ok (.aload_n 2, 1) := dk_44 ((dQ_X1_reckon_0 14).trans dk_j14)
theorem dk_vu2_0_21 : (0x00 : UInt8).toNat * 256 + (0x15 : UInt8).toNat = (21 : Nat) := by decide +kernel
theorem dX1_reckon_15 : decode cX1_reckon 15 = .ok (.getfield 21, 3) := dk_180 ((dQ_X1_reckon_0 15).trans dk_j15) ((dQ_X1_reckon_1 0).trans dk_j0) ((dQ_X1_reckon_1 1).trans dk_j1) dk_vu2_0_21
theorem dX1_reckon_18 : decode cX1_reckon 18 = .ok (.iconst 1, 1) := dk_4 ((dQ_X1_reckon_1 2).trans dk_j2)
theorem dX1_reckon_19 : decode cX1_reckon 19 = .ok (.isub, 1) := dk_100 ((dQ_X1_reckon_1 3).trans dk_j3)
theorem dX1_reckon_20 : decode cX1_reckon 20 = .ok (.invokestatic 27, 3) := dk_184 ((dQ_X1_reckon_1 4).trans dk_j4) ((dQ_X1_reckon_1 5).trans dk_j5) ((dQ_X1_reckon_1 6).trans dk_j6) dk_vu2_0_27
theorem dX1_reckon_23 : decode cX1_reckon 23 = .ok (.istore 5, 2) := dk_54 ((dQ_X1_reckon_1 7).trans dk_j7) ((dQ_X1_reckon_1 8).trans dk_j8) dk_vu1_5
theorem dX1_reckon_25 : decode cX1_reckon 25 = .ok (.aload_n 0, 1) := dk_42 ((dQ_X1_reckon_1 9).trans dk_j9)
theorem dX1_reckon_26 : decode cX1_reckon 26 = .ok (.lconst 0, 1) := dk_9 ((dQ_X1_reckon_1 10).trans dk_j10)
theorem dk_vu2_0_32 : (0x00 : UInt8).toNat * 256 + (0x20 : UInt8).toNat = (32 : Nat) := by decide +kernel
theorem dX1_reckon_27 : decode cX1_reckon 27 = .ok (.putfield 32, 3) := dk_181 ((dQ_X1_reckon_1 11).trans dk_j11) ((dQ_X1_reckon_1 12).trans dk_j12) ((dQ_X1_reckon_1 13).trans dk_j13) dk_vu2_0_32
theorem dX1_reckon_30 : decode cX1_reckon 30 = .ok (.iload 4, 2) := dk_21 ((dQ_X1_reckon_1 14).trans dk_j14) ((dQ_X1_reckon_1 15).trans dk_j15) dk_vu1_4
theorem dX1_reckon_32 : decode cX1_reckon 32 = .ok (.iload 5, 2) := dk_21 ((dQ_X1_reckon_2 0).trans dk_j0) ((dQ_X1_reckon_2 1).trans dk_j1) dk_vu1_5
theorem dX1_reckon_34 : decode cX1_reckon 34 = .ok (.if_icmp .le 4, 3) := dk_164 ((dQ_X1_reckon_2 2).trans dk_j2) ((dQ_X1_reckon_2 3).trans dk_j3) ((dQ_X1_reckon_2 4).trans dk_j4) dk_vs2_0_4
theorem dX1_reckon_37 : decode cX1_reckon 37 = .ok (.return_, 1) := dk_177 ((dQ_X1_reckon_2 5).trans dk_j5)
theorem dX1_reckon_38 : decode cX1_reckon 38 = .ok (.aload_n 0, 1) := dk_42 ((dQ_X1_reckon_2 6).trans dk_j6)
theorem dX1_reckon_39 : decode cX1_reckon 39 = .ok (.ldc2_w 36, 3) := dk_20 ((dQ_X1_reckon_2 7).trans dk_j7) ((dQ_X1_reckon_2 8).trans dk_j8) ((dQ_X1_reckon_2 9).trans dk_j9) dk_vu2_0_36
theorem dX1_reckon_42 : decode cX1_reckon 42 = .ok (.putfield 32, 3) := dk_181 ((dQ_X1_reckon_2 10).trans dk_j10) ((dQ_X1_reckon_2 11).trans dk_j11) ((dQ_X1_reckon_2 12).trans dk_j12) dk_vu2_0_32
theorem dX1_reckon_45 : decode cX1_reckon 45 = .ok (.aload_n 0, 1) := dk_42 ((dQ_X1_reckon_2 13).trans dk_j13)
theorem dX1_reckon_46 : decode cX1_reckon 46 = .ok (.getfield 9, 3) := dk_180 ((dQ_X1_reckon_2 14).trans dk_j14) ((dQ_X1_reckon_2 15).trans dk_j15) ((dQ_X1_reckon_3 0).trans dk_j0) dk_vu2_0_9
theorem dX1_reckon_49 : decode cX1_reckon 49 = .ok (.ldc2_w 36, 3) := dk_20 ((dQ_X1_reckon_3 1).trans dk_j1) ((dQ_X1_reckon_3 2).trans dk_j2) ((dQ_X1_reckon_3 3).trans dk_j3) dk_vu2_0_36
theorem dk_vu2_0_38 : (0x00 : UInt8).toNat * 256 + (0x26 : UInt8).toNat = (38 : Nat) := by decide +kernel
theorem dX1_reckon_52 : decode cX1_reckon 52 = .ok (.invokestatic 38, 3) := dk_184 ((dQ_X1_reckon_3 4).trans dk_j4) ((dQ_X1_reckon_3 5).trans dk_j5) ((dQ_X1_reckon_3 6).trans dk_j6) dk_vu2_0_38
theorem dX1_reckon_55 : decode cX1_reckon 55 = .ok (.aload_n 0, 1) := dk_42 ((dQ_X1_reckon_3 7).trans dk_j7)
theorem dX1_reckon_56 : decode cX1_reckon 56 = .ok (.getfield 9, 3) := dk_180 ((dQ_X1_reckon_3 8).trans dk_j8) ((dQ_X1_reckon_3 9).trans dk_j9) ((dQ_X1_reckon_3 10).trans dk_j10) dk_vu2_0_9
theorem dX1_reckon_59 : decode cX1_reckon 59 = .ok (.iconst 0, 1) := dk_3 ((dQ_X1_reckon_3 11).trans dk_j11)
theorem dX1_reckon_60 : decode cX1_reckon 60 = .ok (.lconst 0, 1) := dk_9 ((dQ_X1_reckon_3 12).trans dk_j12)
theorem dX1_reckon_61 : decode cX1_reckon 61 = .ok (.lastore, 1) := dk_80 ((dQ_X1_reckon_3 13).trans dk_j13)
theorem dX1_reckon_62 : decode cX1_reckon 62 = .ok (.iconst 0, 1) := dk_3 ((dQ_X1_reckon_3 14).trans dk_j14)
theorem dX1_reckon_63 : decode cX1_reckon 63 = .ok (.istore 6, 2) := dk_54 ((dQ_X1_reckon_3 15).trans dk_j15) ((dQ_X1_reckon_4 0).trans dk_j0) dk_vu1_6
theorem dX1_reckon_65 : decode cX1_reckon 65 = .ok (.iload 6, 2) := dk_21 ((dQ_X1_reckon_4 1).trans dk_j1) ((dQ_X1_reckon_4 2).trans dk_j2) dk_vu1_6
theorem dX1_reckon_67 : decode cX1_reckon 67 = .ok (.iload 4, 2) := dk_21 ((dQ_X1_reckon_4 3).trans dk_j3) ((dQ_X1_reckon_4 4).trans dk_j4) dk_vu1_4
theorem dX1_reckon_69 : decode cX1_reckon 69 = .ok (.if_icmp .gt 40, 3) := dk_163 ((dQ_X1_reckon_4 5).trans dk_j5) ((dQ_X1_reckon_4 6).trans dk_j6) ((dQ_X1_reckon_4 7).trans dk_j7) dk_vs2_0_40
theorem dX1_reckon_72 : decode cX1_reckon 72 = .ok (.aload_n 0, 1) := dk_42 ((dQ_X1_reckon_4 8).trans dk_j8)
theorem dX1_reckon_73 : decode cX1_reckon 73 = .ok (.getfield 9, 3) := dk_180 ((dQ_X1_reckon_4 9).trans dk_j9) ((dQ_X1_reckon_4 10).trans dk_j10) ((dQ_X1_reckon_4 11).trans dk_j11) dk_vu2_0_9
theorem dX1_reckon_76 : decode cX1_reckon 76 = .ok (.iload 6, 2) := dk_21 ((dQ_X1_reckon_4 12).trans dk_j12) ((dQ_X1_reckon_4 13).trans dk_j13) dk_vu1_6
theorem dX1_reckon_78 : decode cX1_reckon 78 = .ok (.laload, 1) := dk_47 ((dQ_X1_reckon_4 14).trans dk_j14)
theorem dX1_reckon_79 : decode cX1_reckon 79 = .ok (.ldc2_w 36, 3) := dk_20 ((dQ_X1_reckon_4 15).trans dk_j15) ((dQ_X1_reckon_5 0).trans dk_j0) ((dQ_X1_reckon_5 1).trans dk_j1) dk_vu2_0_36
theorem dX1_reckon_82 : decode cX1_reckon 82 = .ok (.lcmp, 1) := dk_148 ((dQ_X1_reckon_5 2).trans dk_j2)
theorem dX1_reckon_83 : decode cX1_reckon 83 = .ok (.ifCond .eq 20, 3) := dk_153 ((dQ_X1_reckon_5 3).trans dk_j3) ((dQ_X1_reckon_5 4).trans dk_j4) ((dQ_X1_reckon_5 5).trans dk_j5) dk_vs2_0_20
theorem dX1_reckon_86 : decode cX1_reckon 86 = .ok (.aload_n 0, 1) := dk_42 ((dQ_X1_reckon_5 6).trans dk_j6)
theorem dX1_reckon_87 : decode cX1_reckon 87 = .ok (.aload_n 2, 1) := dk_44 ((dQ_X1_reckon_5 7).trans dk_j7)
theorem dX1_reckon_88 : decode cX1_reckon 88 = .ok (.aload_n 1, 1) := dk_43 ((dQ_X1_reckon_5 8).trans dk_j8)
theorem dX1_reckon_89 : decode cX1_reckon 89 = .ok (.iload_n 3, 1) := dk_29 ((dQ_X1_reckon_5 9).trans dk_j9)
theorem dX1_reckon_90 : decode cX1_reckon 90 = .ok (.iconst 0, 1) := dk_3 ((dQ_X1_reckon_5 10).trans dk_j10)
theorem dX1_reckon_91 : decode cX1_reckon 91 = .ok (.invokevirtual 15, 3) := dk_182 ((dQ_X1_reckon_5 11).trans dk_j11) ((dQ_X1_reckon_5 12).trans dk_j12) ((dQ_X1_reckon_5 13).trans dk_j13) dk_vu2_0_15
theorem dX1_reckon_94 : decode cX1_reckon 94 = .ok (.iload 6, 2) := dk_21 ((dQ_X1_reckon_5 14).trans dk_j14) ((dQ_X1_reckon_5 15).trans dk_j15) dk_vu1_6
theorem dX1_reckon_96 : decode cX1_reckon 96 = .ok (.iload 4, 2) := dk_21 ((dQ_X1_reckon_6 0).trans dk_j0) ((dQ_X1_reckon_6 1).trans dk_j1) dk_vu1_4
theorem dX1_reckon_98 : decode cX1_reckon 98 = .ok (.iload 5, 2) := dk_21 ((dQ_X1_reckon_6 2).trans dk_j2) ((dQ_X1_reckon_6 3).trans dk_j3) dk_vu1_5
theorem dX1_reckon_100 : decode cX1_reckon 100 = .ok (.invokevirtual 44, 3) := dk_182 ((dQ_X1_reckon_6 4).trans dk_j4) ((dQ_X1_reckon_6 5).trans dk_j5) ((dQ_X1_reckon_6 6).trans dk_j6) dk_vu2_0_44
theorem dX1_reckon_103 : decode cX1_reckon 103 = .ok (.iinc 6 1, 3) := dk_132 ((dQ_X1_reckon_6 7).trans dk_j7) ((dQ_X1_reckon_6 8).trans dk_j8) ((dQ_X1_reckon_6 9).trans dk_j9) dk_vu1_6 dk_vs1_1
theorem dX1_reckon_106 : decode cX1_reckon 106 = .ok (.goto (-41), 3) := dk_167 ((dQ_X1_reckon_6 10).trans dk_j10) ((dQ_X1_reckon_6 11).trans dk_j11) ((dQ_X1_reckon_6 12).trans dk_j12) dk_vs2_255_215
theorem dX1_reckon_109 : decode cX1_reckon 109 = .ok (.return_, 1) := dk_177 ((dQ_X1_reckon_6 13).trans dk_j13)
def dT_X1_goOn_6 : List UInt8 := (0x00 : UInt8) :: (0x20 : UInt8) :: (0x16 : UInt8) :: (0x06 : UInt8) :: (0xb8 : UInt8) :: (0x00 : UInt8) :: (0x37 : UInt8) :: (0xb5 : UInt8) :: (0x00 : UInt8) :: (0x20 : UInt8) :: (0xb1 : UInt8) :: []
def dT_X1_goOn_5 : List UInt8 := (0x15 : UInt8) :: (0x09 : UInt8) :: (0x79 : UInt8) :: (0x61 : UInt8) :: (0x61 : UInt8) :: (0x37 : UInt8) :: (0x06 : UInt8) :: (0x84 : UInt8) :: (0x09 : UInt8) :: (0x01 : UInt8) :: (0xa7 : UInt8) :: (0xff : UInt8) :: (0xb4 : UInt8) :: (0x2a : UInt8) :: (0x2a : UInt8) :: (0xb4 : UInt8) :: dT_X1_goOn_6
def dT_X1_goOn_4 : List UInt8 := (0x09 : UInt8) :: (0x04 : UInt8) :: (0x60 : UInt8) :: (0x2f : UInt8) :: (0x16 : UInt8) :: (0x06 : UInt8) :: (0xb8 : UInt8) :: (0x00 : UInt8) :: (0x37 : UInt8) :: (0x50 : UInt8) :: (0x16 : UInt8) :: (0x06 : UInt8) :: (0x14 : UInt8) :: (0x00 : UInt8) :: (0x3a : UInt8) :: (0x0a : UInt8) :: dT_X1_goOn_5
def dT_X1_goOn_3 : List UInt8 := (0xa2 : UInt8) :: (0x00 : UInt8) :: (0x1a : UInt8) :: (0x2a : UInt8) :: (0xb4 : UInt8) :: (0x00 : UInt8) :: (0x09 : UInt8) :: (0x15 : UInt8) :: (0x09 : UInt8) :: (0x04 : UInt8) :: (0x60 : UInt8) :: (0x2a : UInt8) :: (0xb4 : UInt8) :: (0x00 : UInt8) :: (0x09 : UInt8) :: (0x15 : UInt8) :: dT_X1_goOn_4
def dT_X1_goOn_2 : List UInt8 := (0x08 : UInt8) :: (0x15 : UInt8) :: (0x08 : UInt8) :: (0x2b : UInt8) :: (0xb4 : UInt8) :: (0x00 : UInt8) :: (0x33 : UInt8) :: (0x1c : UInt8) :: (0x2e : UInt8) :: (0xa1 : UInt8) :: (0x00 : UInt8) :: (0x2e : UInt8) :: (0x15 : UInt8) :: (0x09 : UInt8) :: (0x15 : UInt8) :: (0x04 : UInt8) :: dT_X1_goOn_3
def dT_X1_goOn_1 : List UInt8 := (0x15 : UInt8) :: (0x05 : UInt8) :: (0xa3 : UInt8) :: (0x00 : UInt8) :: (0x4b : UInt8) :: (0x15 : UInt8) :: (0x08 : UInt8) :: (0x2b : UInt8) :: (0x1c : UInt8) :: (0x15 : UInt8) :: (0x09 : UInt8) :: (0xb6 : UInt8) :: (0x00 : UInt8) :: (0x30 : UInt8) :: (0x60 : UInt8) :: (0x36 : UInt8) :: dT_X1_goOn_2
def dT_X1_goOn_0 : List UInt8 := (0x2a : UInt8) :: (0xb4 : UInt8) :: (0x00 : UInt8) :: (0x09 : UInt8) :: (0x1d : UInt8) :: (0x2f : UInt8) :: (0x37 : UInt8) :: (0x06 : UInt8) :: (0x03 : UInt8) :: (0x36 : UInt8) :: (0x08 : UInt8) :: (0x1d : UInt8) :: (0x36 : UInt8) :: (0x09 : UInt8) :: (0x15 : UInt8) :: (0x09 : UInt8) :: dT_X1_goOn_1
theorem dT_X1_goOn : cX1_goOn.data.toList = dT_X1_goOn_0 := eq_of_beq (show (cX1_goOn.data.toList == dT_X1_goOn_0) = true by decide +kernel)
theorem dQ_X1_goOn_0 : dQ_P cX1_goOn 0 dT_X1_goOn_0 := fun i => by rw [dT_X1_goOn]; rfl
theorem dQ_X1_goOn_1 : dQ_P cX1_goOn 16 dT_X1_goOn_1 := fun i => (dQ_X1_goOn_0 (i + 16)).trans dk_t
theorem dQ_X1_goOn_2 : dQ_P cX1_goOn 32 dT_X1_goOn_2 := fun i => (dQ_X1_goOn_1 (i + 16)).trans dk_t
theorem dQ_X1_goOn_3 : dQ_P cX1_goOn 48 dT_X1_goOn_3 := fun i => (dQ_X1_goOn_2 (i + 16)).trans dk_t
theorem dQ_X1_goOn_4 : dQ_P cX1_goOn 64 dT_X1_goOn_4 := fun i => (dQ_X1_goOn_3 (i + 16)).trans dk_t
theorem dQ_X1_goOn_5 : dQ_P cX1_goOn 80 dT_X1_goOn_5 := fun i => (dQ_X1_goOn_4 (i + 16)).trans dk_t
theorem dQ_X1_goOn_6 : dQ_P cX1_goOn 96 dT_X1_goOn_6 := fun i => (dQ_X1_goOn_5 (i + 16)).trans dk_t
theorem dX1_goOn_0 : decode cX1_goOn 0 = .ok (.aload_n 0, 1) := dk_42 ((dQ_X1_goOn_0 0).trans dk_j0)
theorem dX1_goOn_1 : decode cX1_goOn 1 = .ok (.getfield 9, 3) := dk_180 ((dQ_X1_goOn_0 1).trans dk_j1) ((dQ_X1_goOn_0 2).trans dk_j2) ((dQ_X1_goOn_0 3).trans dk_j3) dk_vu2_0_9
theorem dX1_goOn_4 : decode cX1_goOn 4 = .ok (.iload_n 3, 1) := dk_29 ((dQ_X1_goOn_0 4).trans dk_j4)
theorem dX1_goOn_5 : decode cX1_goOn 5 = .ok (.laload, 1) := dk_47 ((dQ_X1_goOn_0 5).trans dk_j5)
theorem dX1_goOn_6 : decode cX1_goOn 6 = .ok (.lstore 6, 2) := dk_55 ((dQ_X1_goOn_0 6).trans dk_j6) ((dQ_X1_goOn_0 7).trans dk_j7) dk_vu1_6
theorem dX1_goOn_8 : decode cX1_goOn 8 = .ok (.iconst 0, 1) := dk_3 ((dQ_X1_goOn_0 8).trans dk_j8)
theorem dX1_goOn_9 : decode cX1_goOn 9 = .ok (.istore 8, 2) := dk_54 ((dQ_X1_goOn_0 9).trans dk_j9) ((dQ_X1_goOn_0 10).trans dk_j10) dk_vu1_8
theorem dX1_goOn_11 : decode cX1_goOn 11 = .ok (.iload_n 3, 1) := dk_29 ((dQ_X1_goOn_0 11).trans dk_j11)
theorem dX1_goOn_12 : decode cX1_goOn 12 = .ok (.istore 9, 2) := dk_54 ((dQ_X1_goOn_0 12).trans dk_j12) ((dQ_X1_goOn_0 13).trans dk_j13) dk_vu1_9
theorem dX1_goOn_14 : decode cX1_goOn 14 = .ok (.iload 9, 2) := dk_21 ((dQ_X1_goOn_0 14).trans dk_j14) ((dQ_X1_goOn_0 15).trans dk_j15) dk_vu1_9
theorem dX1_goOn_16 : decode cX1_goOn 16 = .ok (.iload 5, 2) := dk_21 ((dQ_X1_goOn_1 0).trans dk_j0) ((dQ_X1_goOn_1 1).trans dk_j1) dk_vu1_5
theorem dk_vs2_0_75 : Reader.signed 16 ((0x00 : UInt8).toNat * 256 + (0x4b : UInt8).toNat) = (75 : Int) := by decide +kernel
theorem dX1_goOn_18 : decode cX1_goOn 18 = .ok (.if_icmp .gt 75, 3) := dk_163 ((dQ_X1_goOn_1 2).trans dk_j2) ((dQ_X1_goOn_1 3).trans dk_j3) ((dQ_X1_goOn_1 4).trans dk_j4) dk_vs2_0_75
theorem dX1_goOn_21 : decode cX1_goOn 21 = .ok (.iload 8, 2) := dk_21 ((dQ_X1_goOn_1 5).trans dk_j5) ((dQ_X1_goOn_1 6).trans dk_j6) dk_vu1_8
theorem dX1_goOn_23 : decode cX1_goOn 23 = .ok (.aload_n 1, 1) := dk_43 ((dQ_X1_goOn_1 7).trans dk_j7)
theorem dX1_goOn_24 : decode cX1_goOn 24 = .ok (.iload_n 2, 1) := dk_28 ((dQ_X1_goOn_1 8).trans dk_j8)
theorem dX1_goOn_25 : decode cX1_goOn 25 = .ok (.iload 9, 2) := dk_21 ((dQ_X1_goOn_1 9).trans dk_j9) ((dQ_X1_goOn_1 10).trans dk_j10) dk_vu1_9
theorem dX1_goOn_27 : decode cX1_goOn 27 = .ok (.invokevirtual 48, 3) := dk_182 ((dQ_X1_goOn_1 11).trans dk_j11) ((dQ_X1_goOn_1 12).trans dk_j12) ((dQ_X1_goOn_1 13).trans dk_j13) dk_vu2_0_48
theorem dX1_goOn_30 : decode cX1_goOn 30 = .ok (.iadd, 1) := dk_96 ((dQ_X1_goOn_1 14).trans dk_j14)
theorem dX1_goOn_31 : decode cX1_goOn 31 = .ok (.istore 8, 2) := dk_54 ((dQ_X1_goOn_1 15).trans dk_j15) ((dQ_X1_goOn_2 0).trans dk_j0) dk_vu1_8
theorem dX1_goOn_33 : decode cX1_goOn 33 = .ok (.iload 8, 2) := dk_21 ((dQ_X1_goOn_2 1).trans dk_j1) ((dQ_X1_goOn_2 2).trans dk_j2) dk_vu1_8
theorem dX1_goOn_35 : decode cX1_goOn 35 = .ok (.aload_n 1, 1) := dk_43 ((dQ_X1_goOn_2 3).trans dk_j3)
theorem dX1_goOn_36 : decode cX1_goOn 36 = .ok (.getfield 51, 3) := dk_180 ((dQ_X1_goOn_2 4).trans dk_j4) ((dQ_X1_goOn_2 5).trans dk_j5) ((dQ_X1_goOn_2 6).trans dk_j6) dk_vu2_0_51
theorem dX1_goOn_39 : decode cX1_goOn 39 = .ok (.iload_n 2, 1) := dk_28 ((dQ_X1_goOn_2 7).trans dk_j7)
theorem dX1_goOn_40 : decode cX1_goOn 40 = .ok (.iaload, 1) := dk_46 ((dQ_X1_goOn_2 8).trans dk_j8)
theorem dk_vs2_0_46 : Reader.signed 16 ((0x00 : UInt8).toNat * 256 + (0x2e : UInt8).toNat) = (46 : Int) := by decide +kernel
theorem dX1_goOn_41 : decode cX1_goOn 41 = .ok (.if_icmp .lt 46, 3) := dk_161 ((dQ_X1_goOn_2 9).trans dk_j9) ((dQ_X1_goOn_2 10).trans dk_j10) ((dQ_X1_goOn_2 11).trans dk_j11) dk_vs2_0_46
theorem dX1_goOn_44 : decode cX1_goOn 44 = .ok (.iload 9, 2) := dk_21 ((dQ_X1_goOn_2 12).trans dk_j12) ((dQ_X1_goOn_2 13).trans dk_j13) dk_vu1_9
theorem dX1_goOn_46 : decode cX1_goOn 46 = .ok (.iload 4, 2) := dk_21 ((dQ_X1_goOn_2 14).trans dk_j14) ((dQ_X1_goOn_2 15).trans dk_j15) dk_vu1_4
theorem dX1_goOn_48 : decode cX1_goOn 48 = .ok (.if_icmp .ge 26, 3) := dk_162 ((dQ_X1_goOn_3 0).trans dk_j0) ((dQ_X1_goOn_3 1).trans dk_j1) ((dQ_X1_goOn_3 2).trans dk_j2) dk_vs2_0_26
theorem dX1_goOn_51 : decode cX1_goOn 51 = .ok (.aload_n 0, 1) := dk_42 ((dQ_X1_goOn_3 3).trans dk_j3)
theorem dX1_goOn_52 : decode cX1_goOn 52 = .ok (.getfield 9, 3) := dk_180 ((dQ_X1_goOn_3 4).trans dk_j4) ((dQ_X1_goOn_3 5).trans dk_j5) ((dQ_X1_goOn_3 6).trans dk_j6) dk_vu2_0_9
theorem dX1_goOn_55 : decode cX1_goOn 55 = .ok (.iload 9, 2) := dk_21 ((dQ_X1_goOn_3 7).trans dk_j7) ((dQ_X1_goOn_3 8).trans dk_j8) dk_vu1_9
theorem dX1_goOn_57 : decode cX1_goOn 57 = .ok (.iconst 1, 1) := dk_4 ((dQ_X1_goOn_3 9).trans dk_j9)
theorem dX1_goOn_58 : decode cX1_goOn 58 = .ok (.iadd, 1) := dk_96 ((dQ_X1_goOn_3 10).trans dk_j10)
theorem dX1_goOn_59 : decode cX1_goOn 59 = .ok (.aload_n 0, 1) := dk_42 ((dQ_X1_goOn_3 11).trans dk_j11)
theorem dX1_goOn_60 : decode cX1_goOn 60 = .ok (.getfield 9, 3) := dk_180 ((dQ_X1_goOn_3 12).trans dk_j12) ((dQ_X1_goOn_3 13).trans dk_j13) ((dQ_X1_goOn_3 14).trans dk_j14) dk_vu2_0_9
theorem dX1_goOn_63 : decode cX1_goOn 63 = .ok (.iload 9, 2) := dk_21 ((dQ_X1_goOn_3 15).trans dk_j15) ((dQ_X1_goOn_4 0).trans dk_j0) dk_vu1_9
theorem dX1_goOn_65 : decode cX1_goOn 65 = .ok (.iconst 1, 1) := dk_4 ((dQ_X1_goOn_4 1).trans dk_j1)
theorem dX1_goOn_66 : decode cX1_goOn 66 = .ok (.iadd, 1) := dk_96 ((dQ_X1_goOn_4 2).trans dk_j2)
theorem dX1_goOn_67 : decode cX1_goOn 67 = .ok (.laload, 1) := dk_47 ((dQ_X1_goOn_4 3).trans dk_j3)
theorem dX1_goOn_68 : decode cX1_goOn 68 = .ok (.lload 6, 2) := dk_22 ((dQ_X1_goOn_4 4).trans dk_j4) ((dQ_X1_goOn_4 5).trans dk_j5) dk_vu1_6
theorem dX1_goOn_70 : decode cX1_goOn 70 = .ok (.invokestatic 55, 3) := dk_184 ((dQ_X1_goOn_4 6).trans dk_j6) ((dQ_X1_goOn_4 7).trans dk_j7) ((dQ_X1_goOn_4 8).trans dk_j8) dk_vu2_0_55
theorem dX1_goOn_73 : decode cX1_goOn 73 = .ok (.lastore, 1) := dk_80 ((dQ_X1_goOn_4 9).trans dk_j9)
theorem dX1_goOn_74 : decode cX1_goOn 74 = .ok (.lload 6, 2) := dk_22 ((dQ_X1_goOn_4 10).trans dk_j10) ((dQ_X1_goOn_4 11).trans dk_j11) dk_vu1_6
theorem dX1_goOn_76 : decode cX1_goOn 76 = .ok (.ldc2_w 58, 3) := dk_20 ((dQ_X1_goOn_4 12).trans dk_j12) ((dQ_X1_goOn_4 13).trans dk_j13) ((dQ_X1_goOn_4 14).trans dk_j14) dk_vu2_0_58
theorem dX1_goOn_79 : decode cX1_goOn 79 = .ok (.lconst 1, 1) := dk_10 ((dQ_X1_goOn_4 15).trans dk_j15)
theorem dX1_goOn_80 : decode cX1_goOn 80 = .ok (.iload 9, 2) := dk_21 ((dQ_X1_goOn_5 0).trans dk_j0) ((dQ_X1_goOn_5 1).trans dk_j1) dk_vu1_9
theorem dX1_goOn_82 : decode cX1_goOn 82 = .ok (.lshl, 1) := dk_121 ((dQ_X1_goOn_5 2).trans dk_j2)
theorem dX1_goOn_83 : decode cX1_goOn 83 = .ok (.ladd, 1) := dk_97 ((dQ_X1_goOn_5 3).trans dk_j3)
theorem dX1_goOn_84 : decode cX1_goOn 84 = .ok (.ladd, 1) := dk_97 ((dQ_X1_goOn_5 4).trans dk_j4)
theorem dX1_goOn_85 : decode cX1_goOn 85 = .ok (.lstore 6, 2) := dk_55 ((dQ_X1_goOn_5 5).trans dk_j5) ((dQ_X1_goOn_5 6).trans dk_j6) dk_vu1_6
theorem dX1_goOn_87 : decode cX1_goOn 87 = .ok (.iinc 9 1, 3) := dk_132 ((dQ_X1_goOn_5 7).trans dk_j7) ((dQ_X1_goOn_5 8).trans dk_j8) ((dQ_X1_goOn_5 9).trans dk_j9) dk_vu1_9 dk_vs1_1
theorem dk_vs2_255_180 : Reader.signed 16 ((0xff : UInt8).toNat * 256 + (0xb4 : UInt8).toNat) = (-76 : Int) := by decide +kernel
theorem dX1_goOn_90 : decode cX1_goOn 90 = .ok (.goto (-76), 3) := dk_167 ((dQ_X1_goOn_5 10).trans dk_j10) ((dQ_X1_goOn_5 11).trans dk_j11) ((dQ_X1_goOn_5 12).trans dk_j12) dk_vs2_255_180
theorem dX1_goOn_93 : decode cX1_goOn 93 = .ok (.aload_n 0, 1) := dk_42 ((dQ_X1_goOn_5 13).trans dk_j13)
theorem dX1_goOn_94 : decode cX1_goOn 94 = .ok (.aload_n 0, 1) := dk_42 ((dQ_X1_goOn_5 14).trans dk_j14)
theorem dX1_goOn_95 : decode cX1_goOn 95 = .ok (.getfield 32, 3) := dk_180 ((dQ_X1_goOn_5 15).trans dk_j15) ((dQ_X1_goOn_6 0).trans dk_j0) ((dQ_X1_goOn_6 1).trans dk_j1) dk_vu2_0_32
theorem dX1_goOn_98 : decode cX1_goOn 98 = .ok (.lload 6, 2) := dk_22 ((dQ_X1_goOn_6 2).trans dk_j2) ((dQ_X1_goOn_6 3).trans dk_j3) dk_vu1_6
theorem dX1_goOn_100 : decode cX1_goOn 100 = .ok (.invokestatic 55, 3) := dk_184 ((dQ_X1_goOn_6 4).trans dk_j4) ((dQ_X1_goOn_6 5).trans dk_j5) ((dQ_X1_goOn_6 6).trans dk_j6) dk_vu2_0_55
theorem dX1_goOn_103 : decode cX1_goOn 103 = .ok (.putfield 32, 3) := dk_181 ((dQ_X1_goOn_6 7).trans dk_j7) ((dQ_X1_goOn_6 8).trans dk_j8) ((dQ_X1_goOn_6 9).trans dk_j9) dk_vu2_0_32
theorem dX1_goOn_106 : decode cX1_goOn 106 = .ok (.return_, 1) := dk_177 ((dQ_X1_goOn_6 10).trans dk_j10)
def dT_X1_fewest_0 : List UInt8 := (0x2a : UInt8) :: (0xb4 : UInt8) :: (0x00 : UInt8) :: (0x20 : UInt8) :: (0x14 : UInt8) :: (0x00 : UInt8) :: (0x3a : UInt8) :: (0x6d : UInt8) :: (0x88 : UInt8) :: (0xac : UInt8) :: []
theorem dT_X1_fewest : cX1_fewest.data.toList = dT_X1_fewest_0 := eq_of_beq (show (cX1_fewest.data.toList == dT_X1_fewest_0) = true by decide +kernel)
theorem dQ_X1_fewest_0 : dQ_P cX1_fewest 0 dT_X1_fewest_0 := fun i => by rw [dT_X1_fewest]; rfl
theorem dX1_fewest_0 : decode cX1_fewest 0 = .ok (.aload_n 0, 1) := dk_42 ((dQ_X1_fewest_0 0).trans dk_j0)
theorem dX1_fewest_1 : decode cX1_fewest 1 = .ok (.getfield 32, 3) := dk_180 ((dQ_X1_fewest_0 1).trans dk_j1) ((dQ_X1_fewest_0 2).trans dk_j2) ((dQ_X1_fewest_0 3).trans dk_j3) dk_vu2_0_32
theorem dX1_fewest_4 : decode cX1_fewest 4 = .ok (.ldc2_w 58, 3) := dk_20 ((dQ_X1_fewest_0 4).trans dk_j4) ((dQ_X1_fewest_0 5).trans dk_j5) ((dQ_X1_fewest_0 6).trans dk_j6) dk_vu2_0_58
theorem dX1_fewest_7 : decode cX1_fewest 7 = .ok (.ldiv, 1) := dk_109 ((dQ_X1_fewest_0 7).trans dk_j7)
theorem dX1_fewest_8 : decode cX1_fewest 8 = .ok (.l2i, 1) := dk_136 ((dQ_X1_fewest_0 8).trans dk_j8)
theorem dX1_fewest_9 : decode cX1_fewest 9 = .ok (.ireturn, 1) := dk_172 ((dQ_X1_fewest_0 9).trans dk_j9)
def dT_X1_minutesHeld_0 : List UInt8 := (0x2a : UInt8) :: (0xb4 : UInt8) :: (0x00 : UInt8) :: (0x20 : UInt8) :: (0x14 : UInt8) :: (0x00 : UInt8) :: (0x3a : UInt8) :: (0x71 : UInt8) :: (0x88 : UInt8) :: (0xac : UInt8) :: []
theorem dT_X1_minutesHeld : cX1_minutesHeld.data.toList = dT_X1_minutesHeld_0 := eq_of_beq (show (cX1_minutesHeld.data.toList == dT_X1_minutesHeld_0) = true by decide +kernel)
theorem dQ_X1_minutesHeld_0 : dQ_P cX1_minutesHeld 0 dT_X1_minutesHeld_0 := fun i => by rw [dT_X1_minutesHeld]; rfl
theorem dX1_minutesHeld_0 : decode cX1_minutesHeld 0 = .ok (.aload_n 0, 1) := dk_42 ((dQ_X1_minutesHeld_0 0).trans dk_j0)
theorem dX1_minutesHeld_1 : decode cX1_minutesHeld 1 = .ok (.getfield 32, 3) := dk_180 ((dQ_X1_minutesHeld_0 1).trans dk_j1) ((dQ_X1_minutesHeld_0 2).trans dk_j2) ((dQ_X1_minutesHeld_0 3).trans dk_j3) dk_vu2_0_32
theorem dX1_minutesHeld_4 : decode cX1_minutesHeld 4 = .ok (.ldc2_w 58, 3) := dk_20 ((dQ_X1_minutesHeld_0 4).trans dk_j4) ((dQ_X1_minutesHeld_0 5).trans dk_j5) ((dQ_X1_minutesHeld_0 6).trans dk_j6) dk_vu2_0_58
theorem dX1_minutesHeld_7 : decode cX1_minutesHeld 7 = .ok (.lrem, 1) := dk_113 ((dQ_X1_minutesHeld_0 7).trans dk_j7)
theorem dX1_minutesHeld_8 : decode cX1_minutesHeld 8 = .ok (.l2i, 1) := dk_136 ((dQ_X1_minutesHeld_0 8).trans dk_j8)
theorem dX1_minutesHeld_9 : decode cX1_minutesHeld 9 = .ok (.ireturn, 1) := dk_172 ((dQ_X1_minutesHeld_0 9).trans dk_j9)
def dT_X2_init_3 : List UInt8 := (0x0a : UInt8) :: (0xb5 : UInt8) :: (0x00 : UInt8) :: (0x1b : UInt8) :: (0xb1 : UInt8) :: []
def dT_X2_init_2 : List UInt8 := (0x0a : UInt8) :: (0xb5 : UInt8) :: (0x00 : UInt8) :: (0x15 : UInt8) :: (0x2a : UInt8) :: (0x10 : UInt8) :: (0x1e : UInt8) :: (0xbc : UInt8) :: (0x0a : UInt8) :: (0xb5 : UInt8) :: (0x00 : UInt8) :: (0x18 : UInt8) :: (0x2a : UInt8) :: (0x10 : UInt8) :: (0x78 : UInt8) :: (0xbc : UInt8) :: dT_X2_init_3
def dT_X2_init_1 : List UInt8 := (0x0a : UInt8) :: (0xb5 : UInt8) :: (0x00 : UInt8) :: (0x0f : UInt8) :: (0x2a : UInt8) :: (0x10 : UInt8) :: (0x0a : UInt8) :: (0xbc : UInt8) :: (0x0a : UInt8) :: (0xb5 : UInt8) :: (0x00 : UInt8) :: (0x12 : UInt8) :: (0x2a : UInt8) :: (0x10 : UInt8) :: (0x10 : UInt8) :: (0xbc : UInt8) :: dT_X2_init_2
def dT_X2_init_0 : List UInt8 := (0x2a : UInt8) :: (0xb7 : UInt8) :: (0x00 : UInt8) :: (0x03 : UInt8) :: (0x2a : UInt8) :: (0x10 : UInt8) :: (0x0b : UInt8) :: (0xbc : UInt8) :: (0x0a : UInt8) :: (0xb5 : UInt8) :: (0x00 : UInt8) :: (0x09 : UInt8) :: (0x2a : UInt8) :: (0x10 : UInt8) :: (0x0c : UInt8) :: (0xbc : UInt8) :: dT_X2_init_1
theorem dT_X2_init : cX2_init.data.toList = dT_X2_init_0 := eq_of_beq (show (cX2_init.data.toList == dT_X2_init_0) = true by decide +kernel)
theorem dQ_X2_init_0 : dQ_P cX2_init 0 dT_X2_init_0 := fun i => by rw [dT_X2_init]; rfl
theorem dQ_X2_init_1 : dQ_P cX2_init 16 dT_X2_init_1 := fun i => (dQ_X2_init_0 (i + 16)).trans dk_t
theorem dQ_X2_init_2 : dQ_P cX2_init 32 dT_X2_init_2 := fun i => (dQ_X2_init_1 (i + 16)).trans dk_t
theorem dQ_X2_init_3 : dQ_P cX2_init 48 dT_X2_init_3 := fun i => (dQ_X2_init_2 (i + 16)).trans dk_t
theorem dX2_init_0 : decode cX2_init 0 = .ok (.aload_n 0, 1) := dk_42 ((dQ_X2_init_0 0).trans dk_j0)
theorem dX2_init_1 : decode cX2_init 1 = .ok (.invokespecial 3, 3) := dk_183 ((dQ_X2_init_0 1).trans dk_j1) ((dQ_X2_init_0 2).trans dk_j2) ((dQ_X2_init_0 3).trans dk_j3) dk_vu2_0_3
theorem dX2_init_4 : decode cX2_init 4 = .ok (.aload_n 0, 1) := dk_42 ((dQ_X2_init_0 4).trans dk_j4)
theorem dX2_init_5 : decode cX2_init 5 = .ok (.bipush 11, 2) := dk_16 ((dQ_X2_init_0 5).trans dk_j5) ((dQ_X2_init_0 6).trans dk_j6) dk_vs1_11
theorem dX2_init_7 : decode cX2_init 7 = .ok (.newarray .int, 2) := by decide +kernel
theorem dX2_init_9 : decode cX2_init 9 = .ok (.putfield 9, 3) := dk_181 ((dQ_X2_init_0 9).trans dk_j9) ((dQ_X2_init_0 10).trans dk_j10) ((dQ_X2_init_0 11).trans dk_j11) dk_vu2_0_9
theorem dX2_init_12 : decode cX2_init 12 = .ok (.aload_n 0, 1) := dk_42 ((dQ_X2_init_0 12).trans dk_j12)
theorem dX2_init_13 : decode cX2_init 13 = .ok (.bipush 12, 2) := dk_16 ((dQ_X2_init_0 13).trans dk_j13) ((dQ_X2_init_0 14).trans dk_j14) dk_vs1_12
theorem dX2_init_15 : decode cX2_init 15 = .ok (.newarray .int, 2) := by decide +kernel
theorem dX2_init_17 : decode cX2_init 17 = .ok (.putfield 15, 3) := dk_181 ((dQ_X2_init_1 1).trans dk_j1) ((dQ_X2_init_1 2).trans dk_j2) ((dQ_X2_init_1 3).trans dk_j3) dk_vu2_0_15
theorem dX2_init_20 : decode cX2_init 20 = .ok (.aload_n 0, 1) := dk_42 ((dQ_X2_init_1 4).trans dk_j4)
theorem dX2_init_21 : decode cX2_init 21 = .ok (.bipush 10, 2) := dk_16 ((dQ_X2_init_1 5).trans dk_j5) ((dQ_X2_init_1 6).trans dk_j6) dk_vs1_10
theorem dX2_init_23 : decode cX2_init 23 = .ok (.newarray .int, 2) := by decide +kernel
theorem dk_vu2_0_18 : (0x00 : UInt8).toNat * 256 + (0x12 : UInt8).toNat = (18 : Nat) := by decide +kernel
theorem dX2_init_25 : decode cX2_init 25 = .ok (.putfield 18, 3) := dk_181 ((dQ_X2_init_1 9).trans dk_j9) ((dQ_X2_init_1 10).trans dk_j10) ((dQ_X2_init_1 11).trans dk_j11) dk_vu2_0_18
theorem dX2_init_28 : decode cX2_init 28 = .ok (.aload_n 0, 1) := dk_42 ((dQ_X2_init_1 12).trans dk_j12)
theorem dX2_init_29 : decode cX2_init 29 = .ok (.bipush 16, 2) := dk_16 ((dQ_X2_init_1 13).trans dk_j13) ((dQ_X2_init_1 14).trans dk_j14) dk_vs1_16
theorem dX2_init_31 : decode cX2_init 31 = .ok (.newarray .int, 2) := by decide +kernel
theorem dX2_init_33 : decode cX2_init 33 = .ok (.putfield 21, 3) := dk_181 ((dQ_X2_init_2 1).trans dk_j1) ((dQ_X2_init_2 2).trans dk_j2) ((dQ_X2_init_2 3).trans dk_j3) dk_vu2_0_21
theorem dX2_init_36 : decode cX2_init 36 = .ok (.aload_n 0, 1) := dk_42 ((dQ_X2_init_2 4).trans dk_j4)
theorem dX2_init_37 : decode cX2_init 37 = .ok (.bipush 30, 2) := dk_16 ((dQ_X2_init_2 5).trans dk_j5) ((dQ_X2_init_2 6).trans dk_j6) dk_vs1_30
theorem dX2_init_39 : decode cX2_init 39 = .ok (.newarray .int, 2) := by decide +kernel
theorem dX2_init_41 : decode cX2_init 41 = .ok (.putfield 24, 3) := dk_181 ((dQ_X2_init_2 9).trans dk_j9) ((dQ_X2_init_2 10).trans dk_j10) ((dQ_X2_init_2 11).trans dk_j11) dk_vu2_0_24
theorem dX2_init_44 : decode cX2_init 44 = .ok (.aload_n 0, 1) := dk_42 ((dQ_X2_init_2 12).trans dk_j12)
theorem dk_vs1_120 : Reader.signed 8 (0x78 : UInt8).toNat = (120 : Int) := by decide +kernel
theorem dX2_init_45 : decode cX2_init 45 = .ok (.bipush 120, 2) := dk_16 ((dQ_X2_init_2 13).trans dk_j13) ((dQ_X2_init_2 14).trans dk_j14) dk_vs1_120
theorem dX2_init_47 : decode cX2_init 47 = .ok (.newarray .int, 2) := by decide +kernel
theorem dX2_init_49 : decode cX2_init 49 = .ok (.putfield 27, 3) := dk_181 ((dQ_X2_init_3 1).trans dk_j1) ((dQ_X2_init_3 2).trans dk_j2) ((dQ_X2_init_3 3).trans dk_j3) dk_vu2_0_27
theorem dX2_init_52 : decode cX2_init 52 = .ok (.return_, 1) := dk_177 ((dQ_X2_init_3 4).trans dk_j4)
def dT_X2_clear_0 : List UInt8 := (0x2a : UInt8) :: (0xb4 : UInt8) :: (0x00 : UInt8) :: (0x09 : UInt8) :: (0x03 : UInt8) :: (0xb8 : UInt8) :: (0x00 : UInt8) :: (0x1e : UInt8) :: (0xb1 : UInt8) :: []
theorem dT_X2_clear : cX2_clear.data.toList = dT_X2_clear_0 := eq_of_beq (show (cX2_clear.data.toList == dT_X2_clear_0) = true by decide +kernel)
theorem dQ_X2_clear_0 : dQ_P cX2_clear 0 dT_X2_clear_0 := fun i => by rw [dT_X2_clear]; rfl
theorem dX2_clear_0 : decode cX2_clear 0 = .ok (.aload_n 0, 1) := dk_42 ((dQ_X2_clear_0 0).trans dk_j0)
theorem dX2_clear_1 : decode cX2_clear 1 = .ok (.getfield 9, 3) := dk_180 ((dQ_X2_clear_0 1).trans dk_j1) ((dQ_X2_clear_0 2).trans dk_j2) ((dQ_X2_clear_0 3).trans dk_j3) dk_vu2_0_9
theorem dX2_clear_4 : decode cX2_clear 4 = .ok (.iconst 0, 1) := dk_3 ((dQ_X2_clear_0 4).trans dk_j4)
theorem dX2_clear_5 : decode cX2_clear 5 = .ok (.invokestatic 30, 3) := dk_184 ((dQ_X2_clear_0 5).trans dk_j5) ((dQ_X2_clear_0 6).trans dk_j6) ((dQ_X2_clear_0 7).trans dk_j7) dk_vu2_0_30
theorem dX2_clear_8 : decode cX2_clear 8 = .ok (.return_, 1) := dk_177 ((dQ_X2_clear_0 8).trans dk_j8)
def dT_X2_copyFrom_6 : List UInt8 := (0xb4 : UInt8) :: (0x00 : UInt8) :: (0x1b : UInt8) :: (0x03 : UInt8) :: (0x2a : UInt8) :: (0xb4 : UInt8) :: (0x00 : UInt8) :: (0x1b : UInt8) :: (0xbe : UInt8) :: (0xb8 : UInt8) :: (0x00 : UInt8) :: (0x24 : UInt8) :: (0xb1 : UInt8) :: []
def dT_X2_copyFrom_5 : List UInt8 := (0x18 : UInt8) :: (0x03 : UInt8) :: (0x2a : UInt8) :: (0xb4 : UInt8) :: (0x00 : UInt8) :: (0x18 : UInt8) :: (0xbe : UInt8) :: (0xb8 : UInt8) :: (0x00 : UInt8) :: (0x24 : UInt8) :: (0x2b : UInt8) :: (0xb4 : UInt8) :: (0x00 : UInt8) :: (0x1b : UInt8) :: (0x03 : UInt8) :: (0x2a : UInt8) :: dT_X2_copyFrom_6
def dT_X2_copyFrom_4 : List UInt8 := (0x2a : UInt8) :: (0xb4 : UInt8) :: (0x00 : UInt8) :: (0x15 : UInt8) :: (0xbe : UInt8) :: (0xb8 : UInt8) :: (0x00 : UInt8) :: (0x24 : UInt8) :: (0x2b : UInt8) :: (0xb4 : UInt8) :: (0x00 : UInt8) :: (0x18 : UInt8) :: (0x03 : UInt8) :: (0x2a : UInt8) :: (0xb4 : UInt8) :: (0x00 : UInt8) :: dT_X2_copyFrom_5
def dT_X2_copyFrom_3 : List UInt8 := (0x00 : UInt8) :: (0x12 : UInt8) :: (0xbe : UInt8) :: (0xb8 : UInt8) :: (0x00 : UInt8) :: (0x24 : UInt8) :: (0x2b : UInt8) :: (0xb4 : UInt8) :: (0x00 : UInt8) :: (0x15 : UInt8) :: (0x03 : UInt8) :: (0x2a : UInt8) :: (0xb4 : UInt8) :: (0x00 : UInt8) :: (0x15 : UInt8) :: (0x03 : UInt8) :: dT_X2_copyFrom_4
def dT_X2_copyFrom_2 : List UInt8 := (0xbe : UInt8) :: (0xb8 : UInt8) :: (0x00 : UInt8) :: (0x24 : UInt8) :: (0x2b : UInt8) :: (0xb4 : UInt8) :: (0x00 : UInt8) :: (0x12 : UInt8) :: (0x03 : UInt8) :: (0x2a : UInt8) :: (0xb4 : UInt8) :: (0x00 : UInt8) :: (0x12 : UInt8) :: (0x03 : UInt8) :: (0x2a : UInt8) :: (0xb4 : UInt8) :: dT_X2_copyFrom_3
def dT_X2_copyFrom_1 : List UInt8 := (0x00 : UInt8) :: (0x24 : UInt8) :: (0x2b : UInt8) :: (0xb4 : UInt8) :: (0x00 : UInt8) :: (0x0f : UInt8) :: (0x03 : UInt8) :: (0x2a : UInt8) :: (0xb4 : UInt8) :: (0x00 : UInt8) :: (0x0f : UInt8) :: (0x03 : UInt8) :: (0x2a : UInt8) :: (0xb4 : UInt8) :: (0x00 : UInt8) :: (0x0f : UInt8) :: dT_X2_copyFrom_2
def dT_X2_copyFrom_0 : List UInt8 := (0x2b : UInt8) :: (0xb4 : UInt8) :: (0x00 : UInt8) :: (0x09 : UInt8) :: (0x03 : UInt8) :: (0x2a : UInt8) :: (0xb4 : UInt8) :: (0x00 : UInt8) :: (0x09 : UInt8) :: (0x03 : UInt8) :: (0x2a : UInt8) :: (0xb4 : UInt8) :: (0x00 : UInt8) :: (0x09 : UInt8) :: (0xbe : UInt8) :: (0xb8 : UInt8) :: dT_X2_copyFrom_1
theorem dT_X2_copyFrom : cX2_copyFrom.data.toList = dT_X2_copyFrom_0 := eq_of_beq (show (cX2_copyFrom.data.toList == dT_X2_copyFrom_0) = true by decide +kernel)
theorem dQ_X2_copyFrom_0 : dQ_P cX2_copyFrom 0 dT_X2_copyFrom_0 := fun i => by rw [dT_X2_copyFrom]; rfl
theorem dQ_X2_copyFrom_1 : dQ_P cX2_copyFrom 16 dT_X2_copyFrom_1 := fun i => (dQ_X2_copyFrom_0 (i + 16)).trans dk_t
theorem dQ_X2_copyFrom_2 : dQ_P cX2_copyFrom 32 dT_X2_copyFrom_2 := fun i => (dQ_X2_copyFrom_1 (i + 16)).trans dk_t
theorem dQ_X2_copyFrom_3 : dQ_P cX2_copyFrom 48 dT_X2_copyFrom_3 := fun i => (dQ_X2_copyFrom_2 (i + 16)).trans dk_t
theorem dQ_X2_copyFrom_4 : dQ_P cX2_copyFrom 64 dT_X2_copyFrom_4 := fun i => (dQ_X2_copyFrom_3 (i + 16)).trans dk_t
theorem dQ_X2_copyFrom_5 : dQ_P cX2_copyFrom 80 dT_X2_copyFrom_5 := fun i => (dQ_X2_copyFrom_4 (i + 16)).trans dk_t
theorem dQ_X2_copyFrom_6 : dQ_P cX2_copyFrom 96 dT_X2_copyFrom_6 := fun i => (dQ_X2_copyFrom_5 (i + 16)).trans dk_t
theorem dX2_copyFrom_0 : decode cX2_copyFrom 0 = .ok (.aload_n 1, 1) := dk_43 ((dQ_X2_copyFrom_0 0).trans dk_j0)
theorem dX2_copyFrom_1 : decode cX2_copyFrom 1 = .ok (.getfield 9, 3) := dk_180 ((dQ_X2_copyFrom_0 1).trans dk_j1) ((dQ_X2_copyFrom_0 2).trans dk_j2) ((dQ_X2_copyFrom_0 3).trans dk_j3) dk_vu2_0_9
theorem dX2_copyFrom_4 : decode cX2_copyFrom 4 = .ok (.iconst 0, 1) := dk_3 ((dQ_X2_copyFrom_0 4).trans dk_j4)
theorem dX2_copyFrom_5 : decode cX2_copyFrom 5 = .ok (.aload_n 0, 1) := dk_42 ((dQ_X2_copyFrom_0 5).trans dk_j5)
theorem dX2_copyFrom_6 : decode cX2_copyFrom 6 = .ok (.getfield 9, 3) := dk_180 ((dQ_X2_copyFrom_0 6).trans dk_j6) ((dQ_X2_copyFrom_0 7).trans dk_j7) ((dQ_X2_copyFrom_0 8).trans dk_j8) dk_vu2_0_9
theorem dX2_copyFrom_9 : decode cX2_copyFrom 9 = .ok (.iconst 0, 1) := dk_3 ((dQ_X2_copyFrom_0 9).trans dk_j9)
theorem dX2_copyFrom_10 : decode cX2_copyFrom 10 = .ok (.aload_n 0, 1) := dk_42 ((dQ_X2_copyFrom_0 10).trans dk_j10)
theorem dX2_copyFrom_11 : decode cX2_copyFrom 11 = .ok (.getfield 9, 3) := dk_180 ((dQ_X2_copyFrom_0 11).trans dk_j11) ((dQ_X2_copyFrom_0 12).trans dk_j12) ((dQ_X2_copyFrom_0 13).trans dk_j13) dk_vu2_0_9
theorem dX2_copyFrom_14 : decode cX2_copyFrom 14 = .ok (.arraylength, 1) := dk_190 ((dQ_X2_copyFrom_0 14).trans dk_j14)
theorem dX2_copyFrom_15 : decode cX2_copyFrom 15 = .ok (.invokestatic 36, 3) := dk_184 ((dQ_X2_copyFrom_0 15).trans dk_j15) ((dQ_X2_copyFrom_1 0).trans dk_j0) ((dQ_X2_copyFrom_1 1).trans dk_j1) dk_vu2_0_36
theorem dX2_copyFrom_18 : decode cX2_copyFrom 18 = .ok (.aload_n 1, 1) := dk_43 ((dQ_X2_copyFrom_1 2).trans dk_j2)
theorem dX2_copyFrom_19 : decode cX2_copyFrom 19 = .ok (.getfield 15, 3) := dk_180 ((dQ_X2_copyFrom_1 3).trans dk_j3) ((dQ_X2_copyFrom_1 4).trans dk_j4) ((dQ_X2_copyFrom_1 5).trans dk_j5) dk_vu2_0_15
theorem dX2_copyFrom_22 : decode cX2_copyFrom 22 = .ok (.iconst 0, 1) := dk_3 ((dQ_X2_copyFrom_1 6).trans dk_j6)
theorem dX2_copyFrom_23 : decode cX2_copyFrom 23 = .ok (.aload_n 0, 1) := dk_42 ((dQ_X2_copyFrom_1 7).trans dk_j7)
theorem dX2_copyFrom_24 : decode cX2_copyFrom 24 = .ok (.getfield 15, 3) := dk_180 ((dQ_X2_copyFrom_1 8).trans dk_j8) ((dQ_X2_copyFrom_1 9).trans dk_j9) ((dQ_X2_copyFrom_1 10).trans dk_j10) dk_vu2_0_15
theorem dX2_copyFrom_27 : decode cX2_copyFrom 27 = .ok (.iconst 0, 1) := dk_3 ((dQ_X2_copyFrom_1 11).trans dk_j11)
theorem dX2_copyFrom_28 : decode cX2_copyFrom 28 = .ok (.aload_n 0, 1) := dk_42 ((dQ_X2_copyFrom_1 12).trans dk_j12)
theorem dX2_copyFrom_29 : decode cX2_copyFrom 29 = .ok (.getfield 15, 3) := dk_180 ((dQ_X2_copyFrom_1 13).trans dk_j13) ((dQ_X2_copyFrom_1 14).trans dk_j14) ((dQ_X2_copyFrom_1 15).trans dk_j15) dk_vu2_0_15
theorem dX2_copyFrom_32 : decode cX2_copyFrom 32 = .ok (.arraylength, 1) := dk_190 ((dQ_X2_copyFrom_2 0).trans dk_j0)
theorem dX2_copyFrom_33 : decode cX2_copyFrom 33 = .ok (.invokestatic 36, 3) := dk_184 ((dQ_X2_copyFrom_2 1).trans dk_j1) ((dQ_X2_copyFrom_2 2).trans dk_j2) ((dQ_X2_copyFrom_2 3).trans dk_j3) dk_vu2_0_36
theorem dX2_copyFrom_36 : decode cX2_copyFrom 36 = .ok (.aload_n 1, 1) := dk_43 ((dQ_X2_copyFrom_2 4).trans dk_j4)
theorem dX2_copyFrom_37 : decode cX2_copyFrom 37 = .ok (.getfield 18, 3) := dk_180 ((dQ_X2_copyFrom_2 5).trans dk_j5) ((dQ_X2_copyFrom_2 6).trans dk_j6) ((dQ_X2_copyFrom_2 7).trans dk_j7) dk_vu2_0_18
theorem dX2_copyFrom_40 : decode cX2_copyFrom 40 = .ok (.iconst 0, 1) := dk_3 ((dQ_X2_copyFrom_2 8).trans dk_j8)
theorem dX2_copyFrom_41 : decode cX2_copyFrom 41 = .ok (.aload_n 0, 1) := dk_42 ((dQ_X2_copyFrom_2 9).trans dk_j9)
theorem dX2_copyFrom_42 : decode cX2_copyFrom 42 = .ok (.getfield 18, 3) := dk_180 ((dQ_X2_copyFrom_2 10).trans dk_j10) ((dQ_X2_copyFrom_2 11).trans dk_j11) ((dQ_X2_copyFrom_2 12).trans dk_j12) dk_vu2_0_18
theorem dX2_copyFrom_45 : decode cX2_copyFrom 45 = .ok (.iconst 0, 1) := dk_3 ((dQ_X2_copyFrom_2 13).trans dk_j13)
theorem dX2_copyFrom_46 : decode cX2_copyFrom 46 = .ok (.aload_n 0, 1) := dk_42 ((dQ_X2_copyFrom_2 14).trans dk_j14)
theorem dX2_copyFrom_47 : decode cX2_copyFrom 47 = .ok (.getfield 18, 3) := dk_180 ((dQ_X2_copyFrom_2 15).trans dk_j15) ((dQ_X2_copyFrom_3 0).trans dk_j0) ((dQ_X2_copyFrom_3 1).trans dk_j1) dk_vu2_0_18
theorem dX2_copyFrom_50 : decode cX2_copyFrom 50 = .ok (.arraylength, 1) := dk_190 ((dQ_X2_copyFrom_3 2).trans dk_j2)
theorem dX2_copyFrom_51 : decode cX2_copyFrom 51 = .ok (.invokestatic 36, 3) := dk_184 ((dQ_X2_copyFrom_3 3).trans dk_j3) ((dQ_X2_copyFrom_3 4).trans dk_j4) ((dQ_X2_copyFrom_3 5).trans dk_j5) dk_vu2_0_36
theorem dX2_copyFrom_54 : decode cX2_copyFrom 54 = .ok (.aload_n 1, 1) := dk_43 ((dQ_X2_copyFrom_3 6).trans dk_j6)
theorem dX2_copyFrom_55 : decode cX2_copyFrom 55 = .ok (.getfield 21, 3) := dk_180 ((dQ_X2_copyFrom_3 7).trans dk_j7) ((dQ_X2_copyFrom_3 8).trans dk_j8) ((dQ_X2_copyFrom_3 9).trans dk_j9) dk_vu2_0_21
theorem dX2_copyFrom_58 : decode cX2_copyFrom 58 = .ok (.iconst 0, 1) := dk_3 ((dQ_X2_copyFrom_3 10).trans dk_j10)
theorem dX2_copyFrom_59 : decode cX2_copyFrom 59 = .ok (.aload_n 0, 1) := dk_42 ((dQ_X2_copyFrom_3 11).trans dk_j11)
theorem dX2_copyFrom_60 : decode cX2_copyFrom 60 = .ok (.getfield 21, 3) := dk_180 ((dQ_X2_copyFrom_3 12).trans dk_j12) ((dQ_X2_copyFrom_3 13).trans dk_j13) ((dQ_X2_copyFrom_3 14).trans dk_j14) dk_vu2_0_21
theorem dX2_copyFrom_63 : decode cX2_copyFrom 63 = .ok (.iconst 0, 1) := dk_3 ((dQ_X2_copyFrom_3 15).trans dk_j15)
theorem dX2_copyFrom_64 : decode cX2_copyFrom 64 = .ok (.aload_n 0, 1) := dk_42 ((dQ_X2_copyFrom_4 0).trans dk_j0)
theorem dX2_copyFrom_65 : decode cX2_copyFrom 65 = .ok (.getfield 21, 3) := dk_180 ((dQ_X2_copyFrom_4 1).trans dk_j1) ((dQ_X2_copyFrom_4 2).trans dk_j2) ((dQ_X2_copyFrom_4 3).trans dk_j3) dk_vu2_0_21
theorem dX2_copyFrom_68 : decode cX2_copyFrom 68 = .ok (.arraylength, 1) := dk_190 ((dQ_X2_copyFrom_4 4).trans dk_j4)
theorem dX2_copyFrom_69 : decode cX2_copyFrom 69 = .ok (.invokestatic 36, 3) := dk_184 ((dQ_X2_copyFrom_4 5).trans dk_j5) ((dQ_X2_copyFrom_4 6).trans dk_j6) ((dQ_X2_copyFrom_4 7).trans dk_j7) dk_vu2_0_36
theorem dX2_copyFrom_72 : decode cX2_copyFrom 72 = .ok (.aload_n 1, 1) := dk_43 ((dQ_X2_copyFrom_4 8).trans dk_j8)
theorem dX2_copyFrom_73 : decode cX2_copyFrom 73 = .ok (.getfield 24, 3) := dk_180 ((dQ_X2_copyFrom_4 9).trans dk_j9) ((dQ_X2_copyFrom_4 10).trans dk_j10) ((dQ_X2_copyFrom_4 11).trans dk_j11) dk_vu2_0_24
theorem dX2_copyFrom_76 : decode cX2_copyFrom 76 = .ok (.iconst 0, 1) := dk_3 ((dQ_X2_copyFrom_4 12).trans dk_j12)
theorem dX2_copyFrom_77 : decode cX2_copyFrom 77 = .ok (.aload_n 0, 1) := dk_42 ((dQ_X2_copyFrom_4 13).trans dk_j13)
theorem dX2_copyFrom_78 : decode cX2_copyFrom 78 = .ok (.getfield 24, 3) := dk_180 ((dQ_X2_copyFrom_4 14).trans dk_j14) ((dQ_X2_copyFrom_4 15).trans dk_j15) ((dQ_X2_copyFrom_5 0).trans dk_j0) dk_vu2_0_24
theorem dX2_copyFrom_81 : decode cX2_copyFrom 81 = .ok (.iconst 0, 1) := dk_3 ((dQ_X2_copyFrom_5 1).trans dk_j1)
theorem dX2_copyFrom_82 : decode cX2_copyFrom 82 = .ok (.aload_n 0, 1) := dk_42 ((dQ_X2_copyFrom_5 2).trans dk_j2)
theorem dX2_copyFrom_83 : decode cX2_copyFrom 83 = .ok (.getfield 24, 3) := dk_180 ((dQ_X2_copyFrom_5 3).trans dk_j3) ((dQ_X2_copyFrom_5 4).trans dk_j4) ((dQ_X2_copyFrom_5 5).trans dk_j5) dk_vu2_0_24
theorem dX2_copyFrom_86 : decode cX2_copyFrom 86 = .ok (.arraylength, 1) := dk_190 ((dQ_X2_copyFrom_5 6).trans dk_j6)
theorem dX2_copyFrom_87 : decode cX2_copyFrom 87 = .ok (.invokestatic 36, 3) := dk_184 ((dQ_X2_copyFrom_5 7).trans dk_j7) ((dQ_X2_copyFrom_5 8).trans dk_j8) ((dQ_X2_copyFrom_5 9).trans dk_j9) dk_vu2_0_36
theorem dX2_copyFrom_90 : decode cX2_copyFrom 90 = .ok (.aload_n 1, 1) := dk_43 ((dQ_X2_copyFrom_5 10).trans dk_j10)
theorem dX2_copyFrom_91 : decode cX2_copyFrom 91 = .ok (.getfield 27, 3) := dk_180 ((dQ_X2_copyFrom_5 11).trans dk_j11) ((dQ_X2_copyFrom_5 12).trans dk_j12) ((dQ_X2_copyFrom_5 13).trans dk_j13) dk_vu2_0_27
theorem dX2_copyFrom_94 : decode cX2_copyFrom 94 = .ok (.iconst 0, 1) := dk_3 ((dQ_X2_copyFrom_5 14).trans dk_j14)
theorem dX2_copyFrom_95 : decode cX2_copyFrom 95 = .ok (.aload_n 0, 1) := dk_42 ((dQ_X2_copyFrom_5 15).trans dk_j15)
theorem dX2_copyFrom_96 : decode cX2_copyFrom 96 = .ok (.getfield 27, 3) := dk_180 ((dQ_X2_copyFrom_6 0).trans dk_j0) ((dQ_X2_copyFrom_6 1).trans dk_j1) ((dQ_X2_copyFrom_6 2).trans dk_j2) dk_vu2_0_27
theorem dX2_copyFrom_99 : decode cX2_copyFrom 99 = .ok (.iconst 0, 1) := dk_3 ((dQ_X2_copyFrom_6 3).trans dk_j3)
theorem dX2_copyFrom_100 : decode cX2_copyFrom 100 = .ok (.aload_n 0, 1) := dk_42 ((dQ_X2_copyFrom_6 4).trans dk_j4)
theorem dX2_copyFrom_101 : decode cX2_copyFrom 101 = .ok (.getfield 27, 3) := dk_180 ((dQ_X2_copyFrom_6 5).trans dk_j5) ((dQ_X2_copyFrom_6 6).trans dk_j6) ((dQ_X2_copyFrom_6 7).trans dk_j7) dk_vu2_0_27
theorem dX2_copyFrom_104 : decode cX2_copyFrom 104 = .ok (.arraylength, 1) := dk_190 ((dQ_X2_copyFrom_6 8).trans dk_j8)
theorem dX2_copyFrom_105 : decode cX2_copyFrom 105 = .ok (.invokestatic 36, 3) := dk_184 ((dQ_X2_copyFrom_6 9).trans dk_j9) ((dQ_X2_copyFrom_6 10).trans dk_j10) ((dQ_X2_copyFrom_6 11).trans dk_j11) dk_vu2_0_36
theorem dX2_copyFrom_108 : decode cX2_copyFrom 108 = .ok (.return_, 1) := dk_177 ((dQ_X2_copyFrom_6 12).trans dk_j12)
def dT_X2_ofPolicy_0 : List UInt8 := (0x2a : UInt8) :: (0xb4 : UInt8) :: (0x00 : UInt8) :: (0x18 : UInt8) :: (0x08 : UInt8) :: (0x1b : UInt8) :: (0x68 : UInt8) :: (0x1c : UInt8) :: (0x60 : UInt8) :: (0x2e : UInt8) :: (0xac : UInt8) :: []
theorem dT_X2_ofPolicy : cX2_ofPolicy.data.toList = dT_X2_ofPolicy_0 := eq_of_beq (show (cX2_ofPolicy.data.toList == dT_X2_ofPolicy_0) = true by decide +kernel)
theorem dQ_X2_ofPolicy_0 : dQ_P cX2_ofPolicy 0 dT_X2_ofPolicy_0 := fun i => by rw [dT_X2_ofPolicy]; rfl
theorem dX2_ofPolicy_0 : decode cX2_ofPolicy 0 = .ok (.aload_n 0, 1) := dk_42 ((dQ_X2_ofPolicy_0 0).trans dk_j0)
theorem dX2_ofPolicy_1 : decode cX2_ofPolicy 1 = .ok (.getfield 24, 3) := dk_180 ((dQ_X2_ofPolicy_0 1).trans dk_j1) ((dQ_X2_ofPolicy_0 2).trans dk_j2) ((dQ_X2_ofPolicy_0 3).trans dk_j3) dk_vu2_0_24
theorem dX2_ofPolicy_4 : decode cX2_ofPolicy 4 = .ok (.iconst 5, 1) := dk_8 ((dQ_X2_ofPolicy_0 4).trans dk_j4)
theorem dX2_ofPolicy_5 : decode cX2_ofPolicy 5 = .ok (.iload_n 1, 1) := dk_27 ((dQ_X2_ofPolicy_0 5).trans dk_j5)
theorem dX2_ofPolicy_6 : decode cX2_ofPolicy 6 = .ok (.imul, 1) := dk_104 ((dQ_X2_ofPolicy_0 6).trans dk_j6)
theorem dX2_ofPolicy_7 : decode cX2_ofPolicy 7 = .ok (.iload_n 2, 1) := dk_28 ((dQ_X2_ofPolicy_0 7).trans dk_j7)
theorem dX2_ofPolicy_8 : decode cX2_ofPolicy 8 = .ok (.iadd, 1) := dk_96 ((dQ_X2_ofPolicy_0 8).trans dk_j8)
theorem dX2_ofPolicy_9 : decode cX2_ofPolicy 9 = .ok (.iaload, 1) := dk_46 ((dQ_X2_ofPolicy_0 9).trans dk_j9)
theorem dX2_ofPolicy_10 : decode cX2_ofPolicy 10 = .ok (.ireturn, 1) := dk_172 ((dQ_X2_ofPolicy_0 10).trans dk_j10)
def dT_X2_window_1 : List UInt8 := (0xb4 : UInt8) :: (0x00 : UInt8) :: (0x18 : UInt8) :: (0x1c : UInt8) :: (0x04 : UInt8) :: (0x60 : UInt8) :: (0x2e : UInt8) :: (0x78 : UInt8) :: (0x64 : UInt8) :: (0xac : UInt8) :: []
def dT_X2_window_0 : List UInt8 := (0x08 : UInt8) :: (0x1b : UInt8) :: (0x68 : UInt8) :: (0x3d : UInt8) :: (0x05 : UInt8) :: (0x2a : UInt8) :: (0xb4 : UInt8) :: (0x00 : UInt8) :: (0x18 : UInt8) :: (0x1c : UInt8) :: (0x05 : UInt8) :: (0x60 : UInt8) :: (0x2e : UInt8) :: (0x78 : UInt8) :: (0x04 : UInt8) :: (0x2a : UInt8) :: dT_X2_window_1
theorem dT_X2_window : cX2_window.data.toList = dT_X2_window_0 := eq_of_beq (show (cX2_window.data.toList == dT_X2_window_0) = true by decide +kernel)
theorem dQ_X2_window_0 : dQ_P cX2_window 0 dT_X2_window_0 := fun i => by rw [dT_X2_window]; rfl
theorem dQ_X2_window_1 : dQ_P cX2_window 16 dT_X2_window_1 := fun i => (dQ_X2_window_0 (i + 16)).trans dk_t
theorem dX2_window_0 : decode cX2_window 0 = .ok (.iconst 5, 1) := dk_8 ((dQ_X2_window_0 0).trans dk_j0)
theorem dX2_window_1 : decode cX2_window 1 = .ok (.iload_n 1, 1) := dk_27 ((dQ_X2_window_0 1).trans dk_j1)
theorem dX2_window_2 : decode cX2_window 2 = .ok (.imul, 1) := dk_104 ((dQ_X2_window_0 2).trans dk_j2)
theorem dX2_window_3 : decode cX2_window 3 = .ok (.istore_n 2, 1) := dk_61 ((dQ_X2_window_0 3).trans dk_j3)
theorem dX2_window_4 : decode cX2_window 4 = .ok (.iconst 2, 1) := dk_5 ((dQ_X2_window_0 4).trans dk_j4)
theorem dX2_window_5 : decode cX2_window 5 = .ok (.aload_n 0, 1) := dk_42 ((dQ_X2_window_0 5).trans dk_j5)
theorem dX2_window_6 : decode cX2_window 6 = .ok (.getfield 24, 3) := dk_180 ((dQ_X2_window_0 6).trans dk_j6) ((dQ_X2_window_0 7).trans dk_j7) ((dQ_X2_window_0 8).trans dk_j8) dk_vu2_0_24
theorem dX2_window_9 : decode cX2_window 9 = .ok (.iload_n 2, 1) := dk_28 ((dQ_X2_window_0 9).trans dk_j9)
theorem dX2_window_10 : decode cX2_window 10 = .ok (.iconst 2, 1) := dk_5 ((dQ_X2_window_0 10).trans dk_j10)
theorem dX2_window_11 : decode cX2_window 11 = .ok (.iadd, 1) := dk_96 ((dQ_X2_window_0 11).trans dk_j11)
theorem dX2_window_12 : decode cX2_window 12 = .ok (.iaload, 1) := dk_46 ((dQ_X2_window_0 12).trans dk_j12)
theorem dX2_window_13 : decode cX2_window 13 = .ok (.ishl, 1) := dk_120 ((dQ_X2_window_0 13).trans dk_j13)
theorem dX2_window_14 : decode cX2_window 14 = .ok (.iconst 1, 1) := dk_4 ((dQ_X2_window_0 14).trans dk_j14)
theorem dX2_window_15 : decode cX2_window 15 = .ok (.aload_n 0, 1) := dk_42 ((dQ_X2_window_0 15).trans dk_j15)
theorem dX2_window_16 : decode cX2_window 16 = .ok (.getfield 24, 3) := dk_180 ((dQ_X2_window_1 0).trans dk_j0) ((dQ_X2_window_1 1).trans dk_j1) ((dQ_X2_window_1 2).trans dk_j2) dk_vu2_0_24
theorem dX2_window_19 : decode cX2_window 19 = .ok (.iload_n 2, 1) := dk_28 ((dQ_X2_window_1 3).trans dk_j3)
theorem dX2_window_20 : decode cX2_window 20 = .ok (.iconst 1, 1) := dk_4 ((dQ_X2_window_1 4).trans dk_j4)
theorem dX2_window_21 : decode cX2_window 21 = .ok (.iadd, 1) := dk_96 ((dQ_X2_window_1 5).trans dk_j5)
theorem dX2_window_22 : decode cX2_window 22 = .ok (.iaload, 1) := dk_46 ((dQ_X2_window_1 6).trans dk_j6)
theorem dX2_window_23 : decode cX2_window 23 = .ok (.ishl, 1) := dk_120 ((dQ_X2_window_1 7).trans dk_j7)
theorem dX2_window_24 : decode cX2_window 24 = .ok (.isub, 1) := dk_100 ((dQ_X2_window_1 8).trans dk_j8)
theorem dX2_window_25 : decode cX2_window 25 = .ok (.ireturn, 1) := dk_172 ((dQ_X2_window_1 9).trans dk_j9)
def dT_X2_gustMinutes_2 : List UInt8 := (0x01 : UInt8) :: (0xa7 : UInt8) :: (0xff : UInt8) :: (0xe3 : UInt8) :: (0x1b : UInt8) :: (0xac : UInt8) :: []
def dT_X2_gustMinutes_1 : List UInt8 := (0x04 : UInt8) :: (0x2a : UInt8) :: (0xb4 : UInt8) :: (0x00 : UInt8) :: (0x12 : UInt8) :: (0x05 : UInt8) :: (0x1c : UInt8) :: (0x68 : UInt8) :: (0x04 : UInt8) :: (0x60 : UInt8) :: (0x2e : UInt8) :: (0x78 : UInt8) :: (0x80 : UInt8) :: (0x3c : UInt8) :: (0x84 : UInt8) :: (0x02 : UInt8) :: dT_X2_gustMinutes_2
def dT_X2_gustMinutes_0 : List UInt8 := (0x03 : UInt8) :: (0x3c : UInt8) :: (0x03 : UInt8) :: (0x3d : UInt8) :: (0x1c : UInt8) :: (0x2a : UInt8) :: (0xb4 : UInt8) :: (0x00 : UInt8) :: (0x09 : UInt8) :: (0x10 : UInt8) :: (0x06 : UInt8) :: (0x2e : UInt8) :: (0xa2 : UInt8) :: (0x00 : UInt8) :: (0x18 : UInt8) :: (0x1b : UInt8) :: dT_X2_gustMinutes_1
theorem dT_X2_gustMinutes : cX2_gustMinutes.data.toList = dT_X2_gustMinutes_0 := eq_of_beq (show (cX2_gustMinutes.data.toList == dT_X2_gustMinutes_0) = true by decide +kernel)
theorem dQ_X2_gustMinutes_0 : dQ_P cX2_gustMinutes 0 dT_X2_gustMinutes_0 := fun i => by rw [dT_X2_gustMinutes]; rfl
theorem dQ_X2_gustMinutes_1 : dQ_P cX2_gustMinutes 16 dT_X2_gustMinutes_1 := fun i => (dQ_X2_gustMinutes_0 (i + 16)).trans dk_t
theorem dQ_X2_gustMinutes_2 : dQ_P cX2_gustMinutes 32 dT_X2_gustMinutes_2 := fun i => (dQ_X2_gustMinutes_1 (i + 16)).trans dk_t
theorem dX2_gustMinutes_0 : decode cX2_gustMinutes 0 = .ok (.iconst 0, 1) := dk_3 ((dQ_X2_gustMinutes_0 0).trans dk_j0)
theorem dX2_gustMinutes_1 : decode cX2_gustMinutes 1 = .ok (.istore_n 1, 1) := dk_60 ((dQ_X2_gustMinutes_0 1).trans dk_j1)
theorem dX2_gustMinutes_2 : decode cX2_gustMinutes 2 = .ok (.iconst 0, 1) := dk_3 ((dQ_X2_gustMinutes_0 2).trans dk_j2)
theorem dX2_gustMinutes_3 : decode cX2_gustMinutes 3 = .ok (.istore_n 2, 1) := dk_61 ((dQ_X2_gustMinutes_0 3).trans dk_j3)
theorem dX2_gustMinutes_4 : decode cX2_gustMinutes 4 = .ok (.iload_n 2, 1) := dk_28 ((dQ_X2_gustMinutes_0 4).trans dk_j4)
theorem dX2_gustMinutes_5 : decode cX2_gustMinutes 5 = .ok (.aload_n 0, 1) := dk_42 ((dQ_X2_gustMinutes_0 5).trans dk_j5)
theorem dX2_gustMinutes_6 : decode cX2_gustMinutes 6 = .ok (.getfield 9, 3) := dk_180 ((dQ_X2_gustMinutes_0 6).trans dk_j6) ((dQ_X2_gustMinutes_0 7).trans dk_j7) ((dQ_X2_gustMinutes_0 8).trans dk_j8) dk_vu2_0_9
theorem dX2_gustMinutes_9 : decode cX2_gustMinutes 9 = .ok (.bipush 6, 2) := dk_16 ((dQ_X2_gustMinutes_0 9).trans dk_j9) ((dQ_X2_gustMinutes_0 10).trans dk_j10) dk_vs1_6
theorem dX2_gustMinutes_11 : decode cX2_gustMinutes 11 = .ok (.iaload, 1) := dk_46 ((dQ_X2_gustMinutes_0 11).trans dk_j11)
theorem dX2_gustMinutes_12 : decode cX2_gustMinutes 12 = .ok (.if_icmp .ge 24, 3) := dk_162 ((dQ_X2_gustMinutes_0 12).trans dk_j12) ((dQ_X2_gustMinutes_0 13).trans dk_j13) ((dQ_X2_gustMinutes_0 14).trans dk_j14) dk_vs2_0_24
theorem dX2_gustMinutes_15 : decode cX2_gustMinutes 15 = .ok (.iload_n 1, 1) := dk_27 ((dQ_X2_gustMinutes_0 15).trans dk_j15)
theorem dX2_gustMinutes_16 : decode cX2_gustMinutes 16 = .ok (.iconst 1, 1) := dk_4 ((dQ_X2_gustMinutes_1 0).trans dk_j0)
theorem dX2_gustMinutes_17 : decode cX2_gustMinutes 17 = .ok (.aload_n 0, 1) := dk_42 ((dQ_X2_gustMinutes_1 1).trans dk_j1)
theorem dX2_gustMinutes_18 : decode cX2_gustMinutes 18 = .ok (.getfield 18, 3) := dk_180 ((dQ_X2_gustMinutes_1 2).trans dk_j2) ((dQ_X2_gustMinutes_1 3).trans dk_j3) ((dQ_X2_gustMinutes_1 4).trans dk_j4) dk_vu2_0_18
theorem dX2_gustMinutes_21 : decode cX2_gustMinutes 21 = .ok (.iconst 2, 1) := dk_5 ((dQ_X2_gustMinutes_1 5).trans dk_j5)
theorem dX2_gustMinutes_22 : decode cX2_gustMinutes 22 = .ok (.iload_n 2, 1) := dk_28 ((dQ_X2_gustMinutes_1 6).trans dk_j6)
theorem dX2_gustMinutes_23 : decode cX2_gustMinutes 23 = .ok (.imul, 1) := dk_104 ((dQ_X2_gustMinutes_1 7).trans dk_j7)
theorem dX2_gustMinutes_24 : decode cX2_gustMinutes 24 = .ok (.iconst 1, 1) := dk_4 ((dQ_X2_gustMinutes_1 8).trans dk_j8)
theorem dX2_gustMinutes_25 : decode cX2_gustMinutes 25 = .ok (.iadd, 1) := dk_96 ((dQ_X2_gustMinutes_1 9).trans dk_j9)
theorem dX2_gustMinutes_26 : decode cX2_gustMinutes 26 = .ok (.iaload, 1) := dk_46 ((dQ_X2_gustMinutes_1 10).trans dk_j10)
theorem dX2_gustMinutes_27 : decode cX2_gustMinutes 27 = .ok (.ishl, 1) := dk_120 ((dQ_X2_gustMinutes_1 11).trans dk_j11)
theorem dX2_gustMinutes_28 : decode cX2_gustMinutes 28 = .ok (.ior, 1) := dk_128 ((dQ_X2_gustMinutes_1 12).trans dk_j12)
theorem dX2_gustMinutes_29 : decode cX2_gustMinutes 29 = .ok (.istore_n 1, 1) := dk_60 ((dQ_X2_gustMinutes_1 13).trans dk_j13)
theorem dX2_gustMinutes_30 : decode cX2_gustMinutes 30 = .ok (.iinc 2 1, 3) := dk_132 ((dQ_X2_gustMinutes_1 14).trans dk_j14) ((dQ_X2_gustMinutes_1 15).trans dk_j15) ((dQ_X2_gustMinutes_2 0).trans dk_j0) dk_vu1_2 dk_vs1_1
theorem dk_vs2_255_227 : Reader.signed 16 ((0xff : UInt8).toNat * 256 + (0xe3 : UInt8).toNat) = (-29 : Int) := by decide +kernel
theorem dX2_gustMinutes_33 : decode cX2_gustMinutes 33 = .ok (.goto (-29), 3) := dk_167 ((dQ_X2_gustMinutes_2 1).trans dk_j1) ((dQ_X2_gustMinutes_2 2).trans dk_j2) ((dQ_X2_gustMinutes_2 3).trans dk_j3) dk_vs2_255_227
theorem dX2_gustMinutes_36 : decode cX2_gustMinutes 36 = .ok (.iload_n 1, 1) := dk_27 ((dQ_X2_gustMinutes_2 4).trans dk_j4)
theorem dX2_gustMinutes_37 : decode cX2_gustMinutes 37 = .ok (.ireturn, 1) := dk_172 ((dQ_X2_gustMinutes_2 5).trans dk_j5)
def dT_X2_neighbours_4 : List UInt8 := (0x68 : UInt8) :: (0x2e : UInt8) :: (0x78 : UInt8) :: (0x80 : UInt8) :: (0x3d : UInt8) :: (0x84 : UInt8) :: (0x03 : UInt8) :: (0x01 : UInt8) :: (0xa7 : UInt8) :: (0xff : UInt8) :: (0xbc : UInt8) :: (0x1c : UInt8) :: (0xac : UInt8) :: []
def dT_X2_neighbours_3 : List UInt8 := (0x68 : UInt8) :: (0x04 : UInt8) :: (0x60 : UInt8) :: (0x2e : UInt8) :: (0x1b : UInt8) :: (0xa0 : UInt8) :: (0x00 : UInt8) :: (0x10 : UInt8) :: (0x1c : UInt8) :: (0x04 : UInt8) :: (0x2a : UInt8) :: (0xb4 : UInt8) :: (0x00 : UInt8) :: (0x15 : UInt8) :: (0x05 : UInt8) :: (0x1d : UInt8) :: dT_X2_neighbours_4
def dT_X2_neighbours_2 : List UInt8 := (0x15 : UInt8) :: (0x05 : UInt8) :: (0x1d : UInt8) :: (0x68 : UInt8) :: (0x04 : UInt8) :: (0x60 : UInt8) :: (0x2e : UInt8) :: (0x78 : UInt8) :: (0x80 : UInt8) :: (0x3d : UInt8) :: (0x2a : UInt8) :: (0xb4 : UInt8) :: (0x00 : UInt8) :: (0x15 : UInt8) :: (0x05 : UInt8) :: (0x1d : UInt8) :: dT_X2_neighbours_3
def dT_X2_neighbours_1 : List UInt8 := (0xb4 : UInt8) :: (0x00 : UInt8) :: (0x15 : UInt8) :: (0x05 : UInt8) :: (0x1d : UInt8) :: (0x68 : UInt8) :: (0x2e : UInt8) :: (0x1b : UInt8) :: (0xa0 : UInt8) :: (0x00 : UInt8) :: (0x12 : UInt8) :: (0x1c : UInt8) :: (0x04 : UInt8) :: (0x2a : UInt8) :: (0xb4 : UInt8) :: (0x00 : UInt8) :: dT_X2_neighbours_2
def dT_X2_neighbours_0 : List UInt8 := (0x03 : UInt8) :: (0x3d : UInt8) :: (0x03 : UInt8) :: (0x3e : UInt8) :: (0x1d : UInt8) :: (0x2a : UInt8) :: (0xb4 : UInt8) :: (0x00 : UInt8) :: (0x09 : UInt8) :: (0x10 : UInt8) :: (0x07 : UInt8) :: (0x2e : UInt8) :: (0xa2 : UInt8) :: (0x00 : UInt8) :: (0x3f : UInt8) :: (0x2a : UInt8) :: dT_X2_neighbours_1
theorem dT_X2_neighbours : cX2_neighbours.data.toList = dT_X2_neighbours_0 := eq_of_beq (show (cX2_neighbours.data.toList == dT_X2_neighbours_0) = true by decide +kernel)
theorem dQ_X2_neighbours_0 : dQ_P cX2_neighbours 0 dT_X2_neighbours_0 := fun i => by rw [dT_X2_neighbours]; rfl
theorem dQ_X2_neighbours_1 : dQ_P cX2_neighbours 16 dT_X2_neighbours_1 := fun i => (dQ_X2_neighbours_0 (i + 16)).trans dk_t
theorem dQ_X2_neighbours_2 : dQ_P cX2_neighbours 32 dT_X2_neighbours_2 := fun i => (dQ_X2_neighbours_1 (i + 16)).trans dk_t
theorem dQ_X2_neighbours_3 : dQ_P cX2_neighbours 48 dT_X2_neighbours_3 := fun i => (dQ_X2_neighbours_2 (i + 16)).trans dk_t
theorem dQ_X2_neighbours_4 : dQ_P cX2_neighbours 64 dT_X2_neighbours_4 := fun i => (dQ_X2_neighbours_3 (i + 16)).trans dk_t
theorem dX2_neighbours_0 : decode cX2_neighbours 0 = .ok (.iconst 0, 1) := dk_3 ((dQ_X2_neighbours_0 0).trans dk_j0)
theorem dX2_neighbours_1 : decode cX2_neighbours 1 = .ok (.istore_n 2, 1) := dk_61 ((dQ_X2_neighbours_0 1).trans dk_j1)
theorem dX2_neighbours_2 : decode cX2_neighbours 2 = .ok (.iconst 0, 1) := dk_3 ((dQ_X2_neighbours_0 2).trans dk_j2)
theorem dX2_neighbours_3 : decode cX2_neighbours 3 = .ok (.istore_n 3, 1) := dk_62 ((dQ_X2_neighbours_0 3).trans dk_j3)
theorem dX2_neighbours_4 : decode cX2_neighbours 4 = .ok (.iload_n 3, 1) := dk_29 ((dQ_X2_neighbours_0 4).trans dk_j4)
theorem dX2_neighbours_5 : decode cX2_neighbours 5 = .ok (.aload_n 0, 1) := dk_42 ((dQ_X2_neighbours_0 5).trans dk_j5)
theorem dX2_neighbours_6 : decode cX2_neighbours 6 = .ok (.getfield 9, 3) := dk_180 ((dQ_X2_neighbours_0 6).trans dk_j6) ((dQ_X2_neighbours_0 7).trans dk_j7) ((dQ_X2_neighbours_0 8).trans dk_j8) dk_vu2_0_9
theorem dX2_neighbours_9 : decode cX2_neighbours 9 = .ok (.bipush 7, 2) := dk_16 ((dQ_X2_neighbours_0 9).trans dk_j9) ((dQ_X2_neighbours_0 10).trans dk_j10) dk_vs1_7
theorem dX2_neighbours_11 : decode cX2_neighbours 11 = .ok (.iaload, 1) := dk_46 ((dQ_X2_neighbours_0 11).trans dk_j11)
theorem dX2_neighbours_12 : decode cX2_neighbours 12 = .ok (.if_icmp .ge 63, 3) := dk_162 ((dQ_X2_neighbours_0 12).trans dk_j12) ((dQ_X2_neighbours_0 13).trans dk_j13) ((dQ_X2_neighbours_0 14).trans dk_j14) dk_vs2_0_63
theorem dX2_neighbours_15 : decode cX2_neighbours 15 = .ok (.aload_n 0, 1) := dk_42 ((dQ_X2_neighbours_0 15).trans dk_j15)
theorem dX2_neighbours_16 : decode cX2_neighbours 16 = .ok (.getfield 21, 3) := dk_180 ((dQ_X2_neighbours_1 0).trans dk_j0) ((dQ_X2_neighbours_1 1).trans dk_j1) ((dQ_X2_neighbours_1 2).trans dk_j2) dk_vu2_0_21
theorem dX2_neighbours_19 : decode cX2_neighbours 19 = .ok (.iconst 2, 1) := dk_5 ((dQ_X2_neighbours_1 3).trans dk_j3)
theorem dX2_neighbours_20 : decode cX2_neighbours 20 = .ok (.iload_n 3, 1) := dk_29 ((dQ_X2_neighbours_1 4).trans dk_j4)
theorem dX2_neighbours_21 : decode cX2_neighbours 21 = .ok (.imul, 1) := dk_104 ((dQ_X2_neighbours_1 5).trans dk_j5)
theorem dX2_neighbours_22 : decode cX2_neighbours 22 = .ok (.iaload, 1) := dk_46 ((dQ_X2_neighbours_1 6).trans dk_j6)
theorem dX2_neighbours_23 : decode cX2_neighbours 23 = .ok (.iload_n 1, 1) := dk_27 ((dQ_X2_neighbours_1 7).trans dk_j7)
theorem dX2_neighbours_24 : decode cX2_neighbours 24 = .ok (.if_icmp .ne 18, 3) := dk_160 ((dQ_X2_neighbours_1 8).trans dk_j8) ((dQ_X2_neighbours_1 9).trans dk_j9) ((dQ_X2_neighbours_1 10).trans dk_j10) dk_vs2_0_18
theorem dX2_neighbours_27 : decode cX2_neighbours 27 = .ok (.iload_n 2, 1) := dk_28 ((dQ_X2_neighbours_1 11).trans dk_j11)
theorem dX2_neighbours_28 : decode cX2_neighbours 28 = .ok (.iconst 1, 1) := dk_4 ((dQ_X2_neighbours_1 12).trans dk_j12)
theorem dX2_neighbours_29 : decode cX2_neighbours 29 = .ok (.aload_n 0, 1) := dk_42 ((dQ_X2_neighbours_1 13).trans dk_j13)
theorem dX2_neighbours_30 : decode cX2_neighbours 30 = .ok (.getfield 21, 3) := dk_180 ((dQ_X2_neighbours_1 14).trans dk_j14) ((dQ_X2_neighbours_1 15).trans dk_j15) ((dQ_X2_neighbours_2 0).trans dk_j0) dk_vu2_0_21
theorem dX2_neighbours_33 : decode cX2_neighbours 33 = .ok (.iconst 2, 1) := dk_5 ((dQ_X2_neighbours_2 1).trans dk_j1)
theorem dX2_neighbours_34 : decode cX2_neighbours 34 = .ok (.iload_n 3, 1) := dk_29 ((dQ_X2_neighbours_2 2).trans dk_j2)
theorem dX2_neighbours_35 : decode cX2_neighbours 35 = .ok (.imul, 1) := dk_104 ((dQ_X2_neighbours_2 3).trans dk_j3)
theorem dX2_neighbours_36 : decode cX2_neighbours 36 = .ok (.iconst 1, 1) := dk_4 ((dQ_X2_neighbours_2 4).trans dk_j4)
theorem dX2_neighbours_37 : decode cX2_neighbours 37 = .ok (.iadd, 1) := dk_96 ((dQ_X2_neighbours_2 5).trans dk_j5)
theorem dX2_neighbours_38 : decode cX2_neighbours 38 = .ok (.iaload, 1) := dk_46 ((dQ_X2_neighbours_2 6).trans dk_j6)
theorem dX2_neighbours_39 : decode cX2_neighbours 39 = .ok (.ishl, 1) := dk_120 ((dQ_X2_neighbours_2 7).trans dk_j7)
theorem dX2_neighbours_40 : decode cX2_neighbours 40 = .ok (.ior, 1) := dk_128 ((dQ_X2_neighbours_2 8).trans dk_j8)
theorem dX2_neighbours_41 : decode cX2_neighbours 41 = .ok (.istore_n 2, 1) := dk_61 ((dQ_X2_neighbours_2 9).trans dk_j9)
theorem dX2_neighbours_42 : decode cX2_neighbours 42 = .ok (.aload_n 0, 1) := dk_42 ((dQ_X2_neighbours_2 10).trans dk_j10)
theorem dX2_neighbours_43 : decode cX2_neighbours 43 = .ok (.getfield 21, 3) := dk_180 ((dQ_X2_neighbours_2 11).trans dk_j11) ((dQ_X2_neighbours_2 12).trans dk_j12) ((dQ_X2_neighbours_2 13).trans dk_j13) dk_vu2_0_21
theorem dX2_neighbours_46 : decode cX2_neighbours 46 = .ok (.iconst 2, 1) := dk_5 ((dQ_X2_neighbours_2 14).trans dk_j14)
theorem dX2_neighbours_47 : decode cX2_neighbours 47 = .ok (.iload_n 3, 1) := dk_29 ((dQ_X2_neighbours_2 15).trans dk_j15)
theorem dX2_neighbours_48 : decode cX2_neighbours 48 = .ok (.imul, 1) := dk_104 ((dQ_X2_neighbours_3 0).trans dk_j0)
theorem dX2_neighbours_49 : decode cX2_neighbours 49 = .ok (.iconst 1, 1) := dk_4 ((dQ_X2_neighbours_3 1).trans dk_j1)
theorem dX2_neighbours_50 : decode cX2_neighbours 50 = .ok (.iadd, 1) := dk_96 ((dQ_X2_neighbours_3 2).trans dk_j2)
theorem dX2_neighbours_51 : decode cX2_neighbours 51 = .ok (.iaload, 1) := dk_46 ((dQ_X2_neighbours_3 3).trans dk_j3)
theorem dX2_neighbours_52 : decode cX2_neighbours 52 = .ok (.iload_n 1, 1) := dk_27 ((dQ_X2_neighbours_3 4).trans dk_j4)
theorem dX2_neighbours_53 : decode cX2_neighbours 53 = .ok (.if_icmp .ne 16, 3) := dk_160 ((dQ_X2_neighbours_3 5).trans dk_j5) ((dQ_X2_neighbours_3 6).trans dk_j6) ((dQ_X2_neighbours_3 7).trans dk_j7) dk_vs2_0_16
theorem dX2_neighbours_56 : decode cX2_neighbours 56 = .ok (.iload_n 2, 1) := dk_28 ((dQ_X2_neighbours_3 8).trans dk_j8)
theorem dX2_neighbours_57 : decode cX2_neighbours 57 = .ok (.iconst 1, 1) := dk_4 ((dQ_X2_neighbours_3 9).trans dk_j9)
theorem dX2_neighbours_58 : decode cX2_neighbours 58 = .ok (.aload_n 0, 1) := dk_42 ((dQ_X2_neighbours_3 10).trans dk_j10)
theorem dX2_neighbours_59 : decode cX2_neighbours 59 = .ok (.getfield 21, 3) := dk_180 ((dQ_X2_neighbours_3 11).trans dk_j11) ((dQ_X2_neighbours_3 12).trans dk_j12) ((dQ_X2_neighbours_3 13).trans dk_j13) dk_vu2_0_21
theorem dX2_neighbours_62 : decode cX2_neighbours 62 = .ok (.iconst 2, 1) := dk_5 ((dQ_X2_neighbours_3 14).trans dk_j14)
theorem dX2_neighbours_63 : decode cX2_neighbours 63 = .ok (.iload_n 3, 1) := dk_29 ((dQ_X2_neighbours_3 15).trans dk_j15)
theorem dX2_neighbours_64 : decode cX2_neighbours 64 = .ok (.imul, 1) := dk_104 ((dQ_X2_neighbours_4 0).trans dk_j0)
theorem dX2_neighbours_65 : decode cX2_neighbours 65 = .ok (.iaload, 1) := dk_46 ((dQ_X2_neighbours_4 1).trans dk_j1)
theorem dX2_neighbours_66 : decode cX2_neighbours 66 = .ok (.ishl, 1) := dk_120 ((dQ_X2_neighbours_4 2).trans dk_j2)
theorem dX2_neighbours_67 : decode cX2_neighbours 67 = .ok (.ior, 1) := dk_128 ((dQ_X2_neighbours_4 3).trans dk_j3)
theorem dX2_neighbours_68 : decode cX2_neighbours 68 = .ok (.istore_n 2, 1) := dk_61 ((dQ_X2_neighbours_4 4).trans dk_j4)
theorem dX2_neighbours_69 : decode cX2_neighbours 69 = .ok (.iinc 3 1, 3) := dk_132 ((dQ_X2_neighbours_4 5).trans dk_j5) ((dQ_X2_neighbours_4 6).trans dk_j6) ((dQ_X2_neighbours_4 7).trans dk_j7) dk_vu1_3 dk_vs1_1
theorem dk_vs2_255_188 : Reader.signed 16 ((0xff : UInt8).toNat * 256 + (0xbc : UInt8).toNat) = (-68 : Int) := by decide +kernel
theorem dX2_neighbours_72 : decode cX2_neighbours 72 = .ok (.goto (-68), 3) := dk_167 ((dQ_X2_neighbours_4 8).trans dk_j8) ((dQ_X2_neighbours_4 9).trans dk_j9) ((dQ_X2_neighbours_4 10).trans dk_j10) dk_vs2_255_188
theorem dX2_neighbours_75 : decode cX2_neighbours 75 = .ok (.iload_n 2, 1) := dk_28 ((dQ_X2_neighbours_4 11).trans dk_j11)
theorem dX2_neighbours_76 : decode cX2_neighbours 76 = .ok (.ireturn, 1) := dk_172 ((dQ_X2_neighbours_4 12).trans dk_j12)
def dT_X2_act_4 : List UInt8 := (0xac : UInt8) :: []
def dT_X2_act_3 : List UInt8 := (0x05 : UInt8) :: (0x60 : UInt8) :: (0x1d : UInt8) :: (0x4f : UInt8) :: (0x2a : UInt8) :: (0xb4 : UInt8) :: (0x00 : UInt8) :: (0x09 : UInt8) :: (0x10 : UInt8) :: (0x09 : UInt8) :: (0x15 : UInt8) :: (0x04 : UInt8) :: (0x04 : UInt8) :: (0x60 : UInt8) :: (0x4f : UInt8) :: (0x04 : UInt8) :: dT_X2_act_4
def dT_X2_act_2 : List UInt8 := (0x06 : UInt8) :: (0x15 : UInt8) :: (0x04 : UInt8) :: (0x68 : UInt8) :: (0x04 : UInt8) :: (0x60 : UInt8) :: (0x1c : UInt8) :: (0x4f : UInt8) :: (0x2a : UInt8) :: (0xb4 : UInt8) :: (0x00 : UInt8) :: (0x1b : UInt8) :: (0x06 : UInt8) :: (0x15 : UInt8) :: (0x04 : UInt8) :: (0x68 : UInt8) :: dT_X2_act_3
def dT_X2_act_1 : List UInt8 := (0x03 : UInt8) :: (0xac : UInt8) :: (0x2a : UInt8) :: (0xb4 : UInt8) :: (0x00 : UInt8) :: (0x1b : UInt8) :: (0x06 : UInt8) :: (0x15 : UInt8) :: (0x04 : UInt8) :: (0x68 : UInt8) :: (0x1b : UInt8) :: (0x4f : UInt8) :: (0x2a : UInt8) :: (0xb4 : UInt8) :: (0x00 : UInt8) :: (0x1b : UInt8) :: dT_X2_act_2
def dT_X2_act_0 : List UInt8 := (0x2a : UInt8) :: (0xb4 : UInt8) :: (0x00 : UInt8) :: (0x09 : UInt8) :: (0x10 : UInt8) :: (0x09 : UInt8) :: (0x2e : UInt8) :: (0x36 : UInt8) :: (0x04 : UInt8) :: (0x15 : UInt8) :: (0x04 : UInt8) :: (0x10 : UInt8) :: (0x28 : UInt8) :: (0xa1 : UInt8) :: (0x00 : UInt8) :: (0x05 : UInt8) :: dT_X2_act_1
theorem dT_X2_act : cX2_act.data.toList = dT_X2_act_0 := eq_of_beq (show (cX2_act.data.toList == dT_X2_act_0) = true by decide +kernel)
theorem dQ_X2_act_0 : dQ_P cX2_act 0 dT_X2_act_0 := fun i => by rw [dT_X2_act]; rfl
theorem dQ_X2_act_1 : dQ_P cX2_act 16 dT_X2_act_1 := fun i => (dQ_X2_act_0 (i + 16)).trans dk_t
theorem dQ_X2_act_2 : dQ_P cX2_act 32 dT_X2_act_2 := fun i => (dQ_X2_act_1 (i + 16)).trans dk_t
theorem dQ_X2_act_3 : dQ_P cX2_act 48 dT_X2_act_3 := fun i => (dQ_X2_act_2 (i + 16)).trans dk_t
theorem dQ_X2_act_4 : dQ_P cX2_act 64 dT_X2_act_4 := fun i => (dQ_X2_act_3 (i + 16)).trans dk_t
theorem dX2_act_0 : decode cX2_act 0 = .ok (.aload_n 0, 1) := dk_42 ((dQ_X2_act_0 0).trans dk_j0)
theorem dX2_act_1 : decode cX2_act 1 = .ok (.getfield 9, 3) := dk_180 ((dQ_X2_act_0 1).trans dk_j1) ((dQ_X2_act_0 2).trans dk_j2) ((dQ_X2_act_0 3).trans dk_j3) dk_vu2_0_9
theorem dX2_act_4 : decode cX2_act 4 = .ok (.bipush 9, 2) := dk_16 ((dQ_X2_act_0 4).trans dk_j4) ((dQ_X2_act_0 5).trans dk_j5) dk_vs1_9
theorem dX2_act_6 : decode cX2_act 6 = .ok (.iaload, 1) := dk_46 ((dQ_X2_act_0 6).trans dk_j6)
theorem dX2_act_7 : decode cX2_act 7 = .ok (.istore 4, 2) := dk_54 ((dQ_X2_act_0 7).trans dk_j7) ((dQ_X2_act_0 8).trans dk_j8) dk_vu1_4
theorem dX2_act_9 : decode cX2_act 9 = .ok (.iload 4, 2) := dk_21 ((dQ_X2_act_0 9).trans dk_j9) ((dQ_X2_act_0 10).trans dk_j10) dk_vu1_4
theorem dX2_act_11 : decode cX2_act 11 = .ok (.bipush 40, 2) := dk_16 ((dQ_X2_act_0 11).trans dk_j11) ((dQ_X2_act_0 12).trans dk_j12) dk_vs1_40
theorem dX2_act_13 : decode cX2_act 13 = .ok (.if_icmp .lt 5, 3) := dk_161 ((dQ_X2_act_0 13).trans dk_j13) ((dQ_X2_act_0 14).trans dk_j14) ((dQ_X2_act_0 15).trans dk_j15) dk_vs2_0_5
theorem dX2_act_16 : decode cX2_act 16 = .ok (.iconst 0, 1) := dk_3 ((dQ_X2_act_1 0).trans dk_j0)
theorem dX2_act_17 : decode cX2_act 17 = .ok (.ireturn, 1) := dk_172 ((dQ_X2_act_1 1).trans dk_j1)
theorem dX2_act_18 : decode cX2_act 18 = .ok (.aload_n 0, 1) := dk_42 ((dQ_X2_act_1 2).trans dk_j2)
theorem dX2_act_19 : decode cX2_act 19 = .ok (.getfield 27, 3) := dk_180 ((dQ_X2_act_1 3).trans dk_j3) ((dQ_X2_act_1 4).trans dk_j4) ((dQ_X2_act_1 5).trans dk_j5) dk_vu2_0_27
theorem dX2_act_22 : decode cX2_act 22 = .ok (.iconst 3, 1) := dk_6 ((dQ_X2_act_1 6).trans dk_j6)
theorem dX2_act_23 : decode cX2_act 23 = .ok (.iload 4, 2) := dk_21 ((dQ_X2_act_1 7).trans dk_j7) ((dQ_X2_act_1 8).trans dk_j8) dk_vu1_4
theorem dX2_act_25 : decode cX2_act 25 = .ok (.imul, 1) := dk_104 ((dQ_X2_act_1 9).trans dk_j9)
theorem dX2_act_26 : decode cX2_act 26 = .ok (.iload_n 1, 1) := dk_27 ((dQ_X2_act_1 10).trans dk_j10)
theorem dX2_act_27 : decode cX2_act 27 = .ok (.iastore, 1) := dk_79 ((dQ_X2_act_1 11).trans dk_j11)
theorem dX2_act_28 : decode cX2_act 28 = .ok (.aload_n 0, 1) := dk_42 ((dQ_X2_act_1 12).trans dk_j12)
theorem dX2_act_29 : decode cX2_act 29 = .ok (.getfield 27, 3) := dk_180 ((dQ_X2_act_1 13).trans dk_j13) ((dQ_X2_act_1 14).trans dk_j14) ((dQ_X2_act_1 15).trans dk_j15) dk_vu2_0_27
theorem dX2_act_32 : decode cX2_act 32 = .ok (.iconst 3, 1) := dk_6 ((dQ_X2_act_2 0).trans dk_j0)
theorem dX2_act_33 : decode cX2_act 33 = .ok (.iload 4, 2) := dk_21 ((dQ_X2_act_2 1).trans dk_j1) ((dQ_X2_act_2 2).trans dk_j2) dk_vu1_4
theorem dX2_act_35 : decode cX2_act 35 = .ok (.imul, 1) := dk_104 ((dQ_X2_act_2 3).trans dk_j3)
theorem dX2_act_36 : decode cX2_act 36 = .ok (.iconst 1, 1) := dk_4 ((dQ_X2_act_2 4).trans dk_j4)
theorem dX2_act_37 : decode cX2_act 37 = .ok (.iadd, 1) := dk_96 ((dQ_X2_act_2 5).trans dk_j5)
theorem dX2_act_38 : decode cX2_act 38 = .ok (.iload_n 2, 1) := dk_28 ((dQ_X2_act_2 6).trans dk_j6)
theorem dX2_act_39 : decode cX2_act 39 = .ok (.iastore, 1) := dk_79 ((dQ_X2_act_2 7).trans dk_j7)
theorem dX2_act_40 : decode cX2_act 40 = .ok (.aload_n 0, 1) := dk_42 ((dQ_X2_act_2 8).trans dk_j8)
theorem dX2_act_41 : decode cX2_act 41 = .ok (.getfield 27, 3) := dk_180 ((dQ_X2_act_2 9).trans dk_j9) ((dQ_X2_act_2 10).trans dk_j10) ((dQ_X2_act_2 11).trans dk_j11) dk_vu2_0_27
theorem dX2_act_44 : decode cX2_act 44 = .ok (.iconst 3, 1) := dk_6 ((dQ_X2_act_2 12).trans dk_j12)
theorem dX2_act_45 : decode cX2_act 45 = .ok (.iload 4, 2) := dk_21 ((dQ_X2_act_2 13).trans dk_j13) ((dQ_X2_act_2 14).trans dk_j14) dk_vu1_4
theorem dX2_act_47 : decode cX2_act 47 = .ok (.imul, 1) := dk_104 ((dQ_X2_act_2 15).trans dk_j15)
theorem dX2_act_48 : decode cX2_act 48 = .ok (.iconst 2, 1) := dk_5 ((dQ_X2_act_3 0).trans dk_j0)
theorem dX2_act_49 : decode cX2_act 49 = .ok (.iadd, 1) := dk_96 ((dQ_X2_act_3 1).trans dk_j1)
theorem dX2_act_50 : decode cX2_act 50 = .ok (.iload_n 3, 1) := dk_29 ((dQ_X2_act_3 2).trans dk_j2)
theorem dX2_act_51 : decode cX2_act 51 = .ok (.iastore, 1) := dk_79 ((dQ_X2_act_3 3).trans dk_j3)
theorem dX2_act_52 : decode cX2_act 52 = .ok (.aload_n 0, 1) := dk_42 ((dQ_X2_act_3 4).trans dk_j4)
theorem dX2_act_53 : decode cX2_act 53 = .ok (.getfield 9, 3) := dk_180 ((dQ_X2_act_3 5).trans dk_j5) ((dQ_X2_act_3 6).trans dk_j6) ((dQ_X2_act_3 7).trans dk_j7) dk_vu2_0_9
theorem dX2_act_56 : decode cX2_act 56 = .ok (.bipush 9, 2) := dk_16 ((dQ_X2_act_3 8).trans dk_j8) ((dQ_X2_act_3 9).trans dk_j9) dk_vs1_9
theorem dX2_act_58 : decode cX2_act 58 = .ok (.iload 4, 2) := dk_21 ((dQ_X2_act_3 10).trans dk_j10) ((dQ_X2_act_3 11).trans dk_j11) dk_vu1_4
theorem dX2_act_60 : decode cX2_act 60 = .ok (.iconst 1, 1) := dk_4 ((dQ_X2_act_3 12).trans dk_j12)
theorem dX2_act_61 : decode cX2_act 61 = .ok (.iadd, 1) := dk_96 ((dQ_X2_act_3 13).trans dk_j13)
theorem dX2_act_62 : decode cX2_act 62 = .ok (.iastore, 1) := dk_79 ((dQ_X2_act_3 14).trans dk_j14)
theorem dX2_act_63 : decode cX2_act 63 = .ok (.iconst 1, 1) := dk_4 ((dQ_X2_act_3 15).trans dk_j15)
theorem dX2_act_64 : decode cX2_act 64 = .ok (.ireturn, 1) := dk_172 ((dQ_X2_act_4 0).trans dk_j0)
def dT_X2_minutesOfActs_4 : List UInt8 := (0xa7 : UInt8) :: (0xff : UInt8) :: (0xc5 : UInt8) :: (0x1d : UInt8) :: (0xac : UInt8) :: []
def dT_X2_minutesOfActs_3 : List UInt8 := (0xb4 : UInt8) :: (0x00 : UInt8) :: (0x1b : UInt8) :: (0x06 : UInt8) :: (0x15 : UInt8) :: (0x04 : UInt8) :: (0x68 : UInt8) :: (0x05 : UInt8) :: (0x60 : UInt8) :: (0x2e : UInt8) :: (0x78 : UInt8) :: (0x80 : UInt8) :: (0x3e : UInt8) :: (0x84 : UInt8) :: (0x04 : UInt8) :: (0x01 : UInt8) :: dT_X2_minutesOfActs_4
def dT_X2_minutesOfActs_2 : List UInt8 := (0x00 : UInt8) :: (0x1b : UInt8) :: (0x06 : UInt8) :: (0x15 : UInt8) :: (0x04 : UInt8) :: (0x68 : UInt8) :: (0x04 : UInt8) :: (0x60 : UInt8) :: (0x2e : UInt8) :: (0x1c : UInt8) :: (0xa0 : UInt8) :: (0x00 : UInt8) :: (0x13 : UInt8) :: (0x1d : UInt8) :: (0x04 : UInt8) :: (0x2a : UInt8) :: dT_X2_minutesOfActs_3
def dT_X2_minutesOfActs_1 : List UInt8 := (0x35 : UInt8) :: (0x2a : UInt8) :: (0xb4 : UInt8) :: (0x00 : UInt8) :: (0x1b : UInt8) :: (0x06 : UInt8) :: (0x15 : UInt8) :: (0x04 : UInt8) :: (0x68 : UInt8) :: (0x2e : UInt8) :: (0x1b : UInt8) :: (0xa0 : UInt8) :: (0x00 : UInt8) :: (0x22 : UInt8) :: (0x2a : UInt8) :: (0xb4 : UInt8) :: dT_X2_minutesOfActs_2
def dT_X2_minutesOfActs_0 : List UInt8 := (0x03 : UInt8) :: (0x3e : UInt8) :: (0x03 : UInt8) :: (0x36 : UInt8) :: (0x04 : UInt8) :: (0x15 : UInt8) :: (0x04 : UInt8) :: (0x2a : UInt8) :: (0xb4 : UInt8) :: (0x00 : UInt8) :: (0x09 : UInt8) :: (0x10 : UInt8) :: (0x09 : UInt8) :: (0x2e : UInt8) :: (0xa2 : UInt8) :: (0x00 : UInt8) :: dT_X2_minutesOfActs_1
theorem dT_X2_minutesOfActs : cX2_minutesOfActs.data.toList = dT_X2_minutesOfActs_0 := eq_of_beq (show (cX2_minutesOfActs.data.toList == dT_X2_minutesOfActs_0) = true by decide +kernel)
theorem dQ_X2_minutesOfActs_0 : dQ_P cX2_minutesOfActs 0 dT_X2_minutesOfActs_0 := fun i => by rw [dT_X2_minutesOfActs]; rfl
theorem dQ_X2_minutesOfActs_1 : dQ_P cX2_minutesOfActs 16 dT_X2_minutesOfActs_1 := fun i => (dQ_X2_minutesOfActs_0 (i + 16)).trans dk_t
theorem dQ_X2_minutesOfActs_2 : dQ_P cX2_minutesOfActs 32 dT_X2_minutesOfActs_2 := fun i => (dQ_X2_minutesOfActs_1 (i + 16)).trans dk_t
theorem dQ_X2_minutesOfActs_3 : dQ_P cX2_minutesOfActs 48 dT_X2_minutesOfActs_3 := fun i => (dQ_X2_minutesOfActs_2 (i + 16)).trans dk_t
theorem dQ_X2_minutesOfActs_4 : dQ_P cX2_minutesOfActs 64 dT_X2_minutesOfActs_4 := fun i => (dQ_X2_minutesOfActs_3 (i + 16)).trans dk_t
theorem dX2_minutesOfActs_0 : decode cX2_minutesOfActs 0 = .ok (.iconst 0, 1) := dk_3 ((dQ_X2_minutesOfActs_0 0).trans dk_j0)
theorem dX2_minutesOfActs_1 : decode cX2_minutesOfActs 1 = .ok (.istore_n 3, 1) := dk_62 ((dQ_X2_minutesOfActs_0 1).trans dk_j1)
theorem dX2_minutesOfActs_2 : decode cX2_minutesOfActs 2 = .ok (.iconst 0, 1) := dk_3 ((dQ_X2_minutesOfActs_0 2).trans dk_j2)
theorem dX2_minutesOfActs_3 : decode cX2_minutesOfActs 3 = .ok (.istore 4, 2) := dk_54 ((dQ_X2_minutesOfActs_0 3).trans dk_j3) ((dQ_X2_minutesOfActs_0 4).trans dk_j4) dk_vu1_4
theorem dX2_minutesOfActs_5 : decode cX2_minutesOfActs 5 = .ok (.iload 4, 2) := dk_21 ((dQ_X2_minutesOfActs_0 5).trans dk_j5) ((dQ_X2_minutesOfActs_0 6).trans dk_j6) dk_vu1_4
theorem dX2_minutesOfActs_7 : decode cX2_minutesOfActs 7 = .ok (.aload_n 0, 1) := dk_42 ((dQ_X2_minutesOfActs_0 7).trans dk_j7)
theorem dX2_minutesOfActs_8 : decode cX2_minutesOfActs 8 = .ok (.getfield 9, 3) := dk_180 ((dQ_X2_minutesOfActs_0 8).trans dk_j8) ((dQ_X2_minutesOfActs_0 9).trans dk_j9) ((dQ_X2_minutesOfActs_0 10).trans dk_j10) dk_vu2_0_9
theorem dX2_minutesOfActs_11 : decode cX2_minutesOfActs 11 = .ok (.bipush 9, 2) := dk_16 ((dQ_X2_minutesOfActs_0 11).trans dk_j11) ((dQ_X2_minutesOfActs_0 12).trans dk_j12) dk_vs1_9
theorem dX2_minutesOfActs_13 : decode cX2_minutesOfActs 13 = .ok (.iaload, 1) := dk_46 ((dQ_X2_minutesOfActs_0 13).trans dk_j13)
theorem dX2_minutesOfActs_14 : decode cX2_minutesOfActs 14 = .ok (.if_icmp .ge 53, 3) := dk_162 ((dQ_X2_minutesOfActs_0 14).trans dk_j14) ((dQ_X2_minutesOfActs_0 15).trans dk_j15) ((dQ_X2_minutesOfActs_1 0).trans dk_j0) dk_vs2_0_53
theorem dX2_minutesOfActs_17 : decode cX2_minutesOfActs 17 = .ok (.aload_n 0, 1) := dk_42 ((dQ_X2_minutesOfActs_1 1).trans dk_j1)
theorem dX2_minutesOfActs_18 : decode cX2_minutesOfActs 18 = .ok (.getfield 27, 3) := dk_180 ((dQ_X2_minutesOfActs_1 2).trans dk_j2) ((dQ_X2_minutesOfActs_1 3).trans dk_j3) ((dQ_X2_minutesOfActs_1 4).trans dk_j4) dk_vu2_0_27
theorem dX2_minutesOfActs_21 : decode cX2_minutesOfActs 21 = .ok (.iconst 3, 1) := dk_6 ((dQ_X2_minutesOfActs_1 5).trans dk_j5)
theorem dX2_minutesOfActs_22 : decode cX2_minutesOfActs 22 = .ok (.iload 4, 2) := dk_21 ((dQ_X2_minutesOfActs_1 6).trans dk_j6) ((dQ_X2_minutesOfActs_1 7).trans dk_j7) dk_vu1_4
theorem dX2_minutesOfActs_24 : decode cX2_minutesOfActs 24 = .ok (.imul, 1) := dk_104 ((dQ_X2_minutesOfActs_1 8).trans dk_j8)
theorem dX2_minutesOfActs_25 : decode cX2_minutesOfActs 25 = .ok (.iaload, 1) := dk_46 ((dQ_X2_minutesOfActs_1 9).trans dk_j9)
theorem dX2_minutesOfActs_26 : decode cX2_minutesOfActs 26 = .ok (.iload_n 1, 1) := dk_27 ((dQ_X2_minutesOfActs_1 10).trans dk_j10)
theorem dX2_minutesOfActs_27 : decode cX2_minutesOfActs 27 = .ok (.if_icmp .ne 34, 3) := dk_160 ((dQ_X2_minutesOfActs_1 11).trans dk_j11) ((dQ_X2_minutesOfActs_1 12).trans dk_j12) ((dQ_X2_minutesOfActs_1 13).trans dk_j13) dk_vs2_0_34
theorem dX2_minutesOfActs_30 : decode cX2_minutesOfActs 30 = .ok (.aload_n 0, 1) := dk_42 ((dQ_X2_minutesOfActs_1 14).trans dk_j14)
theorem dX2_minutesOfActs_31 : decode cX2_minutesOfActs 31 = .ok (.getfield 27, 3) := dk_180 ((dQ_X2_minutesOfActs_1 15).trans dk_j15) ((dQ_X2_minutesOfActs_2 0).trans dk_j0) ((dQ_X2_minutesOfActs_2 1).trans dk_j1) dk_vu2_0_27
theorem dX2_minutesOfActs_34 : decode cX2_minutesOfActs 34 = .ok (.iconst 3, 1) := dk_6 ((dQ_X2_minutesOfActs_2 2).trans dk_j2)
theorem dX2_minutesOfActs_35 : decode cX2_minutesOfActs 35 = .ok (.iload 4, 2) := dk_21 ((dQ_X2_minutesOfActs_2 3).trans dk_j3) ((dQ_X2_minutesOfActs_2 4).trans dk_j4) dk_vu1_4
theorem dX2_minutesOfActs_37 : decode cX2_minutesOfActs 37 = .ok (.imul, 1) := dk_104 ((dQ_X2_minutesOfActs_2 5).trans dk_j5)
theorem dX2_minutesOfActs_38 : decode cX2_minutesOfActs 38 = .ok (.iconst 1, 1) := dk_4 ((dQ_X2_minutesOfActs_2 6).trans dk_j6)
theorem dX2_minutesOfActs_39 : decode cX2_minutesOfActs 39 = .ok (.iadd, 1) := dk_96 ((dQ_X2_minutesOfActs_2 7).trans dk_j7)
theorem dX2_minutesOfActs_40 : decode cX2_minutesOfActs 40 = .ok (.iaload, 1) := dk_46 ((dQ_X2_minutesOfActs_2 8).trans dk_j8)
theorem dX2_minutesOfActs_41 : decode cX2_minutesOfActs 41 = .ok (.iload_n 2, 1) := dk_28 ((dQ_X2_minutesOfActs_2 9).trans dk_j9)
theorem dX2_minutesOfActs_42 : decode cX2_minutesOfActs 42 = .ok (.if_icmp .ne 19, 3) := dk_160 ((dQ_X2_minutesOfActs_2 10).trans dk_j10) ((dQ_X2_minutesOfActs_2 11).trans dk_j11) ((dQ_X2_minutesOfActs_2 12).trans dk_j12) dk_vs2_0_19
theorem dX2_minutesOfActs_45 : decode cX2_minutesOfActs 45 = .ok (.iload_n 3, 1) := dk_29 ((dQ_X2_minutesOfActs_2 13).trans dk_j13)
theorem dX2_minutesOfActs_46 : decode cX2_minutesOfActs 46 = .ok (.iconst 1, 1) := dk_4 ((dQ_X2_minutesOfActs_2 14).trans dk_j14)
theorem dX2_minutesOfActs_47 : decode cX2_minutesOfActs 47 = .ok (.aload_n 0, 1) := dk_42 ((dQ_X2_minutesOfActs_2 15).trans dk_j15)
theorem dX2_minutesOfActs_48 : decode cX2_minutesOfActs 48 = .ok (.getfield 27, 3) := dk_180 ((dQ_X2_minutesOfActs_3 0).trans dk_j0) ((dQ_X2_minutesOfActs_3 1).trans dk_j1) ((dQ_X2_minutesOfActs_3 2).trans dk_j2) dk_vu2_0_27
theorem dX2_minutesOfActs_51 : decode cX2_minutesOfActs 51 = .ok (.iconst 3, 1) := dk_6 ((dQ_X2_minutesOfActs_3 3).trans dk_j3)
theorem dX2_minutesOfActs_52 : decode cX2_minutesOfActs 52 = .ok (.iload 4, 2) := dk_21 ((dQ_X2_minutesOfActs_3 4).trans dk_j4) ((dQ_X2_minutesOfActs_3 5).trans dk_j5) dk_vu1_4
theorem dX2_minutesOfActs_54 : decode cX2_minutesOfActs 54 = .ok (.imul, 1) := dk_104 ((dQ_X2_minutesOfActs_3 6).trans dk_j6)
theorem dX2_minutesOfActs_55 : decode cX2_minutesOfActs 55 = .ok (.iconst 2, 1) := dk_5 ((dQ_X2_minutesOfActs_3 7).trans dk_j7)
theorem dX2_minutesOfActs_56 : decode cX2_minutesOfActs 56 = .ok (.iadd, 1) := dk_96 ((dQ_X2_minutesOfActs_3 8).trans dk_j8)
theorem dX2_minutesOfActs_57 : decode cX2_minutesOfActs 57 = .ok (.iaload, 1) := dk_46 ((dQ_X2_minutesOfActs_3 9).trans dk_j9)
theorem dX2_minutesOfActs_58 : decode cX2_minutesOfActs 58 = .ok (.ishl, 1) := dk_120 ((dQ_X2_minutesOfActs_3 10).trans dk_j10)
theorem dX2_minutesOfActs_59 : decode cX2_minutesOfActs 59 = .ok (.ior, 1) := dk_128 ((dQ_X2_minutesOfActs_3 11).trans dk_j11)
theorem dX2_minutesOfActs_60 : decode cX2_minutesOfActs 60 = .ok (.istore_n 3, 1) := dk_62 ((dQ_X2_minutesOfActs_3 12).trans dk_j12)
theorem dX2_minutesOfActs_61 : decode cX2_minutesOfActs 61 = .ok (.iinc 4 1, 3) := dk_132 ((dQ_X2_minutesOfActs_3 13).trans dk_j13) ((dQ_X2_minutesOfActs_3 14).trans dk_j14) ((dQ_X2_minutesOfActs_3 15).trans dk_j15) dk_vu1_4 dk_vs1_1
theorem dX2_minutesOfActs_64 : decode cX2_minutesOfActs 64 = .ok (.goto (-59), 3) := dk_167 ((dQ_X2_minutesOfActs_4 0).trans dk_j0) ((dQ_X2_minutesOfActs_4 1).trans dk_j1) ((dQ_X2_minutesOfActs_4 2).trans dk_j2) dk_vs2_255_197
theorem dX2_minutesOfActs_67 : decode cX2_minutesOfActs 67 = .ok (.iload_n 3, 1) := dk_29 ((dQ_X2_minutesOfActs_4 3).trans dk_j3)
theorem dX2_minutesOfActs_68 : decode cX2_minutesOfActs 68 = .ok (.ireturn, 1) := dk_172 ((dQ_X2_minutesOfActs_4 4).trans dk_j4)
def dT_X3_init_1 : List UInt8 := (0x0a : UInt8) :: (0xb5 : UInt8) :: (0x00 : UInt8) :: (0x0f : UInt8) :: (0xb1 : UInt8) :: []
def dT_X3_init_0 : List UInt8 := (0x2a : UInt8) :: (0xb7 : UInt8) :: (0x00 : UInt8) :: (0x03 : UInt8) :: (0x2a : UInt8) :: (0x10 : UInt8) :: (0x06 : UInt8) :: (0xbc : UInt8) :: (0x0a : UInt8) :: (0xb5 : UInt8) :: (0x00 : UInt8) :: (0x09 : UInt8) :: (0x2a : UInt8) :: (0x10 : UInt8) :: (0x06 : UInt8) :: (0xbc : UInt8) :: dT_X3_init_1
theorem dT_X3_init : cX3_init.data.toList = dT_X3_init_0 := eq_of_beq (show (cX3_init.data.toList == dT_X3_init_0) = true by decide +kernel)
theorem dQ_X3_init_0 : dQ_P cX3_init 0 dT_X3_init_0 := fun i => by rw [dT_X3_init]; rfl
theorem dQ_X3_init_1 : dQ_P cX3_init 16 dT_X3_init_1 := fun i => (dQ_X3_init_0 (i + 16)).trans dk_t
theorem dX3_init_0 : decode cX3_init 0 = .ok (.aload_n 0, 1) := dk_42 ((dQ_X3_init_0 0).trans dk_j0)
theorem dX3_init_1 : decode cX3_init 1 = .ok (.invokespecial 3, 3) := dk_183 ((dQ_X3_init_0 1).trans dk_j1) ((dQ_X3_init_0 2).trans dk_j2) ((dQ_X3_init_0 3).trans dk_j3) dk_vu2_0_3
theorem dX3_init_4 : decode cX3_init 4 = .ok (.aload_n 0, 1) := dk_42 ((dQ_X3_init_0 4).trans dk_j4)
theorem dX3_init_5 : decode cX3_init 5 = .ok (.bipush 6, 2) := dk_16 ((dQ_X3_init_0 5).trans dk_j5) ((dQ_X3_init_0 6).trans dk_j6) dk_vs1_6
theorem dX3_init_7 : decode cX3_init 7 = .ok (.newarray .int, 2) := by decide +kernel
theorem dX3_init_9 : decode cX3_init 9 = .ok (.putfield 9, 3) := dk_181 ((dQ_X3_init_0 9).trans dk_j9) ((dQ_X3_init_0 10).trans dk_j10) ((dQ_X3_init_0 11).trans dk_j11) dk_vu2_0_9
theorem dX3_init_12 : decode cX3_init 12 = .ok (.aload_n 0, 1) := dk_42 ((dQ_X3_init_0 12).trans dk_j12)
theorem dX3_init_13 : decode cX3_init 13 = .ok (.bipush 6, 2) := dk_16 ((dQ_X3_init_0 13).trans dk_j13) ((dQ_X3_init_0 14).trans dk_j14) dk_vs1_6
theorem dX3_init_15 : decode cX3_init 15 = .ok (.newarray .int, 2) := by decide +kernel
theorem dX3_init_17 : decode cX3_init 17 = .ok (.putfield 15, 3) := dk_181 ((dQ_X3_init_1 1).trans dk_j1) ((dQ_X3_init_1 2).trans dk_j2) ((dQ_X3_init_1 3).trans dk_j3) dk_vu2_0_15
theorem dX3_init_20 : decode cX3_init 20 = .ok (.return_, 1) := dk_177 ((dQ_X3_init_1 4).trans dk_j4)
def dT_X3_reckon_7 : List UInt8 := (0xa7 : UInt8) :: (0xff : UInt8) :: (0xa8 : UInt8) :: (0xb1 : UInt8) :: []
def dT_X3_reckon_6 : List UInt8 := (0x2b : UInt8) :: (0x1d : UInt8) :: (0x15 : UInt8) :: (0x04 : UInt8) :: (0x15 : UInt8) :: (0x06 : UInt8) :: (0xb8 : UInt8) :: (0x00 : UInt8) :: (0x2e : UInt8) :: (0xb8 : UInt8) :: (0x00 : UInt8) :: (0x32 : UInt8) :: (0x4f : UInt8) :: (0x84 : UInt8) :: (0x04 : UInt8) :: (0x01 : UInt8) :: dT_X3_reckon_7
def dT_X3_reckon_5 : List UInt8 := (0xb4 : UInt8) :: (0x00 : UInt8) :: (0x27 : UInt8) :: (0x15 : UInt8) :: (0x05 : UInt8) :: (0x2e : UInt8) :: (0xb8 : UInt8) :: (0x00 : UInt8) :: (0x2a : UInt8) :: (0x4f : UInt8) :: (0x2a : UInt8) :: (0xb4 : UInt8) :: (0x00 : UInt8) :: (0x0f : UInt8) :: (0x15 : UInt8) :: (0x04 : UInt8) :: dT_X3_reckon_6
def dT_X3_reckon_4 : List UInt8 := (0xb5 : UInt8) :: (0x00 : UInt8) :: (0x1b : UInt8) :: (0x2a : UInt8) :: (0xb4 : UInt8) :: (0x00 : UInt8) :: (0x09 : UInt8) :: (0x15 : UInt8) :: (0x04 : UInt8) :: (0x2b : UInt8) :: (0x1d : UInt8) :: (0x15 : UInt8) :: (0x04 : UInt8) :: (0x15 : UInt8) :: (0x06 : UInt8) :: (0x2c : UInt8) :: dT_X3_reckon_5
def dT_X3_reckon_3 : List UInt8 := (0x2e : UInt8) :: (0x36 : UInt8) :: (0x06 : UInt8) :: (0x2a : UInt8) :: (0x59 : UInt8) :: (0xb4 : UInt8) :: (0x00 : UInt8) :: (0x1b : UInt8) :: (0x2b : UInt8) :: (0x15 : UInt8) :: (0x04 : UInt8) :: (0x07 : UInt8) :: (0xb6 : UInt8) :: (0x00 : UInt8) :: (0x1e : UInt8) :: (0x60 : UInt8) :: dT_X3_reckon_4
def dT_X3_reckon_2 : List UInt8 := (0x55 : UInt8) :: (0x2b : UInt8) :: (0x15 : UInt8) :: (0x04 : UInt8) :: (0x03 : UInt8) :: (0xb6 : UInt8) :: (0x00 : UInt8) :: (0x1e : UInt8) :: (0x36 : UInt8) :: (0x05 : UInt8) :: (0x2c : UInt8) :: (0xb4 : UInt8) :: (0x00 : UInt8) :: (0x22 : UInt8) :: (0x15 : UInt8) :: (0x05 : UInt8) :: dT_X3_reckon_3
def dT_X3_reckon_1 : List UInt8 := (0x06 : UInt8) :: (0x2e : UInt8) :: (0xb5 : UInt8) :: (0x00 : UInt8) :: (0x1b : UInt8) :: (0x03 : UInt8) :: (0x36 : UInt8) :: (0x04 : UInt8) :: (0x15 : UInt8) :: (0x04 : UInt8) :: (0x2a : UInt8) :: (0xb4 : UInt8) :: (0x00 : UInt8) :: (0x17 : UInt8) :: (0xa2 : UInt8) :: (0x00 : UInt8) :: dT_X3_reckon_2
def dT_X3_reckon_0 : List UInt8 := (0x2a : UInt8) :: (0x2b : UInt8) :: (0xb4 : UInt8) :: (0x00 : UInt8) :: (0x12 : UInt8) :: (0x10 : UInt8) :: (0x08 : UInt8) :: (0x2e : UInt8) :: (0xb5 : UInt8) :: (0x00 : UInt8) :: (0x17 : UInt8) :: (0x2a : UInt8) :: (0x2b : UInt8) :: (0xb4 : UInt8) :: (0x00 : UInt8) :: (0x12 : UInt8) :: dT_X3_reckon_1
theorem dT_X3_reckon : cX3_reckon.data.toList = dT_X3_reckon_0 := eq_of_beq (show (cX3_reckon.data.toList == dT_X3_reckon_0) = true by decide +kernel)
theorem dQ_X3_reckon_0 : dQ_P cX3_reckon 0 dT_X3_reckon_0 := fun i => by rw [dT_X3_reckon]; rfl
theorem dQ_X3_reckon_1 : dQ_P cX3_reckon 16 dT_X3_reckon_1 := fun i => (dQ_X3_reckon_0 (i + 16)).trans dk_t
theorem dQ_X3_reckon_2 : dQ_P cX3_reckon 32 dT_X3_reckon_2 := fun i => (dQ_X3_reckon_1 (i + 16)).trans dk_t
theorem dQ_X3_reckon_3 : dQ_P cX3_reckon 48 dT_X3_reckon_3 := fun i => (dQ_X3_reckon_2 (i + 16)).trans dk_t
theorem dQ_X3_reckon_4 : dQ_P cX3_reckon 64 dT_X3_reckon_4 := fun i => (dQ_X3_reckon_3 (i + 16)).trans dk_t
theorem dQ_X3_reckon_5 : dQ_P cX3_reckon 80 dT_X3_reckon_5 := fun i => (dQ_X3_reckon_4 (i + 16)).trans dk_t
theorem dQ_X3_reckon_6 : dQ_P cX3_reckon 96 dT_X3_reckon_6 := fun i => (dQ_X3_reckon_5 (i + 16)).trans dk_t
theorem dQ_X3_reckon_7 : dQ_P cX3_reckon 112 dT_X3_reckon_7 := fun i => (dQ_X3_reckon_6 (i + 16)).trans dk_t
theorem dX3_reckon_0 : decode cX3_reckon 0 = .ok (.aload_n 0, 1) := dk_42 ((dQ_X3_reckon_0 0).trans dk_j0)
theorem dX3_reckon_1 : decode cX3_reckon 1 = .ok (.aload_n 1, 1) := dk_43 ((dQ_X3_reckon_0 1).trans dk_j1)
theorem dX3_reckon_2 : decode cX3_reckon 2 = .ok (.getfield 18, 3) := dk_180 ((dQ_X3_reckon_0 2).trans dk_j2) ((dQ_X3_reckon_0 3).trans dk_j3) ((dQ_X3_reckon_0 4).trans dk_j4) dk_vu2_0_18
theorem dX3_reckon_5 : decode cX3_reckon 5 = .ok (.bipush 8, 2) := dk_16 ((dQ_X3_reckon_0 5).trans dk_j5) ((dQ_X3_reckon_0 6).trans dk_j6) dk_vs1_8
theorem dX3_reckon_7 : decode cX3_reckon 7 = .ok (.iaload, 1) := dk_46 ((dQ_X3_reckon_0 7).trans dk_j7)
theorem dX3_reckon_8 : decode cX3_reckon 8 = .ok (.putfield 23, 3) := dk_181 ((dQ_X3_reckon_0 8).trans dk_j8) ((dQ_X3_reckon_0 9).trans dk_j9) ((dQ_X3_reckon_0 10).trans dk_j10) dk_vu2_0_23
theorem dX3_reckon_11 : decode cX3_reckon 11 = .ok (.aload_n 0, 1) := dk_42 ((dQ_X3_reckon_0 11).trans dk_j11)
theorem dX3_reckon_12 : decode cX3_reckon 12 = .ok (.aload_n 1, 1) := dk_43 ((dQ_X3_reckon_0 12).trans dk_j12)
theorem dX3_reckon_13 : decode cX3_reckon 13 = .ok (.getfield 18, 3) := dk_180 ((dQ_X3_reckon_0 13).trans dk_j13) ((dQ_X3_reckon_0 14).trans dk_j14) ((dQ_X3_reckon_0 15).trans dk_j15) dk_vu2_0_18
theorem dX3_reckon_16 : decode cX3_reckon 16 = .ok (.iconst 3, 1) := dk_6 ((dQ_X3_reckon_1 0).trans dk_j0)
theorem dX3_reckon_17 : decode cX3_reckon 17 = .ok (.iaload, 1) := dk_46 ((dQ_X3_reckon_1 1).trans dk_j1)
theorem dX3_reckon_18 : decode cX3_reckon 18 = .ok (.putfield 27, 3) := dk_181 ((dQ_X3_reckon_1 2).trans dk_j2) ((dQ_X3_reckon_1 3).trans dk_j3) ((dQ_X3_reckon_1 4).trans dk_j4) dk_vu2_0_27
theorem dX3_reckon_21 : decode cX3_reckon 21 = .ok (.iconst 0, 1) := dk_3 ((dQ_X3_reckon_1 5).trans dk_j5)
theorem dX3_reckon_22 : decode cX3_reckon 22 = .ok (.istore 4, 2) := dk_54 ((dQ_X3_reckon_1 6).trans dk_j6) ((dQ_X3_reckon_1 7).trans dk_j7) dk_vu1_4
theorem dX3_reckon_24 : decode cX3_reckon 24 = .ok (.iload 4, 2) := dk_21 ((dQ_X3_reckon_1 8).trans dk_j8) ((dQ_X3_reckon_1 9).trans dk_j9) dk_vu1_4
theorem dX3_reckon_26 : decode cX3_reckon 26 = .ok (.aload_n 0, 1) := dk_42 ((dQ_X3_reckon_1 10).trans dk_j10)
theorem dX3_reckon_27 : decode cX3_reckon 27 = .ok (.getfield 23, 3) := dk_180 ((dQ_X3_reckon_1 11).trans dk_j11) ((dQ_X3_reckon_1 12).trans dk_j12) ((dQ_X3_reckon_1 13).trans dk_j13) dk_vu2_0_23
theorem dk_vs2_0_85 : Reader.signed 16 ((0x00 : UInt8).toNat * 256 + (0x55 : UInt8).toNat) = (85 : Int) := by decide +kernel
theorem dX3_reckon_30 : decode cX3_reckon 30 = .ok (.if_icmp .ge 85, 3) := dk_162 ((dQ_X3_reckon_1 14).trans dk_j14) ((dQ_X3_reckon_1 15).trans dk_j15) ((dQ_X3_reckon_2 0).trans dk_j0) dk_vs2_0_85
theorem dX3_reckon_33 : decode cX3_reckon 33 = .ok (.aload_n 1, 1) := dk_43 ((dQ_X3_reckon_2 1).trans dk_j1)
theorem dX3_reckon_34 : decode cX3_reckon 34 = .ok (.iload 4, 2) := dk_21 ((dQ_X3_reckon_2 2).trans dk_j2) ((dQ_X3_reckon_2 3).trans dk_j3) dk_vu1_4
theorem dX3_reckon_36 : decode cX3_reckon 36 = .ok (.iconst 0, 1) := dk_3 ((dQ_X3_reckon_2 4).trans dk_j4)
theorem dX3_reckon_37 : decode cX3_reckon 37 = .ok (.invokevirtual 30, 3) := dk_182 ((dQ_X3_reckon_2 5).trans dk_j5) ((dQ_X3_reckon_2 6).trans dk_j6) ((dQ_X3_reckon_2 7).trans dk_j7) dk_vu2_0_30
theorem dX3_reckon_40 : decode cX3_reckon 40 = .ok (.istore 5, 2) := dk_54 ((dQ_X3_reckon_2 8).trans dk_j8) ((dQ_X3_reckon_2 9).trans dk_j9) dk_vu1_5
theorem dX3_reckon_42 : decode cX3_reckon 42 = .ok (.aload_n 2, 1) := dk_44 ((dQ_X3_reckon_2 10).trans dk_j10)
theorem dX3_reckon_43 : decode cX3_reckon 43 = .ok (.getfield 34, 3) := dk_180 ((dQ_X3_reckon_2 11).trans dk_j11) ((dQ_X3_reckon_2 12).trans dk_j12) ((dQ_X3_reckon_2 13).trans dk_j13) dk_vu2_0_34
theorem dX3_reckon_46 : decode cX3_reckon 46 = .ok (.iload 5, 2) := dk_21 ((dQ_X3_reckon_2 14).trans dk_j14) ((dQ_X3_reckon_2 15).trans dk_j15) dk_vu1_5
theorem dX3_reckon_48 : decode cX3_reckon 48 = .ok (.iaload, 1) := dk_46 ((dQ_X3_reckon_3 0).trans dk_j0)
theorem dX3_reckon_49 : decode cX3_reckon 49 = .ok (.istore 6, 2) := dk_54 ((dQ_X3_reckon_3 1).trans dk_j1) ((dQ_X3_reckon_3 2).trans dk_j2) dk_vu1_6
theorem dX3_reckon_51 : decode cX3_reckon 51 = .ok (.aload_n 0, 1) := dk_42 ((dQ_X3_reckon_3 3).trans dk_j3)
theorem dX3_reckon_52 : decode cX3_reckon 52 = .ok (.dup, 1) := dk_89 ((dQ_X3_reckon_3 4).trans dk_j4)
theorem dX3_reckon_53 : decode cX3_reckon 53 = .ok (.getfield 27, 3) := dk_180 ((dQ_X3_reckon_3 5).trans dk_j5) ((dQ_X3_reckon_3 6).trans dk_j6) ((dQ_X3_reckon_3 7).trans dk_j7) dk_vu2_0_27
theorem dX3_reckon_56 : decode cX3_reckon 56 = .ok (.aload_n 1, 1) := dk_43 ((dQ_X3_reckon_3 8).trans dk_j8)
theorem dX3_reckon_57 : decode cX3_reckon 57 = .ok (.iload 4, 2) := dk_21 ((dQ_X3_reckon_3 9).trans dk_j9) ((dQ_X3_reckon_3 10).trans dk_j10) dk_vu1_4
theorem dX3_reckon_59 : decode cX3_reckon 59 = .ok (.iconst 4, 1) := dk_7 ((dQ_X3_reckon_3 11).trans dk_j11)
theorem dX3_reckon_60 : decode cX3_reckon 60 = .ok (.invokevirtual 30, 3) := dk_182 ((dQ_X3_reckon_3 12).trans dk_j12) ((dQ_X3_reckon_3 13).trans dk_j13) ((dQ_X3_reckon_3 14).trans dk_j14) dk_vu2_0_30
theorem dX3_reckon_63 : decode cX3_reckon 63 = .ok (.iadd, 1) := dk_96 ((dQ_X3_reckon_3 15).trans dk_j15)
theorem dX3_reckon_64 : decode cX3_reckon 64 = .ok (.putfield 27, 3) := dk_181 ((dQ_X3_reckon_4 0).trans dk_j0) ((dQ_X3_reckon_4 1).trans dk_j1) ((dQ_X3_reckon_4 2).trans dk_j2) dk_vu2_0_27
theorem dX3_reckon_67 : decode cX3_reckon 67 = .ok (.aload_n 0, 1) := dk_42 ((dQ_X3_reckon_4 3).trans dk_j3)
theorem dX3_reckon_68 : decode cX3_reckon 68 = .ok (.getfield 9, 3) := dk_180 ((dQ_X3_reckon_4 4).trans dk_j4) ((dQ_X3_reckon_4 5).trans dk_j5) ((dQ_X3_reckon_4 6).trans dk_j6) dk_vu2_0_9
theorem dX3_reckon_71 : decode cX3_reckon 71 = .ok (.iload 4, 2) := dk_21 ((dQ_X3_reckon_4 7).trans dk_j7) ((dQ_X3_reckon_4 8).trans dk_j8) dk_vu1_4
theorem dX3_reckon_73 : decode cX3_reckon 73 = .ok (.aload_n 1, 1) := dk_43 ((dQ_X3_reckon_4 9).trans dk_j9)
theorem dX3_reckon_74 : decode cX3_reckon 74 = .ok (.iload_n 3, 1) := dk_29 ((dQ_X3_reckon_4 10).trans dk_j10)
theorem dX3_reckon_75 : decode cX3_reckon 75 = .ok (.iload 4, 2) := dk_21 ((dQ_X3_reckon_4 11).trans dk_j11) ((dQ_X3_reckon_4 12).trans dk_j12) dk_vu1_4
theorem dX3_reckon_77 : decode cX3_reckon 77 = .ok (.iload 6, 2) := dk_21 ((dQ_X3_reckon_4 13).trans dk_j13) ((dQ_X3_reckon_4 14).trans dk_j14) dk_vu1_6
theorem dX3_reckon_79 : decode cX3_reckon 79 = .ok (.aload_n 2, 1) := dk_44 ((dQ_X3_reckon_4 15).trans dk_j15)
theorem dk_vu2_0_39 : (0x00 : UInt8).toNat * 256 + (0x27 : UInt8).toNat = (39 : Nat) := by decide +kernel
theorem dX3_reckon_80 : decode cX3_reckon 80 = .ok (.getfield 39, 3) := dk_180 ((dQ_X3_reckon_5 0).trans dk_j0) ((dQ_X3_reckon_5 1).trans dk_j1) ((dQ_X3_reckon_5 2).trans dk_j2) dk_vu2_0_39
theorem dX3_reckon_83 : decode cX3_reckon 83 = .ok (.iload 5, 2) := dk_21 ((dQ_X3_reckon_5 3).trans dk_j3) ((dQ_X3_reckon_5 4).trans dk_j4) dk_vu1_5
theorem dX3_reckon_85 : decode cX3_reckon 85 = .ok (.iaload, 1) := dk_46 ((dQ_X3_reckon_5 5).trans dk_j5)
theorem dk_vu2_0_42 : (0x00 : UInt8).toNat * 256 + (0x2a : UInt8).toNat = (42 : Nat) := by decide +kernel
theorem dX3_reckon_86 : decode cX3_reckon 86 = .ok (.invokestatic 42, 3) := dk_184 ((dQ_X3_reckon_5 6).trans dk_j6) ((dQ_X3_reckon_5 7).trans dk_j7) ((dQ_X3_reckon_5 8).trans dk_j8) dk_vu2_0_42
theorem dX3_reckon_89 : decode cX3_reckon 89 = .ok (.iastore, 1) := dk_79 ((dQ_X3_reckon_5 9).trans dk_j9)
theorem dX3_reckon_90 : decode cX3_reckon 90 = .ok (.aload_n 0, 1) := dk_42 ((dQ_X3_reckon_5 10).trans dk_j10)
theorem dX3_reckon_91 : decode cX3_reckon 91 = .ok (.getfield 15, 3) := dk_180 ((dQ_X3_reckon_5 11).trans dk_j11) ((dQ_X3_reckon_5 12).trans dk_j12) ((dQ_X3_reckon_5 13).trans dk_j13) dk_vu2_0_15
theorem dX3_reckon_94 : decode cX3_reckon 94 = .ok (.iload 4, 2) := dk_21 ((dQ_X3_reckon_5 14).trans dk_j14) ((dQ_X3_reckon_5 15).trans dk_j15) dk_vu1_4
theorem dX3_reckon_96 : decode cX3_reckon 96 = .ok (.aload_n 1, 1) := dk_43 ((dQ_X3_reckon_6 0).trans dk_j0)
theorem dX3_reckon_97 : decode cX3_reckon 97 = .ok (.iload_n 3, 1) := dk_29 ((dQ_X3_reckon_6 1).trans dk_j1)
theorem dX3_reckon_98 : decode cX3_reckon 98 = .ok (.iload 4, 2) := dk_21 ((dQ_X3_reckon_6 2).trans dk_j2) ((dQ_X3_reckon_6 3).trans dk_j3) dk_vu1_4
theorem dX3_reckon_100 : decode cX3_reckon 100 = .ok (.iload 6, 2) := dk_21 ((dQ_X3_reckon_6 4).trans dk_j4) ((dQ_X3_reckon_6 5).trans dk_j5) dk_vu1_6
theorem dX3_reckon_102 : decode cX3_reckon 102 = .ok (.invokestatic 46, 3) := dk_184 ((dQ_X3_reckon_6 6).trans dk_j6) ((dQ_X3_reckon_6 7).trans dk_j7) ((dQ_X3_reckon_6 8).trans dk_j8) dk_vu2_0_46
theorem dk_vu2_0_50 : (0x00 : UInt8).toNat * 256 + (0x32 : UInt8).toNat = (50 : Nat) := by decide +kernel
theorem dX3_reckon_105 : decode cX3_reckon 105 = .ok (.invokestatic 50, 3) := dk_184 ((dQ_X3_reckon_6 9).trans dk_j9) ((dQ_X3_reckon_6 10).trans dk_j10) ((dQ_X3_reckon_6 11).trans dk_j11) dk_vu2_0_50
theorem dX3_reckon_108 : decode cX3_reckon 108 = .ok (.iastore, 1) := dk_79 ((dQ_X3_reckon_6 12).trans dk_j12)
theorem dX3_reckon_109 : decode cX3_reckon 109 = .ok (.iinc 4 1, 3) := dk_132 ((dQ_X3_reckon_6 13).trans dk_j13) ((dQ_X3_reckon_6 14).trans dk_j14) ((dQ_X3_reckon_6 15).trans dk_j15) dk_vu1_4 dk_vs1_1
theorem dk_vs2_255_168 : Reader.signed 16 ((0xff : UInt8).toNat * 256 + (0xa8 : UInt8).toNat) = (-88 : Int) := by decide +kernel
theorem dX3_reckon_112 : decode cX3_reckon 112 = .ok (.goto (-88), 3) := dk_167 ((dQ_X3_reckon_7 0).trans dk_j0) ((dQ_X3_reckon_7 1).trans dk_j1) ((dQ_X3_reckon_7 2).trans dk_j2) dk_vs2_255_168
theorem dX3_reckon_115 : decode cX3_reckon 115 = .ok (.return_, 1) := dk_177 ((dQ_X3_reckon_7 3).trans dk_j3)
def dT_X3_counting_1 : List UInt8 := (0x2a : UInt8) :: (0xb6 : UInt8) :: (0x00 : UInt8) :: (0x39 : UInt8) :: (0x02 : UInt8) :: (0x82 : UInt8) :: (0x7e : UInt8) :: (0xa7 : UInt8) :: (0x00 : UInt8) :: (0x05 : UInt8) :: (0x15 : UInt8) :: (0x04 : UInt8) :: (0xac : UInt8) :: []
def dT_X3_counting_0 : List UInt8 := (0x1d : UInt8) :: (0x2a : UInt8) :: (0x1c : UInt8) :: (0xb6 : UInt8) :: (0x00 : UInt8) :: (0x36 : UInt8) :: (0x7e : UInt8) :: (0x36 : UInt8) :: (0x04 : UInt8) :: (0x1b : UInt8) :: (0x04 : UInt8) :: (0xa0 : UInt8) :: (0x00 : UInt8) :: (0x0f : UInt8) :: (0x15 : UInt8) :: (0x04 : UInt8) :: dT_X3_counting_1
theorem dT_X3_counting : cX3_counting.data.toList = dT_X3_counting_0 := eq_of_beq (show (cX3_counting.data.toList == dT_X3_counting_0) = true by decide +kernel)
theorem dQ_X3_counting_0 : dQ_P cX3_counting 0 dT_X3_counting_0 := fun i => by rw [dT_X3_counting]; rfl
theorem dQ_X3_counting_1 : dQ_P cX3_counting 16 dT_X3_counting_1 := fun i => (dQ_X3_counting_0 (i + 16)).trans dk_t
theorem dX3_counting_0 : decode cX3_counting 0 = .ok (.iload_n 3, 1) := dk_29 ((dQ_X3_counting_0 0).trans dk_j0)
theorem dX3_counting_1 : decode cX3_counting 1 = .ok (.aload_n 0, 1) := dk_42 ((dQ_X3_counting_0 1).trans dk_j1)
theorem dX3_counting_2 : decode cX3_counting 2 = .ok (.iload_n 2, 1) := dk_28 ((dQ_X3_counting_0 2).trans dk_j2)
theorem dX3_counting_3 : decode cX3_counting 3 = .ok (.invokevirtual 54, 3) := dk_182 ((dQ_X3_counting_0 3).trans dk_j3) ((dQ_X3_counting_0 4).trans dk_j4) ((dQ_X3_counting_0 5).trans dk_j5) dk_vu2_0_54
theorem dX3_counting_6 : decode cX3_counting 6 = .ok (.iand, 1) := dk_126 ((dQ_X3_counting_0 6).trans dk_j6)
theorem dX3_counting_7 : decode cX3_counting 7 = .ok (.istore 4, 2) := dk_54 ((dQ_X3_counting_0 7).trans dk_j7) ((dQ_X3_counting_0 8).trans dk_j8) dk_vu1_4
theorem dX3_counting_9 : decode cX3_counting 9 = .ok (.iload_n 1, 1) := dk_27 ((dQ_X3_counting_0 9).trans dk_j9)
theorem dX3_counting_10 : decode cX3_counting 10 = .ok (.iconst 1, 1) := dk_4 ((dQ_X3_counting_0 10).trans dk_j10)
theorem dX3_counting_11 : decode cX3_counting 11 = .ok (.if_icmp .ne 15, 3) := dk_160 ((dQ_X3_counting_0 11).trans dk_j11) ((dQ_X3_counting_0 12).trans dk_j12) ((dQ_X3_counting_0 13).trans dk_j13) dk_vs2_0_15
theorem dX3_counting_14 : decode cX3_counting 14 = .ok (.iload 4, 2) := dk_21 ((dQ_X3_counting_0 14).trans dk_j14) ((dQ_X3_counting_0 15).trans dk_j15) dk_vu1_4
theorem dX3_counting_16 : decode cX3_counting 16 = .ok (.aload_n 0, 1) := dk_42 ((dQ_X3_counting_1 0).trans dk_j0)
theorem dX3_counting_17 : decode cX3_counting 17 = .ok (.invokevirtual 57, 3) := dk_182 ((dQ_X3_counting_1 1).trans dk_j1) ((dQ_X3_counting_1 2).trans dk_j2) ((dQ_X3_counting_1 3).trans dk_j3) dk_vu2_0_57
theorem dX3_counting_20 : decode cX3_counting 20 = .ok (.iconst (-1), 1) := dk_2 ((dQ_X3_counting_1 4).trans dk_j4)
theorem dX3_counting_21 : decode cX3_counting 21 = .ok (.ixor, 1) := dk_130 ((dQ_X3_counting_1 5).trans dk_j5)
theorem dX3_counting_22 : decode cX3_counting 22 = .ok (.iand, 1) := dk_126 ((dQ_X3_counting_1 6).trans dk_j6)
theorem dX3_counting_23 : decode cX3_counting 23 = .ok (.goto 5, 3) := dk_167 ((dQ_X3_counting_1 7).trans dk_j7) ((dQ_X3_counting_1 8).trans dk_j8) ((dQ_X3_counting_1 9).trans dk_j9) dk_vs2_0_5
theorem dX3_counting_26 : decode cX3_counting 26 = .ok (.iload 4, 2) := dk_21 ((dQ_X3_counting_1 10).trans dk_j10) ((dQ_X3_counting_1 11).trans dk_j11) dk_vu1_4
theorem dX3_counting_28 : decode cX3_counting 28 = .ok (.ireturn, 1) := dk_172 ((dQ_X3_counting_1 12).trans dk_j12)
def dT_X3_claimBy_5 : List UInt8 := (0xac : UInt8) :: []
def dT_X3_claimBy_4 : List UInt8 := (0x04 : UInt8) :: (0x15 : UInt8) :: (0x07 : UInt8) :: (0x7e : UInt8) :: (0x99 : UInt8) :: (0x00 : UInt8) :: (0x0a : UInt8) :: (0x15 : UInt8) :: (0x06 : UInt8) :: (0x05 : UInt8) :: (0x6c : UInt8) :: (0xa7 : UInt8) :: (0x00 : UInt8) :: (0x05 : UInt8) :: (0x15 : UInt8) :: (0x06 : UInt8) :: dT_X3_claimBy_5
def dT_X3_claimBy_3 : List UInt8 := (0x00 : UInt8) :: (0x47 : UInt8) :: (0x2a : UInt8) :: (0x1c : UInt8) :: (0xb6 : UInt8) :: (0x00 : UInt8) :: (0x36 : UInt8) :: (0x7e : UInt8) :: (0x36 : UInt8) :: (0x07 : UInt8) :: (0x1b : UInt8) :: (0x06 : UInt8) :: (0xa0 : UInt8) :: (0x00 : UInt8) :: (0x12 : UInt8) :: (0x15 : UInt8) :: dT_X3_claimBy_4
def dT_X3_claimBy_2 : List UInt8 := (0x15 : UInt8) :: (0x05 : UInt8) :: (0xb8 : UInt8) :: (0x00 : UInt8) :: (0x3d : UInt8) :: (0xb8 : UInt8) :: (0x00 : UInt8) :: (0x42 : UInt8) :: (0x68 : UInt8) :: (0xac : UInt8) :: (0x15 : UInt8) :: (0x05 : UInt8) :: (0xb8 : UInt8) :: (0x00 : UInt8) :: (0x32 : UInt8) :: (0xb8 : UInt8) :: dT_X3_claimBy_3
def dT_X3_claimBy_1 : List UInt8 := (0x06 : UInt8) :: (0x15 : UInt8) :: (0x05 : UInt8) :: (0x9a : UInt8) :: (0x00 : UInt8) :: (0x05 : UInt8) :: (0x03 : UInt8) :: (0xac : UInt8) :: (0x1b : UInt8) :: (0x05 : UInt8) :: (0xa0 : UInt8) :: (0x00 : UInt8) :: (0x10 : UInt8) :: (0x15 : UInt8) :: (0x06 : UInt8) :: (0x06 : UInt8) :: dT_X3_claimBy_2
def dT_X3_claimBy_0 : List UInt8 := (0x2a : UInt8) :: (0x1b : UInt8) :: (0x1c : UInt8) :: (0x1d : UInt8) :: (0xb8 : UInt8) :: (0x00 : UInt8) :: (0x2e : UInt8) :: (0x36 : UInt8) :: (0x05 : UInt8) :: (0x2a : UInt8) :: (0x1c : UInt8) :: (0x06 : UInt8) :: (0xb6 : UInt8) :: (0x00 : UInt8) :: (0x1e : UInt8) :: (0x36 : UInt8) :: dT_X3_claimBy_1
theorem dT_X3_claimBy : cX3_claimBy.data.toList = dT_X3_claimBy_0 := eq_of_beq (show (cX3_claimBy.data.toList == dT_X3_claimBy_0) = true by decide +kernel)
theorem dQ_X3_claimBy_0 : dQ_P cX3_claimBy 0 dT_X3_claimBy_0 := fun i => by rw [dT_X3_claimBy]; rfl
theorem dQ_X3_claimBy_1 : dQ_P cX3_claimBy 16 dT_X3_claimBy_1 := fun i => (dQ_X3_claimBy_0 (i + 16)).trans dk_t
theorem dQ_X3_claimBy_2 : dQ_P cX3_claimBy 32 dT_X3_claimBy_2 := fun i => (dQ_X3_claimBy_1 (i + 16)).trans dk_t
theorem dQ_X3_claimBy_3 : dQ_P cX3_claimBy 48 dT_X3_claimBy_3 := fun i => (dQ_X3_claimBy_2 (i + 16)).trans dk_t
theorem dQ_X3_claimBy_4 : dQ_P cX3_claimBy 64 dT_X3_claimBy_4 := fun i => (dQ_X3_claimBy_3 (i + 16)).trans dk_t
theorem dQ_X3_claimBy_5 : dQ_P cX3_claimBy 80 dT_X3_claimBy_5 := fun i => (dQ_X3_claimBy_4 (i + 16)).trans dk_t
theorem dX3_claimBy_0 : decode cX3_claimBy 0 = .ok (.aload_n 0, 1) := dk_42 ((dQ_X3_claimBy_0 0).trans dk_j0)
theorem dX3_claimBy_1 : decode cX3_claimBy 1 = .ok (.iload_n 1, 1) := dk_27 ((dQ_X3_claimBy_0 1).trans dk_j1)
theorem dX3_claimBy_2 : decode cX3_claimBy 2 = .ok (.iload_n 2, 1) := dk_28 ((dQ_X3_claimBy_0 2).trans dk_j2)
theorem dX3_claimBy_3 : decode cX3_claimBy 3 = .ok (.iload_n 3, 1) := dk_29 ((dQ_X3_claimBy_0 3).trans dk_j3)
theorem dX3_claimBy_4 : decode cX3_claimBy 4 = .ok (.invokestatic 46, 3) := dk_184 ((dQ_X3_claimBy_0 4).trans dk_j4) ((dQ_X3_claimBy_0 5).trans dk_j5) ((dQ_X3_claimBy_0 6).trans dk_j6) dk_vu2_0_46
theorem dX3_claimBy_7 : decode cX3_claimBy 7 = .ok (.istore 5, 2) := dk_54 ((dQ_X3_claimBy_0 7).trans dk_j7) ((dQ_X3_claimBy_0 8).trans dk_j8) dk_vu1_5
theorem dX3_claimBy_9 : decode cX3_claimBy 9 = .ok (.aload_n 0, 1) := dk_42 ((dQ_X3_claimBy_0 9).trans dk_j9)
theorem dX3_claimBy_10 : decode cX3_claimBy 10 = .ok (.iload_n 2, 1) := dk_28 ((dQ_X3_claimBy_0 10).trans dk_j10)
theorem dX3_claimBy_11 : decode cX3_claimBy 11 = .ok (.iconst 3, 1) := dk_6 ((dQ_X3_claimBy_0 11).trans dk_j11)
theorem dX3_claimBy_12 : decode cX3_claimBy 12 = .ok (.invokevirtual 30, 3) := dk_182 ((dQ_X3_claimBy_0 12).trans dk_j12) ((dQ_X3_claimBy_0 13).trans dk_j13) ((dQ_X3_claimBy_0 14).trans dk_j14) dk_vu2_0_30
theorem dX3_claimBy_15 : decode cX3_claimBy 15 = .ok (.istore 6, 2) := dk_54 ((dQ_X3_claimBy_0 15).trans dk_j15) ((dQ_X3_claimBy_1 0).trans dk_j0) dk_vu1_6
theorem dX3_claimBy_17 : decode cX3_claimBy 17 = .ok (.iload 5, 2) := dk_21 ((dQ_X3_claimBy_1 1).trans dk_j1) ((dQ_X3_claimBy_1 2).trans dk_j2) dk_vu1_5
theorem dX3_claimBy_19 : decode cX3_claimBy 19 = .ok (.ifCond .ne 5, 3) := dk_154 ((dQ_X3_claimBy_1 3).trans dk_j3) ((dQ_X3_claimBy_1 4).trans dk_j4) ((dQ_X3_claimBy_1 5).trans dk_j5) dk_vs2_0_5
theorem dX3_claimBy_22 : decode cX3_claimBy 22 = .ok (.iconst 0, 1) := dk_3 ((dQ_X3_claimBy_1 6).trans dk_j6)
theorem dX3_claimBy_23 : decode cX3_claimBy 23 = .ok (.ireturn, 1) := dk_172 ((dQ_X3_claimBy_1 7).trans dk_j7)
theorem dX3_claimBy_24 : decode cX3_claimBy 24 = .ok (.iload_n 1, 1) := dk_27 ((dQ_X3_claimBy_1 8).trans dk_j8)
theorem dX3_claimBy_25 : decode cX3_claimBy 25 = .ok (.iconst 2, 1) := dk_5 ((dQ_X3_claimBy_1 9).trans dk_j9)
theorem dX3_claimBy_26 : decode cX3_claimBy 26 = .ok (.if_icmp .ne 16, 3) := dk_160 ((dQ_X3_claimBy_1 10).trans dk_j10) ((dQ_X3_claimBy_1 11).trans dk_j11) ((dQ_X3_claimBy_1 12).trans dk_j12) dk_vs2_0_16
theorem dX3_claimBy_29 : decode cX3_claimBy 29 = .ok (.iload 6, 2) := dk_21 ((dQ_X3_claimBy_1 13).trans dk_j13) ((dQ_X3_claimBy_1 14).trans dk_j14) dk_vu1_6
theorem dX3_claimBy_31 : decode cX3_claimBy 31 = .ok (.iconst 3, 1) := dk_6 ((dQ_X3_claimBy_1 15).trans dk_j15)
theorem dX3_claimBy_32 : decode cX3_claimBy 32 = .ok (.iload 5, 2) := dk_21 ((dQ_X3_claimBy_2 0).trans dk_j0) ((dQ_X3_claimBy_2 1).trans dk_j1) dk_vu1_5
theorem dX3_claimBy_34 : decode cX3_claimBy 34 = .ok (.invokestatic 61, 3) := dk_184 ((dQ_X3_claimBy_2 2).trans dk_j2) ((dQ_X3_claimBy_2 3).trans dk_j3) ((dQ_X3_claimBy_2 4).trans dk_j4) dk_vu2_0_61
theorem dk_vu2_0_66 : (0x00 : UInt8).toNat * 256 + (0x42 : UInt8).toNat = (66 : Nat) := by decide +kernel
theorem dX3_claimBy_37 : decode cX3_claimBy 37 = .ok (.invokestatic 66, 3) := dk_184 ((dQ_X3_claimBy_2 5).trans dk_j5) ((dQ_X3_claimBy_2 6).trans dk_j6) ((dQ_X3_claimBy_2 7).trans dk_j7) dk_vu2_0_66
theorem dX3_claimBy_40 : decode cX3_claimBy 40 = .ok (.imul, 1) := dk_104 ((dQ_X3_claimBy_2 8).trans dk_j8)
theorem dX3_claimBy_41 : decode cX3_claimBy 41 = .ok (.ireturn, 1) := dk_172 ((dQ_X3_claimBy_2 9).trans dk_j9)
theorem dX3_claimBy_42 : decode cX3_claimBy 42 = .ok (.iload 5, 2) := dk_21 ((dQ_X3_claimBy_2 10).trans dk_j10) ((dQ_X3_claimBy_2 11).trans dk_j11) dk_vu1_5
theorem dX3_claimBy_44 : decode cX3_claimBy 44 = .ok (.invokestatic 50, 3) := dk_184 ((dQ_X3_claimBy_2 12).trans dk_j12) ((dQ_X3_claimBy_2 13).trans dk_j13) ((dQ_X3_claimBy_2 14).trans dk_j14) dk_vu2_0_50
theorem dk_vu2_0_71 : (0x00 : UInt8).toNat * 256 + (0x47 : UInt8).toNat = (71 : Nat) := by decide +kernel
theorem dX3_claimBy_47 : decode cX3_claimBy 47 = .ok (.invokestatic 71, 3) := dk_184 ((dQ_X3_claimBy_2 15).trans dk_j15) ((dQ_X3_claimBy_3 0).trans dk_j0) ((dQ_X3_claimBy_3 1).trans dk_j1) dk_vu2_0_71
theorem dX3_claimBy_50 : decode cX3_claimBy 50 = .ok (.aload_n 0, 1) := dk_42 ((dQ_X3_claimBy_3 2).trans dk_j2)
theorem dX3_claimBy_51 : decode cX3_claimBy 51 = .ok (.iload_n 2, 1) := dk_28 ((dQ_X3_claimBy_3 3).trans dk_j3)
theorem dX3_claimBy_52 : decode cX3_claimBy 52 = .ok (.invokevirtual 54, 3) := dk_182 ((dQ_X3_claimBy_3 4).trans dk_j4) ((dQ_X3_claimBy_3 5).trans dk_j5) ((dQ_X3_claimBy_3 6).trans dk_j6) dk_vu2_0_54
theorem dX3_claimBy_55 : decode cX3_claimBy 55 = .ok (.iand, 1) := dk_126 ((dQ_X3_claimBy_3 7).trans dk_j7)
theorem dX3_claimBy_56 : decode cX3_claimBy 56 = .ok (.istore 7, 2) := dk_54 ((dQ_X3_claimBy_3 8).trans dk_j8) ((dQ_X3_claimBy_3 9).trans dk_j9) dk_vu1_7
theorem dX3_claimBy_58 : decode cX3_claimBy 58 = .ok (.iload_n 1, 1) := dk_27 ((dQ_X3_claimBy_3 10).trans dk_j10)
theorem dX3_claimBy_59 : decode cX3_claimBy 59 = .ok (.iconst 3, 1) := dk_6 ((dQ_X3_claimBy_3 11).trans dk_j11)
theorem dX3_claimBy_60 : decode cX3_claimBy 60 = .ok (.if_icmp .ne 18, 3) := dk_160 ((dQ_X3_claimBy_3 12).trans dk_j12) ((dQ_X3_claimBy_3 13).trans dk_j13) ((dQ_X3_claimBy_3 14).trans dk_j14) dk_vs2_0_18
theorem dX3_claimBy_63 : decode cX3_claimBy 63 = .ok (.iload 4, 2) := dk_21 ((dQ_X3_claimBy_3 15).trans dk_j15) ((dQ_X3_claimBy_4 0).trans dk_j0) dk_vu1_4
theorem dX3_claimBy_65 : decode cX3_claimBy 65 = .ok (.iload 7, 2) := dk_21 ((dQ_X3_claimBy_4 1).trans dk_j1) ((dQ_X3_claimBy_4 2).trans dk_j2) dk_vu1_7
theorem dX3_claimBy_67 : decode cX3_claimBy 67 = .ok (.iand, 1) := dk_126 ((dQ_X3_claimBy_4 3).trans dk_j3)
theorem dX3_claimBy_68 : decode cX3_claimBy 68 = .ok (.ifCond .eq 10, 3) := dk_153 ((dQ_X3_claimBy_4 4).trans dk_j4) ((dQ_X3_claimBy_4 5).trans dk_j5) ((dQ_X3_claimBy_4 6).trans dk_j6) dk_vs2_0_10
theorem dX3_claimBy_71 : decode cX3_claimBy 71 = .ok (.iload 6, 2) := dk_21 ((dQ_X3_claimBy_4 7).trans dk_j7) ((dQ_X3_claimBy_4 8).trans dk_j8) dk_vu1_6
theorem dX3_claimBy_73 : decode cX3_claimBy 73 = .ok (.iconst 2, 1) := dk_5 ((dQ_X3_claimBy_4 9).trans dk_j9)
theorem dX3_claimBy_74 : decode cX3_claimBy 74 = .ok (.idiv, 1) := dk_108 ((dQ_X3_claimBy_4 10).trans dk_j10)
theorem dX3_claimBy_75 : decode cX3_claimBy 75 = .ok (.goto 5, 3) := dk_167 ((dQ_X3_claimBy_4 11).trans dk_j11) ((dQ_X3_claimBy_4 12).trans dk_j12) ((dQ_X3_claimBy_4 13).trans dk_j13) dk_vs2_0_5
theorem dX3_claimBy_78 : decode cX3_claimBy 78 = .ok (.iload 6, 2) := dk_21 ((dQ_X3_claimBy_4 14).trans dk_j14) ((dQ_X3_claimBy_4 15).trans dk_j15) dk_vu1_6
theorem dX3_claimBy_80 : decode cX3_claimBy 80 = .ok (.ireturn, 1) := dk_172 ((dQ_X3_claimBy_5 0).trans dk_j0)
def dT_X3_moneyAt_3 : List UInt8 := (0xff : UInt8) :: (0xd8 : UInt8) :: (0x1c : UInt8) :: (0xac : UInt8) :: []
def dT_X3_moneyAt_2 : List UInt8 := (0xa3 : UInt8) :: (0x00 : UInt8) :: (0x0c : UInt8) :: (0x1c : UInt8) :: (0x2a : UInt8) :: (0xb4 : UInt8) :: (0x00 : UInt8) :: (0x09 : UInt8) :: (0x1d : UInt8) :: (0x2e : UInt8) :: (0x64 : UInt8) :: (0x3d : UInt8) :: (0x84 : UInt8) :: (0x03 : UInt8) :: (0x01 : UInt8) :: (0xa7 : UInt8) :: dT_X3_moneyAt_3
def dT_X3_moneyAt_1 : List UInt8 := (0xb4 : UInt8) :: (0x00 : UInt8) :: (0x0f : UInt8) :: (0x1d : UInt8) :: (0x2e : UInt8) :: (0x02 : UInt8) :: (0x9f : UInt8) :: (0x00 : UInt8) :: (0x16 : UInt8) :: (0x2a : UInt8) :: (0xb4 : UInt8) :: (0x00 : UInt8) :: (0x0f : UInt8) :: (0x1d : UInt8) :: (0x2e : UInt8) :: (0x1b : UInt8) :: dT_X3_moneyAt_2
def dT_X3_moneyAt_0 : List UInt8 := (0x2a : UInt8) :: (0xb4 : UInt8) :: (0x00 : UInt8) :: (0x1b : UInt8) :: (0x3d : UInt8) :: (0x03 : UInt8) :: (0x3e : UInt8) :: (0x1d : UInt8) :: (0x2a : UInt8) :: (0xb4 : UInt8) :: (0x00 : UInt8) :: (0x17 : UInt8) :: (0xa2 : UInt8) :: (0x00 : UInt8) :: (0x26 : UInt8) :: (0x2a : UInt8) :: dT_X3_moneyAt_1
theorem dT_X3_moneyAt : cX3_moneyAt.data.toList = dT_X3_moneyAt_0 := eq_of_beq (show (cX3_moneyAt.data.toList == dT_X3_moneyAt_0) = true by decide +kernel)
theorem dQ_X3_moneyAt_0 : dQ_P cX3_moneyAt 0 dT_X3_moneyAt_0 := fun i => by rw [dT_X3_moneyAt]; rfl
theorem dQ_X3_moneyAt_1 : dQ_P cX3_moneyAt 16 dT_X3_moneyAt_1 := fun i => (dQ_X3_moneyAt_0 (i + 16)).trans dk_t
theorem dQ_X3_moneyAt_2 : dQ_P cX3_moneyAt 32 dT_X3_moneyAt_2 := fun i => (dQ_X3_moneyAt_1 (i + 16)).trans dk_t
theorem dQ_X3_moneyAt_3 : dQ_P cX3_moneyAt 48 dT_X3_moneyAt_3 := fun i => (dQ_X3_moneyAt_2 (i + 16)).trans dk_t
theorem dX3_moneyAt_0 : decode cX3_moneyAt 0 = .ok (.aload_n 0, 1) := dk_42 ((dQ_X3_moneyAt_0 0).trans dk_j0)
theorem dX3_moneyAt_1 : decode cX3_moneyAt 1 = .ok (.getfield 27, 3) := dk_180 ((dQ_X3_moneyAt_0 1).trans dk_j1) ((dQ_X3_moneyAt_0 2).trans dk_j2) ((dQ_X3_moneyAt_0 3).trans dk_j3) dk_vu2_0_27
theorem dX3_moneyAt_4 : decode cX3_moneyAt 4 = .ok (.istore_n 2, 1) := dk_61 ((dQ_X3_moneyAt_0 4).trans dk_j4)
theorem dX3_moneyAt_5 : decode cX3_moneyAt 5 = .ok (.iconst 0, 1) := dk_3 ((dQ_X3_moneyAt_0 5).trans dk_j5)
theorem dX3_moneyAt_6 : decode cX3_moneyAt 6 = .ok (.istore_n 3, 1) := dk_62 ((dQ_X3_moneyAt_0 6).trans dk_j6)
theorem dX3_moneyAt_7 : decode cX3_moneyAt 7 = .ok (.iload_n 3, 1) := dk_29 ((dQ_X3_moneyAt_0 7).trans dk_j7)
theorem dX3_moneyAt_8 : decode cX3_moneyAt 8 = .ok (.aload_n 0, 1) := dk_42 ((dQ_X3_moneyAt_0 8).trans dk_j8)
theorem dX3_moneyAt_9 : decode cX3_moneyAt 9 = .ok (.getfield 23, 3) := dk_180 ((dQ_X3_moneyAt_0 9).trans dk_j9) ((dQ_X3_moneyAt_0 10).trans dk_j10) ((dQ_X3_moneyAt_0 11).trans dk_j11) dk_vu2_0_23
theorem dX3_moneyAt_12 : decode cX3_moneyAt 12 = .ok (.if_icmp .ge 38, 3) := dk_162 ((dQ_X3_moneyAt_0 12).trans dk_j12) ((dQ_X3_moneyAt_0 13).trans dk_j13) ((dQ_X3_moneyAt_0 14).trans dk_j14) dk_vs2_0_38
theorem dX3_moneyAt_15 : decode cX3_moneyAt 15 = .ok (.aload_n 0, 1) := dk_42 ((dQ_X3_moneyAt_0 15).trans dk_j15)
theorem dX3_moneyAt_16 : decode cX3_moneyAt 16 = .ok (.getfield 15, 3) := dk_180 ((dQ_X3_moneyAt_1 0).trans dk_j0) ((dQ_X3_moneyAt_1 1).trans dk_j1) ((dQ_X3_moneyAt_1 2).trans dk_j2) dk_vu2_0_15
theorem dX3_moneyAt_19 : decode cX3_moneyAt 19 = .ok (.iload_n 3, 1) := dk_29 ((dQ_X3_moneyAt_1 3).trans dk_j3)
theorem dX3_moneyAt_20 : decode cX3_moneyAt 20 = .ok (.iaload, 1) := dk_46 ((dQ_X3_moneyAt_1 4).trans dk_j4)
theorem dX3_moneyAt_21 : decode cX3_moneyAt 21 = .ok (.iconst (-1), 1) := dk_2 ((dQ_X3_moneyAt_1 5).trans dk_j5)
theorem dX3_moneyAt_22 : decode cX3_moneyAt 22 = .ok (.if_icmp .eq 22, 3) := dk_159 ((dQ_X3_moneyAt_1 6).trans dk_j6) ((dQ_X3_moneyAt_1 7).trans dk_j7) ((dQ_X3_moneyAt_1 8).trans dk_j8) dk_vs2_0_22
theorem dX3_moneyAt_25 : decode cX3_moneyAt 25 = .ok (.aload_n 0, 1) := dk_42 ((dQ_X3_moneyAt_1 9).trans dk_j9)
theorem dX3_moneyAt_26 : decode cX3_moneyAt 26 = .ok (.getfield 15, 3) := dk_180 ((dQ_X3_moneyAt_1 10).trans dk_j10) ((dQ_X3_moneyAt_1 11).trans dk_j11) ((dQ_X3_moneyAt_1 12).trans dk_j12) dk_vu2_0_15
theorem dX3_moneyAt_29 : decode cX3_moneyAt 29 = .ok (.iload_n 3, 1) := dk_29 ((dQ_X3_moneyAt_1 13).trans dk_j13)
theorem dX3_moneyAt_30 : decode cX3_moneyAt 30 = .ok (.iaload, 1) := dk_46 ((dQ_X3_moneyAt_1 14).trans dk_j14)
theorem dX3_moneyAt_31 : decode cX3_moneyAt 31 = .ok (.iload_n 1, 1) := dk_27 ((dQ_X3_moneyAt_1 15).trans dk_j15)
theorem dX3_moneyAt_32 : decode cX3_moneyAt 32 = .ok (.if_icmp .gt 12, 3) := dk_163 ((dQ_X3_moneyAt_2 0).trans dk_j0) ((dQ_X3_moneyAt_2 1).trans dk_j1) ((dQ_X3_moneyAt_2 2).trans dk_j2) dk_vs2_0_12
theorem dX3_moneyAt_35 : decode cX3_moneyAt 35 = .ok (.iload_n 2, 1) := dk_28 ((dQ_X3_moneyAt_2 3).trans dk_j3)
theorem dX3_moneyAt_36 : decode cX3_moneyAt 36 = .ok (.aload_n 0, 1) := dk_42 ((dQ_X3_moneyAt_2 4).trans dk_j4)
theorem dX3_moneyAt_37 : decode cX3_moneyAt 37 = .ok (.getfield 9, 3) := dk_180 ((dQ_X3_moneyAt_2 5).trans dk_j5) ((dQ_X3_moneyAt_2 6).trans dk_j6) ((dQ_X3_moneyAt_2 7).trans dk_j7) dk_vu2_0_9
theorem dX3_moneyAt_40 : decode cX3_moneyAt 40 = .ok (.iload_n 3, 1) := dk_29 ((dQ_X3_moneyAt_2 8).trans dk_j8)
theorem dX3_moneyAt_41 : decode cX3_moneyAt 41 = .ok (.iaload, 1) := dk_46 ((dQ_X3_moneyAt_2 9).trans dk_j9)
theorem dX3_moneyAt_42 : decode cX3_moneyAt 42 = .ok (.isub, 1) := dk_100 ((dQ_X3_moneyAt_2 10).trans dk_j10)
theorem dX3_moneyAt_43 : decode cX3_moneyAt 43 = .ok (.istore_n 2, 1) := dk_61 ((dQ_X3_moneyAt_2 11).trans dk_j11)
theorem dX3_moneyAt_44 : decode cX3_moneyAt 44 = .ok (.iinc 3 1, 3) := dk_132 ((dQ_X3_moneyAt_2 12).trans dk_j12) ((dQ_X3_moneyAt_2 13).trans dk_j13) ((dQ_X3_moneyAt_2 14).trans dk_j14) dk_vu1_3 dk_vs1_1
theorem dX3_moneyAt_47 : decode cX3_moneyAt 47 = .ok (.goto (-40), 3) := dk_167 ((dQ_X3_moneyAt_2 15).trans dk_j15) ((dQ_X3_moneyAt_3 0).trans dk_j0) ((dQ_X3_moneyAt_3 1).trans dk_j1) dk_vs2_255_216
theorem dX3_moneyAt_50 : decode cX3_moneyAt 50 = .ok (.iload_n 2, 1) := dk_28 ((dQ_X3_moneyAt_3 2).trans dk_j2)
theorem dX3_moneyAt_51 : decode cX3_moneyAt 51 = .ok (.ireturn, 1) := dk_172 ((dQ_X3_moneyAt_3 3).trans dk_j3)
def dT_X3_firstBelow_1 : List UInt8 := (0xac : UInt8) :: (0x84 : UInt8) :: (0x02 : UInt8) :: (0x01 : UInt8) :: (0xa7 : UInt8) :: (0xff : UInt8) :: (0xee : UInt8) :: (0x02 : UInt8) :: (0xac : UInt8) :: []
def dT_X3_firstBelow_0 : List UInt8 := (0x03 : UInt8) :: (0x3d : UInt8) :: (0x1c : UInt8) :: (0x1b : UInt8) :: (0xa2 : UInt8) :: (0x00 : UInt8) :: (0x13 : UInt8) :: (0x2a : UInt8) :: (0x1c : UInt8) :: (0xb6 : UInt8) :: (0x00 : UInt8) :: (0x4a : UInt8) :: (0x9c : UInt8) :: (0x00 : UInt8) :: (0x05 : UInt8) :: (0x1c : UInt8) :: dT_X3_firstBelow_1
theorem dT_X3_firstBelow : cX3_firstBelow.data.toList = dT_X3_firstBelow_0 := eq_of_beq (show (cX3_firstBelow.data.toList == dT_X3_firstBelow_0) = true by decide +kernel)
theorem dQ_X3_firstBelow_0 : dQ_P cX3_firstBelow 0 dT_X3_firstBelow_0 := fun i => by rw [dT_X3_firstBelow]; rfl
theorem dQ_X3_firstBelow_1 : dQ_P cX3_firstBelow 16 dT_X3_firstBelow_1 := fun i => (dQ_X3_firstBelow_0 (i + 16)).trans dk_t
theorem dX3_firstBelow_0 : decode cX3_firstBelow 0 = .ok (.iconst 0, 1) := dk_3 ((dQ_X3_firstBelow_0 0).trans dk_j0)
theorem dX3_firstBelow_1 : decode cX3_firstBelow 1 = .ok (.istore_n 2, 1) := dk_61 ((dQ_X3_firstBelow_0 1).trans dk_j1)
theorem dX3_firstBelow_2 : decode cX3_firstBelow 2 = .ok (.iload_n 2, 1) := dk_28 ((dQ_X3_firstBelow_0 2).trans dk_j2)
theorem dX3_firstBelow_3 : decode cX3_firstBelow 3 = .ok (.iload_n 1, 1) := dk_27 ((dQ_X3_firstBelow_0 3).trans dk_j3)
theorem dX3_firstBelow_4 : decode cX3_firstBelow 4 = .ok (.if_icmp .ge 19, 3) := dk_162 ((dQ_X3_firstBelow_0 4).trans dk_j4) ((dQ_X3_firstBelow_0 5).trans dk_j5) ((dQ_X3_firstBelow_0 6).trans dk_j6) dk_vs2_0_19
theorem dX3_firstBelow_7 : decode cX3_firstBelow 7 = .ok (.aload_n 0, 1) := dk_42 ((dQ_X3_firstBelow_0 7).trans dk_j7)
theorem dX3_firstBelow_8 : decode cX3_firstBelow 8 = .ok (.iload_n 2, 1) := dk_28 ((dQ_X3_firstBelow_0 8).trans dk_j8)
theorem dX3_firstBelow_9 : decode cX3_firstBelow 9 = .ok (.invokevirtual 74, 3) := dk_182 ((dQ_X3_firstBelow_0 9).trans dk_j9) ((dQ_X3_firstBelow_0 10).trans dk_j10) ((dQ_X3_firstBelow_0 11).trans dk_j11) dk_vu2_0_74
theorem dX3_firstBelow_12 : decode cX3_firstBelow 12 = .ok (.ifCond .ge 5, 3) := dk_156 ((dQ_X3_firstBelow_0 12).trans dk_j12) ((dQ_X3_firstBelow_0 13).trans dk_j13) ((dQ_X3_firstBelow_0 14).trans dk_j14) dk_vs2_0_5
theorem dX3_firstBelow_15 : decode cX3_firstBelow 15 = .ok (.iload_n 2, 1) := dk_28 ((dQ_X3_firstBelow_0 15).trans dk_j15)
theorem dX3_firstBelow_16 : decode cX3_firstBelow 16 = .ok (.ireturn, 1) := dk_172 ((dQ_X3_firstBelow_1 0).trans dk_j0)
theorem dX3_firstBelow_17 : decode cX3_firstBelow 17 = .ok (.iinc 2 1, 3) := dk_132 ((dQ_X3_firstBelow_1 1).trans dk_j1) ((dQ_X3_firstBelow_1 2).trans dk_j2) ((dQ_X3_firstBelow_1 3).trans dk_j3) dk_vu1_2 dk_vs1_1
theorem dX3_firstBelow_20 : decode cX3_firstBelow 20 = .ok (.goto (-18), 3) := dk_167 ((dQ_X3_firstBelow_1 4).trans dk_j4) ((dQ_X3_firstBelow_1 5).trans dk_j5) ((dQ_X3_firstBelow_1 6).trans dk_j6) dk_vs2_255_238
theorem dX3_firstBelow_23 : decode cX3_firstBelow 23 = .ok (.iconst (-1), 1) := dk_2 ((dQ_X3_firstBelow_1 7).trans dk_j7)
theorem dX3_firstBelow_24 : decode cX3_firstBelow 24 = .ok (.ireturn, 1) := dk_172 ((dQ_X3_firstBelow_1 8).trans dk_j8)
def dT_X3_poorestMinute_1 : List UInt8 := (0xb6 : UInt8) :: (0x00 : UInt8) :: (0x4a : UInt8) :: (0xa2 : UInt8) :: (0x00 : UInt8) :: (0x05 : UInt8) :: (0x1d : UInt8) :: (0x3d : UInt8) :: (0x84 : UInt8) :: (0x03 : UInt8) :: (0x01 : UInt8) :: (0xa7 : UInt8) :: (0xff : UInt8) :: (0xe9 : UInt8) :: (0x1c : UInt8) :: (0xac : UInt8) :: []
def dT_X3_poorestMinute_0 : List UInt8 := (0x03 : UInt8) :: (0x3d : UInt8) :: (0x04 : UInt8) :: (0x3e : UInt8) :: (0x1d : UInt8) :: (0x1b : UInt8) :: (0xa2 : UInt8) :: (0x00 : UInt8) :: (0x18 : UInt8) :: (0x2a : UInt8) :: (0x1d : UInt8) :: (0xb6 : UInt8) :: (0x00 : UInt8) :: (0x4a : UInt8) :: (0x2a : UInt8) :: (0x1c : UInt8) :: dT_X3_poorestMinute_1
theorem dT_X3_poorestMinute : cX3_poorestMinute.data.toList = dT_X3_poorestMinute_0 := eq_of_beq (show (cX3_poorestMinute.data.toList == dT_X3_poorestMinute_0) = true by decide +kernel)
theorem dQ_X3_poorestMinute_0 : dQ_P cX3_poorestMinute 0 dT_X3_poorestMinute_0 := fun i => by rw [dT_X3_poorestMinute]; rfl
theorem dQ_X3_poorestMinute_1 : dQ_P cX3_poorestMinute 16 dT_X3_poorestMinute_1 := fun i => (dQ_X3_poorestMinute_0 (i + 16)).trans dk_t
theorem dX3_poorestMinute_0 : decode cX3_poorestMinute 0 = .ok (.iconst 0, 1) := dk_3 ((dQ_X3_poorestMinute_0 0).trans dk_j0)
theorem dX3_poorestMinute_1 : decode cX3_poorestMinute 1 = .ok (.istore_n 2, 1) := dk_61 ((dQ_X3_poorestMinute_0 1).trans dk_j1)
theorem dX3_poorestMinute_2 : decode cX3_poorestMinute 2 = .ok (.iconst 1, 1) := dk_4 ((dQ_X3_poorestMinute_0 2).trans dk_j2)
theorem dX3_poorestMinute_3 : decode cX3_poorestMinute 3 = .ok (.istore_n 3, 1) := dk_62 ((dQ_X3_poorestMinute_0 3).trans dk_j3)
theorem dX3_poorestMinute_4 : decode cX3_poorestMinute 4 = .ok (.iload_n 3, 1) := dk_29 ((dQ_X3_poorestMinute_0 4).trans dk_j4)
theorem dX3_poorestMinute_5 : decode cX3_poorestMinute 5 = .ok (.iload_n 1, 1) := dk_27 ((dQ_X3_poorestMinute_0 5).trans dk_j5)
theorem dX3_poorestMinute_6 : decode cX3_poorestMinute 6 = .ok (.if_icmp .ge 24, 3) := dk_162 ((dQ_X3_poorestMinute_0 6).trans dk_j6) ((dQ_X3_poorestMinute_0 7).trans dk_j7) ((dQ_X3_poorestMinute_0 8).trans dk_j8) dk_vs2_0_24
theorem dX3_poorestMinute_9 : decode cX3_poorestMinute 9 = .ok (.aload_n 0, 1) := dk_42 ((dQ_X3_poorestMinute_0 9).trans dk_j9)
theorem dX3_poorestMinute_10 : decode cX3_poorestMinute 10 = .ok (.iload_n 3, 1) := dk_29 ((dQ_X3_poorestMinute_0 10).trans dk_j10)
theorem dX3_poorestMinute_11 : decode cX3_poorestMinute 11 = .ok (.invokevirtual 74, 3) := dk_182 ((dQ_X3_poorestMinute_0 11).trans dk_j11) ((dQ_X3_poorestMinute_0 12).trans dk_j12) ((dQ_X3_poorestMinute_0 13).trans dk_j13) dk_vu2_0_74
theorem dX3_poorestMinute_14 : decode cX3_poorestMinute 14 = .ok (.aload_n 0, 1) := dk_42 ((dQ_X3_poorestMinute_0 14).trans dk_j14)
theorem dX3_poorestMinute_15 : decode cX3_poorestMinute 15 = .ok (.iload_n 2, 1) := dk_28 ((dQ_X3_poorestMinute_0 15).trans dk_j15)
theorem dX3_poorestMinute_16 : decode cX3_poorestMinute 16 = .ok (.invokevirtual 74, 3) := dk_182 ((dQ_X3_poorestMinute_1 0).trans dk_j0) ((dQ_X3_poorestMinute_1 1).trans dk_j1) ((dQ_X3_poorestMinute_1 2).trans dk_j2) dk_vu2_0_74
theorem dX3_poorestMinute_19 : decode cX3_poorestMinute 19 = .ok (.if_icmp .ge 5, 3) := dk_162 ((dQ_X3_poorestMinute_1 3).trans dk_j3) ((dQ_X3_poorestMinute_1 4).trans dk_j4) ((dQ_X3_poorestMinute_1 5).trans dk_j5) dk_vs2_0_5
theorem dX3_poorestMinute_22 : decode cX3_poorestMinute 22 = .ok (.iload_n 3, 1) := dk_29 ((dQ_X3_poorestMinute_1 6).trans dk_j6)
theorem dX3_poorestMinute_23 : decode cX3_poorestMinute 23 = .ok (.istore_n 2, 1) := dk_61 ((dQ_X3_poorestMinute_1 7).trans dk_j7)
theorem dX3_poorestMinute_24 : decode cX3_poorestMinute 24 = .ok (.iinc 3 1, 3) := dk_132 ((dQ_X3_poorestMinute_1 8).trans dk_j8) ((dQ_X3_poorestMinute_1 9).trans dk_j9) ((dQ_X3_poorestMinute_1 10).trans dk_j10) dk_vu1_3 dk_vs1_1
theorem dX3_poorestMinute_27 : decode cX3_poorestMinute 27 = .ok (.goto (-23), 3) := dk_167 ((dQ_X3_poorestMinute_1 11).trans dk_j11) ((dQ_X3_poorestMinute_1 12).trans dk_j12) ((dQ_X3_poorestMinute_1 13).trans dk_j13) dk_vs2_255_233
theorem dX3_poorestMinute_30 : decode cX3_poorestMinute 30 = .ok (.iload_n 2, 1) := dk_28 ((dQ_X3_poorestMinute_1 14).trans dk_j14)
theorem dX3_poorestMinute_31 : decode cX3_poorestMinute 31 = .ok (.ireturn, 1) := dk_172 ((dQ_X3_poorestMinute_1 15).trans dk_j15)
def dT_X4_init_2 : List UInt8 := (0x00 : UInt8) :: (0x19 : UInt8) :: (0xb1 : UInt8) :: []
def dT_X4_init_1 : List UInt8 := (0x59 : UInt8) :: (0xb7 : UInt8) :: (0x00 : UInt8) :: (0x11 : UInt8) :: (0xb5 : UInt8) :: (0x00 : UInt8) :: (0x12 : UInt8) :: (0x2a : UInt8) :: (0xbb : UInt8) :: (0x00 : UInt8) :: (0x16 : UInt8) :: (0x59 : UInt8) :: (0xb7 : UInt8) :: (0x00 : UInt8) :: (0x18 : UInt8) :: (0xb5 : UInt8) :: dT_X4_init_2
def dT_X4_init_0 : List UInt8 := (0x2a : UInt8) :: (0xb7 : UInt8) :: (0x00 : UInt8) :: (0x03 : UInt8) :: (0x2a : UInt8) :: (0x10 : UInt8) :: (0x09 : UInt8) :: (0xbc : UInt8) :: (0x0b : UInt8) :: (0xb5 : UInt8) :: (0x00 : UInt8) :: (0x09 : UInt8) :: (0x2a : UInt8) :: (0xbb : UInt8) :: (0x00 : UInt8) :: (0x0f : UInt8) :: dT_X4_init_1
theorem dT_X4_init : cX4_init.data.toList = dT_X4_init_0 := eq_of_beq (show (cX4_init.data.toList == dT_X4_init_0) = true by decide +kernel)
theorem dQ_X4_init_0 : dQ_P cX4_init 0 dT_X4_init_0 := fun i => by rw [dT_X4_init]; rfl
theorem dQ_X4_init_1 : dQ_P cX4_init 16 dT_X4_init_1 := fun i => (dQ_X4_init_0 (i + 16)).trans dk_t
theorem dQ_X4_init_2 : dQ_P cX4_init 32 dT_X4_init_2 := fun i => (dQ_X4_init_1 (i + 16)).trans dk_t
theorem dX4_init_0 : decode cX4_init 0 = .ok (.aload_n 0, 1) := dk_42 ((dQ_X4_init_0 0).trans dk_j0)
theorem dX4_init_1 : decode cX4_init 1 = .ok (.invokespecial 3, 3) := dk_183 ((dQ_X4_init_0 1).trans dk_j1) ((dQ_X4_init_0 2).trans dk_j2) ((dQ_X4_init_0 3).trans dk_j3) dk_vu2_0_3
theorem dX4_init_4 : decode cX4_init 4 = .ok (.aload_n 0, 1) := dk_42 ((dQ_X4_init_0 4).trans dk_j4)
theorem dX4_init_5 : decode cX4_init 5 = .ok (.bipush 9, 2) := dk_16 ((dQ_X4_init_0 5).trans dk_j5) ((dQ_X4_init_0 6).trans dk_j6) dk_vs1_9
theorem dX4_init_7 : decode cX4_init 7 = .ok (.newarray .long, 2) := by decide +kernel
theorem dX4_init_9 : decode cX4_init 9 = .ok (.putfield 9, 3) := dk_181 ((dQ_X4_init_0 9).trans dk_j9) ((dQ_X4_init_0 10).trans dk_j10) ((dQ_X4_init_0 11).trans dk_j11) dk_vu2_0_9
theorem dX4_init_12 : decode cX4_init 12 = .ok (.aload_n 0, 1) := dk_42 ((dQ_X4_init_0 12).trans dk_j12)
theorem dX4_init_13 : decode cX4_init 13 = .ok (.new 15, 3) := dk_187 ((dQ_X4_init_0 13).trans dk_j13) ((dQ_X4_init_0 14).trans dk_j14) ((dQ_X4_init_0 15).trans dk_j15) dk_vu2_0_15
theorem dX4_init_16 : decode cX4_init 16 = .ok (.dup, 1) := dk_89 ((dQ_X4_init_1 0).trans dk_j0)
theorem dk_vu2_0_17 : (0x00 : UInt8).toNat * 256 + (0x11 : UInt8).toNat = (17 : Nat) := by decide +kernel
theorem dX4_init_17 : decode cX4_init 17 = .ok (.invokespecial 17, 3) := dk_183 ((dQ_X4_init_1 1).trans dk_j1) ((dQ_X4_init_1 2).trans dk_j2) ((dQ_X4_init_1 3).trans dk_j3) dk_vu2_0_17
theorem dX4_init_20 : decode cX4_init 20 = .ok (.putfield 18, 3) := dk_181 ((dQ_X4_init_1 4).trans dk_j4) ((dQ_X4_init_1 5).trans dk_j5) ((dQ_X4_init_1 6).trans dk_j6) dk_vu2_0_18
theorem dX4_init_23 : decode cX4_init 23 = .ok (.aload_n 0, 1) := dk_42 ((dQ_X4_init_1 7).trans dk_j7)
theorem dX4_init_24 : decode cX4_init 24 = .ok (.new 22, 3) := dk_187 ((dQ_X4_init_1 8).trans dk_j8) ((dQ_X4_init_1 9).trans dk_j9) ((dQ_X4_init_1 10).trans dk_j10) dk_vu2_0_22
theorem dX4_init_27 : decode cX4_init 27 = .ok (.dup, 1) := dk_89 ((dQ_X4_init_1 11).trans dk_j11)
theorem dX4_init_28 : decode cX4_init 28 = .ok (.invokespecial 24, 3) := dk_183 ((dQ_X4_init_1 12).trans dk_j12) ((dQ_X4_init_1 13).trans dk_j13) ((dQ_X4_init_1 14).trans dk_j14) dk_vu2_0_24
theorem dX4_init_31 : decode cX4_init 31 = .ok (.putfield 25, 3) := dk_181 ((dQ_X4_init_1 15).trans dk_j15) ((dQ_X4_init_2 0).trans dk_j0) ((dQ_X4_init_2 1).trans dk_j1) dk_vu2_0_25
theorem dX4_init_34 : decode cX4_init 34 = .ok (.return_, 1) := dk_177 ((dQ_X4_init_2 2).trans dk_j2)
def dT_X4_reckon_13 : List UInt8 := (0xa7 : UInt8) :: (0xff : UInt8) :: (0xea : UInt8) :: (0x2a : UInt8) :: (0xb6 : UInt8) :: (0x00 : UInt8) :: (0x4f : UInt8) :: (0xb1 : UInt8) :: []
def dT_X4_reckon_12 : List UInt8 := (0x15 : UInt8) :: (0x2a : UInt8) :: (0x59 : UInt8) :: (0xb4 : UInt8) :: (0x00 : UInt8) :: (0x4a : UInt8) :: (0x14 : UInt8) :: (0x00 : UInt8) :: (0x4d : UInt8) :: (0x69 : UInt8) :: (0xb5 : UInt8) :: (0x00 : UInt8) :: (0x4a : UInt8) :: (0x84 : UInt8) :: (0x07 : UInt8) :: (0x01 : UInt8) :: dT_X4_reckon_13
def dT_X4_reckon_11 : List UInt8 := (0xff : UInt8) :: (0x73 : UInt8) :: (0x2a : UInt8) :: (0x0a : UInt8) :: (0xb5 : UInt8) :: (0x00 : UInt8) :: (0x4a : UInt8) :: (0x03 : UInt8) :: (0x36 : UInt8) :: (0x07 : UInt8) :: (0x15 : UInt8) :: (0x07 : UInt8) :: (0x15 : UInt8) :: (0x06 : UInt8) :: (0xa2 : UInt8) :: (0x00 : UInt8) :: dT_X4_reckon_12
def dT_X4_reckon_10 : List UInt8 := (0x15 : UInt8) :: (0x04 : UInt8) :: (0x15 : UInt8) :: (0x06 : UInt8) :: (0xb6 : UInt8) :: (0x00 : UInt8) :: (0x46 : UInt8) :: (0x69 : UInt8) :: (0x61 : UInt8) :: (0xb5 : UInt8) :: (0x00 : UInt8) :: (0x2b : UInt8) :: (0x84 : UInt8) :: (0x07 : UInt8) :: (0x01 : UInt8) :: (0xa7 : UInt8) :: dT_X4_reckon_11
def dT_X4_reckon_9 : List UInt8 := (0xb4 : UInt8) :: (0x00 : UInt8) :: (0x2b : UInt8) :: (0x2a : UInt8) :: (0xb4 : UInt8) :: (0x00 : UInt8) :: (0x09 : UInt8) :: (0x15 : UInt8) :: (0x07 : UInt8) :: (0xb8 : UInt8) :: (0x00 : UInt8) :: (0x41 : UInt8) :: (0x2f : UInt8) :: (0x2a : UInt8) :: (0x2b : UInt8) :: (0x1d : UInt8) :: dT_X4_reckon_10
def dT_X4_reckon_8 : List UInt8 := (0x00 : UInt8) :: (0x0a : UInt8) :: (0x2c : UInt8) :: (0xb4 : UInt8) :: (0x00 : UInt8) :: (0x3a : UInt8) :: (0xa7 : UInt8) :: (0x00 : UInt8) :: (0x05 : UInt8) :: (0x15 : UInt8) :: (0x06 : UInt8) :: (0xb6 : UInt8) :: (0x00 : UInt8) :: (0x3e : UInt8) :: (0x2a : UInt8) :: (0x59 : UInt8) :: dT_X4_reckon_9
def dT_X4_reckon_7 : List UInt8 := (0x4f : UInt8) :: (0x84 : UInt8) :: (0x09 : UInt8) :: (0x01 : UInt8) :: (0xa7 : UInt8) :: (0xff : UInt8) :: (0xd0 : UInt8) :: (0x2a : UInt8) :: (0xb4 : UInt8) :: (0x00 : UInt8) :: (0x12 : UInt8) :: (0x15 : UInt8) :: (0x08 : UInt8) :: (0x1d : UInt8) :: (0x05 : UInt8) :: (0xa0 : UInt8) :: dT_X4_reckon_8
def dT_X4_reckon_6 : List UInt8 := (0x64 : UInt8) :: (0x15 : UInt8) :: (0x09 : UInt8) :: (0x64 : UInt8) :: (0xb8 : UInt8) :: (0x00 : UInt8) :: (0x36 : UInt8) :: (0x99 : UInt8) :: (0x00 : UInt8) :: (0x07 : UInt8) :: (0x06 : UInt8) :: (0xa7 : UInt8) :: (0x00 : UInt8) :: (0x04 : UInt8) :: (0x03 : UInt8) :: (0x60 : UInt8) :: dT_X4_reckon_7
def dT_X4_reckon_5 : List UInt8 := (0x00 : UInt8) :: (0x33 : UInt8) :: (0x15 : UInt8) :: (0x09 : UInt8) :: (0x2c : UInt8) :: (0xb4 : UInt8) :: (0x00 : UInt8) :: (0x33 : UInt8) :: (0x15 : UInt8) :: (0x09 : UInt8) :: (0x2e : UInt8) :: (0x15 : UInt8) :: (0x07 : UInt8) :: (0x15 : UInt8) :: (0x06 : UInt8) :: (0x04 : UInt8) :: dT_X4_reckon_6
def dT_X4_reckon_4 : List UInt8 := (0x15 : UInt8) :: (0x08 : UInt8) :: (0x36 : UInt8) :: (0x09 : UInt8) :: (0x15 : UInt8) :: (0x09 : UInt8) :: (0x15 : UInt8) :: (0x06 : UInt8) :: (0xa2 : UInt8) :: (0x00 : UInt8) :: (0x2f : UInt8) :: (0x2a : UInt8) :: (0xb4 : UInt8) :: (0x00 : UInt8) :: (0x12 : UInt8) :: (0xb4 : UInt8) :: dT_X4_reckon_5
def dT_X4_reckon_3 : List UInt8 := (0x03 : UInt8) :: (0xa7 : UInt8) :: (0x00 : UInt8) :: (0x0d : UInt8) :: (0x15 : UInt8) :: (0x06 : UInt8) :: (0x04 : UInt8) :: (0x64 : UInt8) :: (0x15 : UInt8) :: (0x07 : UInt8) :: (0xb8 : UInt8) :: (0x00 : UInt8) :: (0x2f : UInt8) :: (0x64 : UInt8) :: (0x36 : UInt8) :: (0x08 : UInt8) :: dT_X4_reckon_4
def dT_X4_reckon_2 : List UInt8 := (0x36 : UInt8) :: (0x07 : UInt8) :: (0x15 : UInt8) :: (0x07 : UInt8) :: (0x04 : UInt8) :: (0x15 : UInt8) :: (0x06 : UInt8) :: (0x78 : UInt8) :: (0xa2 : UInt8) :: (0x00 : UInt8) :: (0x8a : UInt8) :: (0x15 : UInt8) :: (0x07 : UInt8) :: (0x9a : UInt8) :: (0x00 : UInt8) :: (0x07 : UInt8) :: dT_X4_reckon_3
def dT_X4_reckon_1 : List UInt8 := (0x00 : UInt8) :: (0x23 : UInt8) :: (0x2a : UInt8) :: (0xb4 : UInt8) :: (0x00 : UInt8) :: (0x12 : UInt8) :: (0x2c : UInt8) :: (0xb6 : UInt8) :: (0x00 : UInt8) :: (0x27 : UInt8) :: (0x2a : UInt8) :: (0x09 : UInt8) :: (0xb5 : UInt8) :: (0x00 : UInt8) :: (0x2b : UInt8) :: (0x03 : UInt8) :: dT_X4_reckon_2
def dT_X4_reckon_0 : List UInt8 := (0x15 : UInt8) :: (0x05 : UInt8) :: (0x04 : UInt8) :: (0x60 : UInt8) :: (0x36 : UInt8) :: (0x06 : UInt8) :: (0x2a : UInt8) :: (0x15 : UInt8) :: (0x06 : UInt8) :: (0x2b : UInt8) :: (0xb4 : UInt8) :: (0x00 : UInt8) :: (0x1d : UInt8) :: (0x07 : UInt8) :: (0x2e : UInt8) :: (0xb6 : UInt8) :: dT_X4_reckon_1
theorem dT_X4_reckon : cX4_reckon.data.toList = dT_X4_reckon_0 := eq_of_beq (show (cX4_reckon.data.toList == dT_X4_reckon_0) = true by decide +kernel)
theorem dQ_X4_reckon_0 : dQ_P cX4_reckon 0 dT_X4_reckon_0 := fun i => by rw [dT_X4_reckon]; rfl
theorem dQ_X4_reckon_1 : dQ_P cX4_reckon 16 dT_X4_reckon_1 := fun i => (dQ_X4_reckon_0 (i + 16)).trans dk_t
theorem dQ_X4_reckon_2 : dQ_P cX4_reckon 32 dT_X4_reckon_2 := fun i => (dQ_X4_reckon_1 (i + 16)).trans dk_t
theorem dQ_X4_reckon_3 : dQ_P cX4_reckon 48 dT_X4_reckon_3 := fun i => (dQ_X4_reckon_2 (i + 16)).trans dk_t
theorem dQ_X4_reckon_4 : dQ_P cX4_reckon 64 dT_X4_reckon_4 := fun i => (dQ_X4_reckon_3 (i + 16)).trans dk_t
theorem dQ_X4_reckon_5 : dQ_P cX4_reckon 80 dT_X4_reckon_5 := fun i => (dQ_X4_reckon_4 (i + 16)).trans dk_t
theorem dQ_X4_reckon_6 : dQ_P cX4_reckon 96 dT_X4_reckon_6 := fun i => (dQ_X4_reckon_5 (i + 16)).trans dk_t
theorem dQ_X4_reckon_7 : dQ_P cX4_reckon 112 dT_X4_reckon_7 := fun i => (dQ_X4_reckon_6 (i + 16)).trans dk_t
theorem dQ_X4_reckon_8 : dQ_P cX4_reckon 128 dT_X4_reckon_8 := fun i => (dQ_X4_reckon_7 (i + 16)).trans dk_t
theorem dQ_X4_reckon_9 : dQ_P cX4_reckon 144 dT_X4_reckon_9 := fun i => (dQ_X4_reckon_8 (i + 16)).trans dk_t
theorem dQ_X4_reckon_10 : dQ_P cX4_reckon 160 dT_X4_reckon_10 := fun i => (dQ_X4_reckon_9 (i + 16)).trans dk_t
theorem dQ_X4_reckon_11 : dQ_P cX4_reckon 176 dT_X4_reckon_11 := fun i => (dQ_X4_reckon_10 (i + 16)).trans dk_t
theorem dQ_X4_reckon_12 : dQ_P cX4_reckon 192 dT_X4_reckon_12 := fun i => (dQ_X4_reckon_11 (i + 16)).trans dk_t
theorem dQ_X4_reckon_13 : dQ_P cX4_reckon 208 dT_X4_reckon_13 := fun i => (dQ_X4_reckon_12 (i + 16)).trans dk_t
theorem dX4_reckon_0 : decode cX4_reckon 0 = .ok (.iload 5, 2) := dk_21 ((dQ_X4_reckon_0 0).trans dk_j0) ((dQ_X4_reckon_0 1).trans dk_j1) dk_vu1_5
theorem dX4_reckon_2 : decode cX4_reckon 2 = .ok (.iconst 1, 1) := dk_4 ((dQ_X4_reckon_0 2).trans dk_j2)
theorem dX4_reckon_3 : decode cX4_reckon 3 = .ok (.iadd, 1) := dk_96 ((dQ_X4_reckon_0 3).trans dk_j3)
theorem dX4_reckon_4 : decode cX4_reckon 4 = .ok (.istore 6, 2) := dk_54 ((dQ_X4_reckon_0 4).trans dk_j4) ((dQ_X4_reckon_0 5).trans dk_j5) dk_vu1_6
theorem dX4_reckon_6 : decode cX4_reckon 6 = .ok (.aload_n 0, 1) := dk_42 ((dQ_X4_reckon_0 6).trans dk_j6)
theorem dX4_reckon_7 : decode cX4_reckon 7 = .ok (.iload 6, 2) := dk_21 ((dQ_X4_reckon_0 7).trans dk_j7) ((dQ_X4_reckon_0 8).trans dk_j8) dk_vu1_6
theorem dX4_reckon_9 : decode cX4_reckon 9 = .ok (.aload_n 1, 1) := dk_43 ((dQ_X4_reckon_0 9).trans dk_j9)
theorem dX4_reckon_10 : decode cX4_reckon 10 = .ok (.getfield 29, 3) := dk_180 ((dQ_X4_reckon_0 10).trans dk_j10) ((dQ_X4_reckon_0 11).trans dk_j11) ((dQ_X4_reckon_0 12).trans dk_j12) dk_vu2_0_29
theorem dX4_reckon_13 : decode cX4_reckon 13 = .ok (.iconst 4, 1) := dk_7 ((dQ_X4_reckon_0 13).trans dk_j13)
theorem dX4_reckon_14 : decode cX4_reckon 14 = .ok (.iaload, 1) := dk_46 ((dQ_X4_reckon_0 14).trans dk_j14)
theorem dk_vu2_0_35 : (0x00 : UInt8).toNat * 256 + (0x23 : UInt8).toNat = (35 : Nat) := by decide +kernel
theorem dX4_reckon_15 : decode cX4_reckon 15 = .ok (.invokevirtual 35, 3) := dk_182 ((dQ_X4_reckon_0 15).trans dk_j15) ((dQ_X4_reckon_1 0).trans dk_j0) ((dQ_X4_reckon_1 1).trans dk_j1) dk_vu2_0_35
theorem dX4_reckon_18 : decode cX4_reckon 18 = .ok (.aload_n 0, 1) := dk_42 ((dQ_X4_reckon_1 2).trans dk_j2)
theorem dX4_reckon_19 : decode cX4_reckon 19 = .ok (.getfield 18, 3) := dk_180 ((dQ_X4_reckon_1 3).trans dk_j3) ((dQ_X4_reckon_1 4).trans dk_j4) ((dQ_X4_reckon_1 5).trans dk_j5) dk_vu2_0_18
theorem dX4_reckon_22 : decode cX4_reckon 22 = .ok (.aload_n 2, 1) := dk_44 ((dQ_X4_reckon_1 6).trans dk_j6)
theorem dX4_reckon_23 : decode cX4_reckon 23 = .ok (.invokevirtual 39, 3) := dk_182 ((dQ_X4_reckon_1 7).trans dk_j7) ((dQ_X4_reckon_1 8).trans dk_j8) ((dQ_X4_reckon_1 9).trans dk_j9) dk_vu2_0_39
theorem dX4_reckon_26 : decode cX4_reckon 26 = .ok (.aload_n 0, 1) := dk_42 ((dQ_X4_reckon_1 10).trans dk_j10)
theorem dX4_reckon_27 : decode cX4_reckon 27 = .ok (.lconst 0, 1) := dk_9 ((dQ_X4_reckon_1 11).trans dk_j11)
theorem dX4_reckon_28 : decode cX4_reckon 28 = .ok (.putfield 43, 3) := dk_181 ((dQ_X4_reckon_1 12).trans dk_j12) ((dQ_X4_reckon_1 13).trans dk_j13) ((dQ_X4_reckon_1 14).trans dk_j14) dk_vu2_0_43
theorem dX4_reckon_31 : decode cX4_reckon 31 = .ok (.iconst 0, 1) := dk_3 ((dQ_X4_reckon_1 15).trans dk_j15)
theorem dX4_reckon_32 : decode cX4_reckon 32 = .ok (.istore 7, 2) := dk_54 ((dQ_X4_reckon_2 0).trans dk_j0) ((dQ_X4_reckon_2 1).trans dk_j1) dk_vu1_7
theorem dX4_reckon_34 : decode cX4_reckon 34 = .ok (.iload 7, 2) := dk_21 ((dQ_X4_reckon_2 2).trans dk_j2) ((dQ_X4_reckon_2 3).trans dk_j3) dk_vu1_7
theorem dX4_reckon_36 : decode cX4_reckon 36 = .ok (.iconst 1, 1) := dk_4 ((dQ_X4_reckon_2 4).trans dk_j4)
theorem dX4_reckon_37 : decode cX4_reckon 37 = .ok (.iload 6, 2) := dk_21 ((dQ_X4_reckon_2 5).trans dk_j5) ((dQ_X4_reckon_2 6).trans dk_j6) dk_vu1_6
theorem dX4_reckon_39 : decode cX4_reckon 39 = .ok (.ishl, 1) := dk_120 ((dQ_X4_reckon_2 7).trans dk_j7)
theorem dk_vs2_0_138 : Reader.signed 16 ((0x00 : UInt8).toNat * 256 + (0x8a : UInt8).toNat) = (138 : Int) := by decide +kernel
theorem dX4_reckon_40 : decode cX4_reckon 40 = .ok (.if_icmp .ge 138, 3) := dk_162 ((dQ_X4_reckon_2 8).trans dk_j8) ((dQ_X4_reckon_2 9).trans dk_j9) ((dQ_X4_reckon_2 10).trans dk_j10) dk_vs2_0_138
theorem dX4_reckon_43 : decode cX4_reckon 43 = .ok (.iload 7, 2) := dk_21 ((dQ_X4_reckon_2 11).trans dk_j11) ((dQ_X4_reckon_2 12).trans dk_j12) dk_vu1_7
theorem dX4_reckon_45 : decode cX4_reckon 45 = .ok (.ifCond .ne 7, 3) := dk_154 ((dQ_X4_reckon_2 13).trans dk_j13) ((dQ_X4_reckon_2 14).trans dk_j14) ((dQ_X4_reckon_2 15).trans dk_j15) dk_vs2_0_7
theorem dX4_reckon_48 : decode cX4_reckon 48 = .ok (.iconst 0, 1) := dk_3 ((dQ_X4_reckon_3 0).trans dk_j0)
theorem dX4_reckon_49 : decode cX4_reckon 49 = .ok (.goto 13, 3) := dk_167 ((dQ_X4_reckon_3 1).trans dk_j1) ((dQ_X4_reckon_3 2).trans dk_j2) ((dQ_X4_reckon_3 3).trans dk_j3) dk_vs2_0_13
theorem dX4_reckon_52 : decode cX4_reckon 52 = .ok (.iload 6, 2) := dk_21 ((dQ_X4_reckon_3 4).trans dk_j4) ((dQ_X4_reckon_3 5).trans dk_j5) dk_vu1_6
theorem dX4_reckon_54 : decode cX4_reckon 54 = .ok (.iconst 1, 1) := dk_4 ((dQ_X4_reckon_3 6).trans dk_j6)
theorem dX4_reckon_55 : decode cX4_reckon 55 = .ok (.isub, 1) := dk_100 ((dQ_X4_reckon_3 7).trans dk_j7)
theorem dX4_reckon_56 : decode cX4_reckon 56 = .ok (.iload 7, 2) := dk_21 ((dQ_X4_reckon_3 8).trans dk_j8) ((dQ_X4_reckon_3 9).trans dk_j9) dk_vu1_7
theorem dk_vu2_0_47 : (0x00 : UInt8).toNat * 256 + (0x2f : UInt8).toNat = (47 : Nat) := by decide +kernel
theorem dX4_reckon_58 : decode cX4_reckon 58 = .ok (.invokestatic 47, 3) := dk_184 ((dQ_X4_reckon_3 10).trans dk_j10) ((dQ_X4_reckon_3 11).trans dk_j11) ((dQ_X4_reckon_3 12).trans dk_j12) dk_vu2_0_47
theorem dX4_reckon_61 : decode cX4_reckon 61 = .ok (.isub, 1) := dk_100 ((dQ_X4_reckon_3 13).trans dk_j13)
theorem dX4_reckon_62 : decode cX4_reckon 62 = .ok (.istore 8, 2) := dk_54 ((dQ_X4_reckon_3 14).trans dk_j14) ((dQ_X4_reckon_3 15).trans dk_j15) dk_vu1_8
theorem dX4_reckon_64 : decode cX4_reckon 64 = .ok (.iload 8, 2) := dk_21 ((dQ_X4_reckon_4 0).trans dk_j0) ((dQ_X4_reckon_4 1).trans dk_j1) dk_vu1_8
theorem dX4_reckon_66 : decode cX4_reckon 66 = .ok (.istore 9, 2) := dk_54 ((dQ_X4_reckon_4 2).trans dk_j2) ((dQ_X4_reckon_4 3).trans dk_j3) dk_vu1_9
theorem dX4_reckon_68 : decode cX4_reckon 68 = .ok (.iload 9, 2) := dk_21 ((dQ_X4_reckon_4 4).trans dk_j4) ((dQ_X4_reckon_4 5).trans dk_j5) dk_vu1_9
theorem dX4_reckon_70 : decode cX4_reckon 70 = .ok (.iload 6, 2) := dk_21 ((dQ_X4_reckon_4 6).trans dk_j6) ((dQ_X4_reckon_4 7).trans dk_j7) dk_vu1_6
theorem dX4_reckon_72 : decode cX4_reckon 72 = .ok (.if_icmp .ge 47, 3) := dk_162 ((dQ_X4_reckon_4 8).trans dk_j8) ((dQ_X4_reckon_4 9).trans dk_j9) ((dQ_X4_reckon_4 10).trans dk_j10) dk_vs2_0_47
theorem dX4_reckon_75 : decode cX4_reckon 75 = .ok (.aload_n 0, 1) := dk_42 ((dQ_X4_reckon_4 11).trans dk_j11)
theorem dX4_reckon_76 : decode cX4_reckon 76 = .ok (.getfield 18, 3) := dk_180 ((dQ_X4_reckon_4 12).trans dk_j12) ((dQ_X4_reckon_4 13).trans dk_j13) ((dQ_X4_reckon_4 14).trans dk_j14) dk_vu2_0_18
theorem dX4_reckon_79 : decode cX4_reckon 79 = .ok (.getfield 51, 3) := dk_180 ((dQ_X4_reckon_4 15).trans dk_j15) ((dQ_X4_reckon_5 0).trans dk_j0) ((dQ_X4_reckon_5 1).trans dk_j1) dk_vu2_0_51
theorem dX4_reckon_82 : decode cX4_reckon 82 = .ok (.iload 9, 2) := dk_21 ((dQ_X4_reckon_5 2).trans dk_j2) ((dQ_X4_reckon_5 3).trans dk_j3) dk_vu1_9
theorem dX4_reckon_84 : decode cX4_reckon 84 = .ok (.aload_n 2, 1) := dk_44 ((dQ_X4_reckon_5 4).trans dk_j4)
theorem dX4_reckon_85 : decode cX4_reckon 85 = .ok (.getfield 51, 3) := dk_180 ((dQ_X4_reckon_5 5).trans dk_j5) ((dQ_X4_reckon_5 6).trans dk_j6) ((dQ_X4_reckon_5 7).trans dk_j7) dk_vu2_0_51
theorem dX4_reckon_88 : decode cX4_reckon 88 = .ok (.iload 9, 2) := dk_21 ((dQ_X4_reckon_5 8).trans dk_j8) ((dQ_X4_reckon_5 9).trans dk_j9) dk_vu1_9
theorem dX4_reckon_90 : decode cX4_reckon 90 = .ok (.iaload, 1) := dk_46 ((dQ_X4_reckon_5 10).trans dk_j10)
theorem dX4_reckon_91 : decode cX4_reckon 91 = .ok (.iload 7, 2) := dk_21 ((dQ_X4_reckon_5 11).trans dk_j11) ((dQ_X4_reckon_5 12).trans dk_j12) dk_vu1_7
theorem dX4_reckon_93 : decode cX4_reckon 93 = .ok (.iload 6, 2) := dk_21 ((dQ_X4_reckon_5 13).trans dk_j13) ((dQ_X4_reckon_5 14).trans dk_j14) dk_vu1_6
theorem dX4_reckon_95 : decode cX4_reckon 95 = .ok (.iconst 1, 1) := dk_4 ((dQ_X4_reckon_5 15).trans dk_j15)
theorem dX4_reckon_96 : decode cX4_reckon 96 = .ok (.isub, 1) := dk_100 ((dQ_X4_reckon_6 0).trans dk_j0)
theorem dX4_reckon_97 : decode cX4_reckon 97 = .ok (.iload 9, 2) := dk_21 ((dQ_X4_reckon_6 1).trans dk_j1) ((dQ_X4_reckon_6 2).trans dk_j2) dk_vu1_9
theorem dX4_reckon_99 : decode cX4_reckon 99 = .ok (.isub, 1) := dk_100 ((dQ_X4_reckon_6 3).trans dk_j3)
theorem dX4_reckon_100 : decode cX4_reckon 100 = .ok (.invokestatic 54, 3) := dk_184 ((dQ_X4_reckon_6 4).trans dk_j4) ((dQ_X4_reckon_6 5).trans dk_j5) ((dQ_X4_reckon_6 6).trans dk_j6) dk_vu2_0_54
theorem dX4_reckon_103 : decode cX4_reckon 103 = .ok (.ifCond .eq 7, 3) := dk_153 ((dQ_X4_reckon_6 7).trans dk_j7) ((dQ_X4_reckon_6 8).trans dk_j8) ((dQ_X4_reckon_6 9).trans dk_j9) dk_vs2_0_7
theorem dX4_reckon_106 : decode cX4_reckon 106 = .ok (.iconst 3, 1) := dk_6 ((dQ_X4_reckon_6 10).trans dk_j10)
theorem dX4_reckon_107 : decode cX4_reckon 107 = .ok (.goto 4, 3) := dk_167 ((dQ_X4_reckon_6 11).trans dk_j11) ((dQ_X4_reckon_6 12).trans dk_j12) ((dQ_X4_reckon_6 13).trans dk_j13) dk_vs2_0_4
theorem dX4_reckon_110 : decode cX4_reckon 110 = .ok (.iconst 0, 1) := dk_3 ((dQ_X4_reckon_6 14).trans dk_j14)
theorem dX4_reckon_111 : decode cX4_reckon 111 = .ok (.iadd, 1) := dk_96 ((dQ_X4_reckon_6 15).trans dk_j15)
theorem dX4_reckon_112 : decode cX4_reckon 112 = .ok (.iastore, 1) := dk_79 ((dQ_X4_reckon_7 0).trans dk_j0)
theorem dX4_reckon_113 : decode cX4_reckon 113 = .ok (.iinc 9 1, 3) := dk_132 ((dQ_X4_reckon_7 1).trans dk_j1) ((dQ_X4_reckon_7 2).trans dk_j2) ((dQ_X4_reckon_7 3).trans dk_j3) dk_vu1_9 dk_vs1_1
theorem dk_vs2_255_208 : Reader.signed 16 ((0xff : UInt8).toNat * 256 + (0xd0 : UInt8).toNat) = (-48 : Int) := by decide +kernel
theorem dX4_reckon_116 : decode cX4_reckon 116 = .ok (.goto (-48), 3) := dk_167 ((dQ_X4_reckon_7 4).trans dk_j4) ((dQ_X4_reckon_7 5).trans dk_j5) ((dQ_X4_reckon_7 6).trans dk_j6) dk_vs2_255_208
theorem dX4_reckon_119 : decode cX4_reckon 119 = .ok (.aload_n 0, 1) := dk_42 ((dQ_X4_reckon_7 7).trans dk_j7)
theorem dX4_reckon_120 : decode cX4_reckon 120 = .ok (.getfield 18, 3) := dk_180 ((dQ_X4_reckon_7 8).trans dk_j8) ((dQ_X4_reckon_7 9).trans dk_j9) ((dQ_X4_reckon_7 10).trans dk_j10) dk_vu2_0_18
theorem dX4_reckon_123 : decode cX4_reckon 123 = .ok (.iload 8, 2) := dk_21 ((dQ_X4_reckon_7 11).trans dk_j11) ((dQ_X4_reckon_7 12).trans dk_j12) dk_vu1_8
theorem dX4_reckon_125 : decode cX4_reckon 125 = .ok (.iload_n 3, 1) := dk_29 ((dQ_X4_reckon_7 13).trans dk_j13)
theorem dX4_reckon_126 : decode cX4_reckon 126 = .ok (.iconst 2, 1) := dk_5 ((dQ_X4_reckon_7 14).trans dk_j14)
theorem dX4_reckon_127 : decode cX4_reckon 127 = .ok (.if_icmp .ne 10, 3) := dk_160 ((dQ_X4_reckon_7 15).trans dk_j15) ((dQ_X4_reckon_8 0).trans dk_j0) ((dQ_X4_reckon_8 1).trans dk_j1) dk_vs2_0_10
theorem dX4_reckon_130 : decode cX4_reckon 130 = .ok (.aload_n 2, 1) := dk_44 ((dQ_X4_reckon_8 2).trans dk_j2)
theorem dX4_reckon_131 : decode cX4_reckon 131 = .ok (.getfield 58, 3) := dk_180 ((dQ_X4_reckon_8 3).trans dk_j3) ((dQ_X4_reckon_8 4).trans dk_j4) ((dQ_X4_reckon_8 5).trans dk_j5) dk_vu2_0_58
theorem dX4_reckon_134 : decode cX4_reckon 134 = .ok (.goto 5, 3) := dk_167 ((dQ_X4_reckon_8 6).trans dk_j6) ((dQ_X4_reckon_8 7).trans dk_j7) ((dQ_X4_reckon_8 8).trans dk_j8) dk_vs2_0_5
theorem dX4_reckon_137 : decode cX4_reckon 137 = .ok (.iload 6, 2) := dk_21 ((dQ_X4_reckon_8 9).trans dk_j9) ((dQ_X4_reckon_8 10).trans dk_j10) dk_vu1_6
theorem dk_vu2_0_62 : (0x00 : UInt8).toNat * 256 + (0x3e : UInt8).toNat = (62 : Nat) := by decide +kernel
theorem dX4_reckon_139 : decode cX4_reckon 139 = .ok (.invokevirtual 62, 3) := dk_182 ((dQ_X4_reckon_8 11).trans dk_j11) ((dQ_X4_reckon_8 12).trans dk_j12) ((dQ_X4_reckon_8 13).trans dk_j13) dk_vu2_0_62
theorem dX4_reckon_142 : decode cX4_reckon 142 = .ok (.aload_n 0, 1) := dk_42 ((dQ_X4_reckon_8 14).trans dk_j14)
theorem dX4_reckon_143 : decode cX4_reckon 143 = .ok (.dup, 1) := dk_89 ((dQ_X4_reckon_8 15).trans dk_j15)
theorem dX4_reckon_144 : decode cX4_reckon 144 = .ok (.getfield 43, 3) := dk_180 ((dQ_X4_reckon_9 0).trans dk_j0) ((dQ_X4_reckon_9 1).trans dk_j1) ((dQ_X4_reckon_9 2).trans dk_j2) dk_vu2_0_43
theorem dX4_reckon_147 : decode cX4_reckon 147 = .ok (.aload_n 0, 1) := dk_42 ((dQ_X4_reckon_9 3).trans dk_j3)
theorem dX4_reckon_148 : decode cX4_reckon 148 = .ok (.getfield 9, 3) := dk_180 ((dQ_X4_reckon_9 4).trans dk_j4) ((dQ_X4_reckon_9 5).trans dk_j5) ((dQ_X4_reckon_9 6).trans dk_j6) dk_vu2_0_9
theorem dX4_reckon_151 : decode cX4_reckon 151 = .ok (.iload 7, 2) := dk_21 ((dQ_X4_reckon_9 7).trans dk_j7) ((dQ_X4_reckon_9 8).trans dk_j8) dk_vu1_7
theorem dX4_reckon_153 : decode cX4_reckon 153 = .ok (.invokestatic 65, 3) := dk_184 ((dQ_X4_reckon_9 9).trans dk_j9) ((dQ_X4_reckon_9 10).trans dk_j10) ((dQ_X4_reckon_9 11).trans dk_j11) dk_vu2_0_65
theorem dX4_reckon_156 : decode cX4_reckon 156 = .ok (.laload, 1) := dk_47 ((dQ_X4_reckon_9 12).trans dk_j12)
theorem dX4_reckon_157 : decode cX4_reckon 157 = .ok (.aload_n 0, 1) := dk_42 ((dQ_X4_reckon_9 13).trans dk_j13)
theorem dX4_reckon_158 : decode cX4_reckon 158 = .ok (.aload_n 1, 1) := dk_43 ((dQ_X4_reckon_9 14).trans dk_j14)
theorem dX4_reckon_159 : decode cX4_reckon 159 = .ok (.iload_n 3, 1) := dk_29 ((dQ_X4_reckon_9 15).trans dk_j15)
theorem dX4_reckon_160 : decode cX4_reckon 160 = .ok (.iload 4, 2) := dk_21 ((dQ_X4_reckon_10 0).trans dk_j0) ((dQ_X4_reckon_10 1).trans dk_j1) dk_vu1_4
theorem dX4_reckon_162 : decode cX4_reckon 162 = .ok (.iload 6, 2) := dk_21 ((dQ_X4_reckon_10 2).trans dk_j2) ((dQ_X4_reckon_10 3).trans dk_j3) dk_vu1_6
theorem dX4_reckon_164 : decode cX4_reckon 164 = .ok (.invokevirtual 70, 3) := dk_182 ((dQ_X4_reckon_10 4).trans dk_j4) ((dQ_X4_reckon_10 5).trans dk_j5) ((dQ_X4_reckon_10 6).trans dk_j6) dk_vu2_0_70
theorem dX4_reckon_167 : decode cX4_reckon 167 = .ok (.lmul, 1) := dk_105 ((dQ_X4_reckon_10 7).trans dk_j7)
theorem dX4_reckon_168 : decode cX4_reckon 168 = .ok (.ladd, 1) := dk_97 ((dQ_X4_reckon_10 8).trans dk_j8)
theorem dX4_reckon_169 : decode cX4_reckon 169 = .ok (.putfield 43, 3) := dk_181 ((dQ_X4_reckon_10 9).trans dk_j9) ((dQ_X4_reckon_10 10).trans dk_j10) ((dQ_X4_reckon_10 11).trans dk_j11) dk_vu2_0_43
theorem dX4_reckon_172 : decode cX4_reckon 172 = .ok (.iinc 7 1, 3) := dk_132 ((dQ_X4_reckon_10 12).trans dk_j12) ((dQ_X4_reckon_10 13).trans dk_j13) ((dQ_X4_reckon_10 14).trans dk_j14) dk_vu1_7 dk_vs1_1
theorem dk_vs2_255_115 : Reader.signed 16 ((0xff : UInt8).toNat * 256 + (0x73 : UInt8).toNat) = (-141 : Int) := by decide +kernel
theorem dX4_reckon_175 : decode cX4_reckon 175 = .ok (.goto (-141), 3) := dk_167 ((dQ_X4_reckon_10 15).trans dk_j15) ((dQ_X4_reckon_11 0).trans dk_j0) ((dQ_X4_reckon_11 1).trans dk_j1) dk_vs2_255_115
theorem dX4_reckon_178 : decode cX4_reckon 178 = .ok (.aload_n 0, 1) := dk_42 ((dQ_X4_reckon_11 2).trans dk_j2)
theorem dX4_reckon_179 : decode cX4_reckon 179 = .ok (.lconst 1, 1) := dk_10 ((dQ_X4_reckon_11 3).trans dk_j3)
theorem dX4_reckon_180 : decode cX4_reckon 180 = .ok (.putfield 74, 3) := dk_181 ((dQ_X4_reckon_11 4).trans dk_j4) ((dQ_X4_reckon_11 5).trans dk_j5) ((dQ_X4_reckon_11 6).trans dk_j6) dk_vu2_0_74
theorem dX4_reckon_183 : decode cX4_reckon 183 = .ok (.iconst 0, 1) := dk_3 ((dQ_X4_reckon_11 7).trans dk_j7)
theorem dX4_reckon_184 : decode cX4_reckon 184 = .ok (.istore 7, 2) := dk_54 ((dQ_X4_reckon_11 8).trans dk_j8) ((dQ_X4_reckon_11 9).trans dk_j9) dk_vu1_7
theorem dX4_reckon_186 : decode cX4_reckon 186 = .ok (.iload 7, 2) := dk_21 ((dQ_X4_reckon_11 10).trans dk_j10) ((dQ_X4_reckon_11 11).trans dk_j11) dk_vu1_7
theorem dX4_reckon_188 : decode cX4_reckon 188 = .ok (.iload 6, 2) := dk_21 ((dQ_X4_reckon_11 12).trans dk_j12) ((dQ_X4_reckon_11 13).trans dk_j13) dk_vu1_6
theorem dX4_reckon_190 : decode cX4_reckon 190 = .ok (.if_icmp .ge 21, 3) := dk_162 ((dQ_X4_reckon_11 14).trans dk_j14) ((dQ_X4_reckon_11 15).trans dk_j15) ((dQ_X4_reckon_12 0).trans dk_j0) dk_vs2_0_21
theorem dX4_reckon_193 : decode cX4_reckon 193 = .ok (.aload_n 0, 1) := dk_42 ((dQ_X4_reckon_12 1).trans dk_j1)
theorem dX4_reckon_194 : decode cX4_reckon 194 = .ok (.dup, 1) := dk_89 ((dQ_X4_reckon_12 2).trans dk_j2)
theorem dX4_reckon_195 : decode cX4_reckon 195 = .ok (.getfield 74, 3) := dk_180 ((dQ_X4_reckon_12 3).trans dk_j3) ((dQ_X4_reckon_12 4).trans dk_j4) ((dQ_X4_reckon_12 5).trans dk_j5) dk_vu2_0_74
theorem dk_vu2_0_77 : (0x00 : UInt8).toNat * 256 + (0x4d : UInt8).toNat = (77 : Nat) := by decide +kernel
theorem dX4_reckon_198 : decode cX4_reckon 198 = .ok (.ldc2_w 77, 3) := dk_20 ((dQ_X4_reckon_12 6).trans dk_j6) ((dQ_X4_reckon_12 7).trans dk_j7) ((dQ_X4_reckon_12 8).trans dk_j8) dk_vu2_0_77
theorem dX4_reckon_201 : decode cX4_reckon 201 = .ok (.lmul, 1) := dk_105 ((dQ_X4_reckon_12 9).trans dk_j9)
theorem dX4_reckon_202 : decode cX4_reckon 202 = .ok (.putfield 74, 3) := dk_181 ((dQ_X4_reckon_12 10).trans dk_j10) ((dQ_X4_reckon_12 11).trans dk_j11) ((dQ_X4_reckon_12 12).trans dk_j12) dk_vu2_0_74
theorem dX4_reckon_205 : decode cX4_reckon 205 = .ok (.iinc 7 1, 3) := dk_132 ((dQ_X4_reckon_12 13).trans dk_j13) ((dQ_X4_reckon_12 14).trans dk_j14) ((dQ_X4_reckon_12 15).trans dk_j15) dk_vu1_7 dk_vs1_1
theorem dX4_reckon_208 : decode cX4_reckon 208 = .ok (.goto (-22), 3) := dk_167 ((dQ_X4_reckon_13 0).trans dk_j0) ((dQ_X4_reckon_13 1).trans dk_j1) ((dQ_X4_reckon_13 2).trans dk_j2) dk_vs2_255_234
theorem dX4_reckon_211 : decode cX4_reckon 211 = .ok (.aload_n 0, 1) := dk_42 ((dQ_X4_reckon_13 3).trans dk_j3)
theorem dX4_reckon_212 : decode cX4_reckon 212 = .ok (.invokevirtual 79, 3) := dk_182 ((dQ_X4_reckon_13 4).trans dk_j4) ((dQ_X4_reckon_13 5).trans dk_j5) ((dQ_X4_reckon_13 6).trans dk_j6) dk_vu2_0_79
theorem dX4_reckon_215 : decode cX4_reckon 215 = .ok (.return_, 1) := dk_177 ((dQ_X4_reckon_13 7).trans dk_j7)
def dT_X4_weigh_4 : List UInt8 := (0x03 : UInt8) :: (0x01 : UInt8) :: (0xa7 : UInt8) :: (0xff : UInt8) :: (0xc0 : UInt8) :: (0xb1 : UInt8) :: []
def dT_X4_weigh_3 : List UInt8 := (0x04 : UInt8) :: (0x84 : UInt8) :: (0x06 : UInt8) :: (0x01 : UInt8) :: (0xa7 : UInt8) :: (0xff : UInt8) :: (0xe2 : UInt8) :: (0x2a : UInt8) :: (0xb4 : UInt8) :: (0x00 : UInt8) :: (0x09 : UInt8) :: (0x1d : UInt8) :: (0x16 : UInt8) :: (0x04 : UInt8) :: (0x50 : UInt8) :: (0x84 : UInt8) :: dT_X4_weigh_4
def dT_X4_weigh_2 : List UInt8 := (0x1d : UInt8) :: (0xa2 : UInt8) :: (0x00 : UInt8) :: (0x08 : UInt8) :: (0x1c : UInt8) :: (0x85 : UInt8) :: (0xa7 : UInt8) :: (0x00 : UInt8) :: (0x08 : UInt8) :: (0x10 : UInt8) :: (0x0a : UInt8) :: (0x1c : UInt8) :: (0x64 : UInt8) :: (0x85 : UInt8) :: (0x69 : UInt8) :: (0x37 : UInt8) :: dT_X4_weigh_3
def dT_X4_weigh_1 : List UInt8 := (0x0a : UInt8) :: (0x37 : UInt8) :: (0x04 : UInt8) :: (0x03 : UInt8) :: (0x36 : UInt8) :: (0x06 : UInt8) :: (0x15 : UInt8) :: (0x06 : UInt8) :: (0x1b : UInt8) :: (0xa2 : UInt8) :: (0x00 : UInt8) :: (0x1e : UInt8) :: (0x16 : UInt8) :: (0x04 : UInt8) :: (0x15 : UInt8) :: (0x06 : UInt8) :: dT_X4_weigh_2
def dT_X4_weigh_0 : List UInt8 := (0x03 : UInt8) :: (0x3e : UInt8) :: (0x1d : UInt8) :: (0x1b : UInt8) :: (0xa3 : UInt8) :: (0x00 : UInt8) :: (0x41 : UInt8) :: (0x1d : UInt8) :: (0x2a : UInt8) :: (0xb4 : UInt8) :: (0x00 : UInt8) :: (0x09 : UInt8) :: (0xbe : UInt8) :: (0xa2 : UInt8) :: (0x00 : UInt8) :: (0x38 : UInt8) :: dT_X4_weigh_1
theorem dT_X4_weigh : cX4_weigh.data.toList = dT_X4_weigh_0 := eq_of_beq (show (cX4_weigh.data.toList == dT_X4_weigh_0) = true by decide +kernel)
theorem dQ_X4_weigh_0 : dQ_P cX4_weigh 0 dT_X4_weigh_0 := fun i => by rw [dT_X4_weigh]; rfl
theorem dQ_X4_weigh_1 : dQ_P cX4_weigh 16 dT_X4_weigh_1 := fun i => (dQ_X4_weigh_0 (i + 16)).trans dk_t
theorem dQ_X4_weigh_2 : dQ_P cX4_weigh 32 dT_X4_weigh_2 := fun i => (dQ_X4_weigh_1 (i + 16)).trans dk_t
theorem dQ_X4_weigh_3 : dQ_P cX4_weigh 48 dT_X4_weigh_3 := fun i => (dQ_X4_weigh_2 (i + 16)).trans dk_t
theorem dQ_X4_weigh_4 : dQ_P cX4_weigh 64 dT_X4_weigh_4 := fun i => (dQ_X4_weigh_3 (i + 16)).trans dk_t
theorem dX4_weigh_0 : decode cX4_weigh 0 = .ok (.iconst 0, 1) := dk_3 ((dQ_X4_weigh_0 0).trans dk_j0)
theorem dX4_weigh_1 : decode cX4_weigh 1 = .ok (.istore_n 3, 1) := dk_62 ((dQ_X4_weigh_0 1).trans dk_j1)
theorem dX4_weigh_2 : decode cX4_weigh 2 = .ok (.iload_n 3, 1) := dk_29 ((dQ_X4_weigh_0 2).trans dk_j2)
theorem dX4_weigh_3 : decode cX4_weigh 3 = .ok (.iload_n 1, 1) := dk_27 ((dQ_X4_weigh_0 3).trans dk_j3)
theorem dk_vs2_0_65 : Reader.signed 16 ((0x00 : UInt8).toNat * 256 + (0x41 : UInt8).toNat) = (65 : Int) := by decide +kernel
theorem dX4_weigh_4 : decode cX4_weigh 4 = .ok (.if_icmp .gt 65, 3) := dk_163 ((dQ_X4_weigh_0 4).trans dk_j4) ((dQ_X4_weigh_0 5).trans dk_j5) ((dQ_X4_weigh_0 6).trans dk_j6) dk_vs2_0_65
theorem dX4_weigh_7 : decode cX4_weigh 7 = .ok (.iload_n 3, 1) := dk_29 ((dQ_X4_weigh_0 7).trans dk_j7)
theorem dX4_weigh_8 : decode cX4_weigh 8 = .ok (.aload_n 0, 1) := dk_42 ((dQ_X4_weigh_0 8).trans dk_j8)
theorem dX4_weigh_9 : decode cX4_weigh 9 = .ok (.getfield 9, 3) := dk_180 ((dQ_X4_weigh_0 9).trans dk_j9) ((dQ_X4_weigh_0 10).trans dk_j10) ((dQ_X4_weigh_0 11).trans dk_j11) dk_vu2_0_9
theorem dX4_weigh_12 : decode cX4_weigh 12 = .ok (.arraylength, 1) := dk_190 ((dQ_X4_weigh_0 12).trans dk_j12)
theorem dk_vs2_0_56 : Reader.signed 16 ((0x00 : UInt8).toNat * 256 + (0x38 : UInt8).toNat) = (56 : Int) := by decide +kernel
theorem dX4_weigh_13 : decode cX4_weigh 13 = .ok (.if_icmp .ge 56, 3) := dk_162 ((dQ_X4_weigh_0 13).trans dk_j13) ((dQ_X4_weigh_0 14).trans dk_j14) ((dQ_X4_weigh_0 15).trans dk_j15) dk_vs2_0_56
theorem dX4_weigh_16 : decode cX4_weigh 16 = .ok (.lconst 1, 1) := dk_10 ((dQ_X4_weigh_1 0).trans dk_j0)
theorem dX4_weigh_17 : decode cX4_weigh 17 = .ok (.lstore 4, 2) := dk_55 ((dQ_X4_weigh_1 1).trans dk_j1) ((dQ_X4_weigh_1 2).trans dk_j2) dk_vu1_4
theorem dX4_weigh_19 : decode cX4_weigh 19 = .ok (.iconst 0, 1) := dk_3 ((dQ_X4_weigh_1 3).trans dk_j3)
theorem dX4_weigh_20 : decode cX4_weigh 20 = .ok (.istore 6, 2) := dk_54 ((dQ_X4_weigh_1 4).trans dk_j4) ((dQ_X4_weigh_1 5).trans dk_j5) dk_vu1_6
theorem dX4_weigh_22 : decode cX4_weigh 22 = .ok (.iload 6, 2) := dk_21 ((dQ_X4_weigh_1 6).trans dk_j6) ((dQ_X4_weigh_1 7).trans dk_j7) dk_vu1_6
theorem dX4_weigh_24 : decode cX4_weigh 24 = .ok (.iload_n 1, 1) := dk_27 ((dQ_X4_weigh_1 8).trans dk_j8)
theorem dX4_weigh_25 : decode cX4_weigh 25 = .ok (.if_icmp .ge 30, 3) := dk_162 ((dQ_X4_weigh_1 9).trans dk_j9) ((dQ_X4_weigh_1 10).trans dk_j10) ((dQ_X4_weigh_1 11).trans dk_j11) dk_vs2_0_30
theorem dX4_weigh_28 : decode cX4_weigh 28 = .ok (.lload 4, 2) := dk_22 ((dQ_X4_weigh_1 12).trans dk_j12) ((dQ_X4_weigh_1 13).trans dk_j13) dk_vu1_4
theorem dX4_weigh_30 : decode cX4_weigh 30 = .ok (.iload 6, 2) := dk_21 ((dQ_X4_weigh_1 14).trans dk_j14) ((dQ_X4_weigh_1 15).trans dk_j15) dk_vu1_6
theorem dX4_weigh_32 : decode cX4_weigh 32 = .ok (.iload_n 3, 1) := dk_29 ((dQ_X4_weigh_2 0).trans dk_j0)
theorem dX4_weigh_33 : decode cX4_weigh 33 = .ok (.if_icmp .ge 8, 3) := dk_162 ((dQ_X4_weigh_2 1).trans dk_j1) ((dQ_X4_weigh_2 2).trans dk_j2) ((dQ_X4_weigh_2 3).trans dk_j3) dk_vs2_0_8
theorem dX4_weigh_36 : decode cX4_weigh 36 = .ok (.iload_n 2, 1) := dk_28 ((dQ_X4_weigh_2 4).trans dk_j4)
theorem dX4_weigh_37 : decode cX4_weigh 37 = .ok (.i2l, 1) := dk_133 ((dQ_X4_weigh_2 5).trans dk_j5)
theorem dX4_weigh_38 : decode cX4_weigh 38 = .ok (.goto 8, 3) := dk_167 ((dQ_X4_weigh_2 6).trans dk_j6) ((dQ_X4_weigh_2 7).trans dk_j7) ((dQ_X4_weigh_2 8).trans dk_j8) dk_vs2_0_8
theorem dX4_weigh_41 : decode cX4_weigh 41 = .ok (.bipush 10, 2) := dk_16 ((dQ_X4_weigh_2 9).trans dk_j9) ((dQ_X4_weigh_2 10).trans dk_j10) dk_vs1_10
theorem dX4_weigh_43 : decode cX4_weigh 43 = .ok (.iload_n 2, 1) := dk_28 ((dQ_X4_weigh_2 11).trans dk_j11)
theorem dX4_weigh_44 : decode cX4_weigh 44 = .ok (.isub, 1) := dk_100 ((dQ_X4_weigh_2 12).trans dk_j12)
theorem dX4_weigh_45 : decode cX4_weigh 45 = .ok (.i2l, 1) := dk_133 ((dQ_X4_weigh_2 13).trans dk_j13)
theorem dX4_weigh_46 : decode cX4_weigh 46 = .ok (.lmul, 1) := dk_105 ((dQ_X4_weigh_2 14).trans dk_j14)
theorem dX4_weigh_47 : decode cX4_weigh 47 = .ok (.lstore 4, 2) := dk_55 ((dQ_X4_weigh_2 15).trans dk_j15) ((dQ_X4_weigh_3 0).trans dk_j0) dk_vu1_4
theorem dX4_weigh_49 : decode cX4_weigh 49 = .ok (.iinc 6 1, 3) := dk_132 ((dQ_X4_weigh_3 1).trans dk_j1) ((dQ_X4_weigh_3 2).trans dk_j2) ((dQ_X4_weigh_3 3).trans dk_j3) dk_vu1_6 dk_vs1_1
theorem dX4_weigh_52 : decode cX4_weigh 52 = .ok (.goto (-30), 3) := dk_167 ((dQ_X4_weigh_3 4).trans dk_j4) ((dQ_X4_weigh_3 5).trans dk_j5) ((dQ_X4_weigh_3 6).trans dk_j6) dk_vs2_255_226
theorem dX4_weigh_55 : decode cX4_weigh 55 = .ok (.aload_n 0, 1) := dk_42 ((dQ_X4_weigh_3 7).trans dk_j7)
theorem dX4_weigh_56 : decode cX4_weigh 56 = .ok (.getfield 9, 3) := dk_180 ((dQ_X4_weigh_3 8).trans dk_j8) ((dQ_X4_weigh_3 9).trans dk_j9) ((dQ_X4_weigh_3 10).trans dk_j10) dk_vu2_0_9
theorem dX4_weigh_59 : decode cX4_weigh 59 = .ok (.iload_n 3, 1) := dk_29 ((dQ_X4_weigh_3 11).trans dk_j11)
theorem dX4_weigh_60 : decode cX4_weigh 60 = .ok (.lload 4, 2) := dk_22 ((dQ_X4_weigh_3 12).trans dk_j12) ((dQ_X4_weigh_3 13).trans dk_j13) dk_vu1_4
theorem dX4_weigh_62 : decode cX4_weigh 62 = .ok (.lastore, 1) := dk_80 ((dQ_X4_weigh_3 14).trans dk_j14)
theorem dX4_weigh_63 : decode cX4_weigh 63 = .ok (.iinc 3 1, 3) := dk_132 ((dQ_X4_weigh_3 15).trans dk_j15) ((dQ_X4_weigh_4 0).trans dk_j0) ((dQ_X4_weigh_4 1).trans dk_j1) dk_vu1_3 dk_vs1_1
theorem dX4_weigh_66 : decode cX4_weigh 66 = .ok (.goto (-64), 3) := dk_167 ((dQ_X4_weigh_4 2).trans dk_j2) ((dQ_X4_weigh_4 3).trans dk_j3) ((dQ_X4_weigh_4 4).trans dk_j4) dk_vs2_255_192
theorem dX4_weigh_69 : decode cX4_weigh 69 = .ok (.return_, 1) := dk_177 ((dQ_X4_weigh_4 5).trans dk_j5)
def dT_X4_worth_4 : List UInt8 := (0x5c : UInt8) :: (0x02 : UInt8) :: (0x9f : UInt8) :: (0x00 : UInt8) :: (0x07 : UInt8) :: (0x0a : UInt8) :: (0xa7 : UInt8) :: (0x00 : UInt8) :: (0x04 : UInt8) :: (0x09 : UInt8) :: (0xad : UInt8) :: []
def dT_X4_worth_3 : List UInt8 := (0x19 : UInt8) :: (0xb4 : UInt8) :: (0x00 : UInt8) :: (0x59 : UInt8) :: (0x1d : UInt8) :: (0x2e : UInt8) :: (0x85 : UInt8) :: (0xad : UInt8) :: (0x2a : UInt8) :: (0xb4 : UInt8) :: (0x00 : UInt8) :: (0x19 : UInt8) :: (0x15 : UInt8) :: (0x04 : UInt8) :: (0xb6 : UInt8) :: (0x00 : UInt8) :: dT_X4_worth_4
def dT_X4_worth_2 : List UInt8 := (0xb4 : UInt8) :: (0x00 : UInt8) :: (0x1d : UInt8) :: (0x05 : UInt8) :: (0x2e : UInt8) :: (0xb6 : UInt8) :: (0x00 : UInt8) :: (0x55 : UInt8) :: (0x1c : UInt8) :: (0x04 : UInt8) :: (0xa0 : UInt8) :: (0x00 : UInt8) :: (0x0e : UInt8) :: (0x2a : UInt8) :: (0xb4 : UInt8) :: (0x00 : UInt8) :: dT_X4_worth_3
def dT_X4_worth_1 : List UInt8 := (0x0a : UInt8) :: (0xa7 : UInt8) :: (0x00 : UInt8) :: (0x04 : UInt8) :: (0x09 : UInt8) :: (0xad : UInt8) :: (0x2a : UInt8) :: (0xb4 : UInt8) :: (0x00 : UInt8) :: (0x19 : UInt8) :: (0x2b : UInt8) :: (0x2a : UInt8) :: (0xb4 : UInt8) :: (0x00 : UInt8) :: (0x12 : UInt8) :: (0x2b : UInt8) :: dT_X4_worth_2
def dT_X4_worth_0 : List UInt8 := (0x1c : UInt8) :: (0x9a : UInt8) :: (0x00 : UInt8) :: (0x15 : UInt8) :: (0x2a : UInt8) :: (0xb4 : UInt8) :: (0x00 : UInt8) :: (0x12 : UInt8) :: (0xb4 : UInt8) :: (0x00 : UInt8) :: (0x52 : UInt8) :: (0x1d : UInt8) :: (0x2e : UInt8) :: (0x99 : UInt8) :: (0x00 : UInt8) :: (0x07 : UInt8) :: dT_X4_worth_1
theorem dT_X4_worth : cX4_worth.data.toList = dT_X4_worth_0 := eq_of_beq (show (cX4_worth.data.toList == dT_X4_worth_0) = true by decide +kernel)
theorem dQ_X4_worth_0 : dQ_P cX4_worth 0 dT_X4_worth_0 := fun i => by rw [dT_X4_worth]; rfl
theorem dQ_X4_worth_1 : dQ_P cX4_worth 16 dT_X4_worth_1 := fun i => (dQ_X4_worth_0 (i + 16)).trans dk_t
theorem dQ_X4_worth_2 : dQ_P cX4_worth 32 dT_X4_worth_2 := fun i => (dQ_X4_worth_1 (i + 16)).trans dk_t
theorem dQ_X4_worth_3 : dQ_P cX4_worth 48 dT_X4_worth_3 := fun i => (dQ_X4_worth_2 (i + 16)).trans dk_t
theorem dQ_X4_worth_4 : dQ_P cX4_worth 64 dT_X4_worth_4 := fun i => (dQ_X4_worth_3 (i + 16)).trans dk_t
theorem dX4_worth_0 : decode cX4_worth 0 = .ok (.iload_n 2, 1) := dk_28 ((dQ_X4_worth_0 0).trans dk_j0)
theorem dX4_worth_1 : decode cX4_worth 1 = .ok (.ifCond .ne 21, 3) := dk_154 ((dQ_X4_worth_0 1).trans dk_j1) ((dQ_X4_worth_0 2).trans dk_j2) ((dQ_X4_worth_0 3).trans dk_j3) dk_vs2_0_21
theorem dX4_worth_4 : decode cX4_worth 4 = .ok (.aload_n 0, 1) := dk_42 ((dQ_X4_worth_0 4).trans dk_j4)
theorem dX4_worth_5 : decode cX4_worth 5 = .ok (.getfield 18, 3) := dk_180 ((dQ_X4_worth_0 5).trans dk_j5) ((dQ_X4_worth_0 6).trans dk_j6) ((dQ_X4_worth_0 7).trans dk_j7) dk_vu2_0_18
theorem dX4_worth_8 : decode cX4_worth 8 = .ok (.getfield 82, 3) := dk_180 ((dQ_X4_worth_0 8).trans dk_j8) ((dQ_X4_worth_0 9).trans dk_j9) ((dQ_X4_worth_0 10).trans dk_j10) dk_vu2_0_82
theorem dX4_worth_11 : decode cX4_worth 11 = .ok (.iload_n 3, 1) := dk_29 ((dQ_X4_worth_0 11).trans dk_j11)
theorem dX4_worth_12 : decode cX4_worth 12 = .ok (.iaload, 1) := dk_46 ((dQ_X4_worth_0 12).trans dk_j12)
theorem dX4_worth_13 : decode cX4_worth 13 = .ok (.ifCond .eq 7, 3) := dk_153 ((dQ_X4_worth_0 13).trans dk_j13) ((dQ_X4_worth_0 14).trans dk_j14) ((dQ_X4_worth_0 15).trans dk_j15) dk_vs2_0_7
theorem dX4_worth_16 : decode cX4_worth 16 = .ok (.lconst 1, 1) := dk_10 ((dQ_X4_worth_1 0).trans dk_j0)
theorem dX4_worth_17 : decode cX4_worth 17 = .ok (.goto 4, 3) := dk_167 ((dQ_X4_worth_1 1).trans dk_j1) ((dQ_X4_worth_1 2).trans dk_j2) ((dQ_X4_worth_1 3).trans dk_j3) dk_vs2_0_4
theorem dX4_worth_20 : decode cX4_worth 20 = .ok (.lconst 0, 1) := dk_9 ((dQ_X4_worth_1 4).trans dk_j4)
theorem dX4_worth_21 : decode cX4_worth 21 = .ok (.lreturn, 1) := dk_173 ((dQ_X4_worth_1 5).trans dk_j5)
theorem dX4_worth_22 : decode cX4_worth 22 = .ok (.aload_n 0, 1) := dk_42 ((dQ_X4_worth_1 6).trans dk_j6)
theorem dX4_worth_23 : decode cX4_worth 23 = .ok (.getfield 25, 3) := dk_180 ((dQ_X4_worth_1 7).trans dk_j7) ((dQ_X4_worth_1 8).trans dk_j8) ((dQ_X4_worth_1 9).trans dk_j9) dk_vu2_0_25
theorem dX4_worth_26 : decode cX4_worth 26 = .ok (.aload_n 1, 1) := dk_43 ((dQ_X4_worth_1 10).trans dk_j10)
theorem dX4_worth_27 : decode cX4_worth 27 = .ok (.aload_n 0, 1) := dk_42 ((dQ_X4_worth_1 11).trans dk_j11)
theorem dX4_worth_28 : decode cX4_worth 28 = .ok (.getfield 18, 3) := dk_180 ((dQ_X4_worth_1 12).trans dk_j12) ((dQ_X4_worth_1 13).trans dk_j13) ((dQ_X4_worth_1 14).trans dk_j14) dk_vu2_0_18
theorem dX4_worth_31 : decode cX4_worth 31 = .ok (.aload_n 1, 1) := dk_43 ((dQ_X4_worth_1 15).trans dk_j15)
theorem dX4_worth_32 : decode cX4_worth 32 = .ok (.getfield 29, 3) := dk_180 ((dQ_X4_worth_2 0).trans dk_j0) ((dQ_X4_worth_2 1).trans dk_j1) ((dQ_X4_worth_2 2).trans dk_j2) dk_vu2_0_29
theorem dX4_worth_35 : decode cX4_worth 35 = .ok (.iconst 2, 1) := dk_5 ((dQ_X4_worth_2 3).trans dk_j3)
theorem dX4_worth_36 : decode cX4_worth 36 = .ok (.iaload, 1) := dk_46 ((dQ_X4_worth_2 4).trans dk_j4)
theorem dk_vu2_0_85 : (0x00 : UInt8).toNat * 256 + (0x55 : UInt8).toNat = (85 : Nat) := by decide +kernel
theorem dX4_worth_37 : decode cX4_worth 37 = .ok (.invokevirtual 85, 3) := dk_182 ((dQ_X4_worth_2 5).trans dk_j5) ((dQ_X4_worth_2 6).trans dk_j6) ((dQ_X4_worth_2 7).trans dk_j7) dk_vu2_0_85
theorem dX4_worth_40 : decode cX4_worth 40 = .ok (.iload_n 2, 1) := dk_28 ((dQ_X4_worth_2 8).trans dk_j8)
theorem dX4_worth_41 : decode cX4_worth 41 = .ok (.iconst 1, 1) := dk_4 ((dQ_X4_worth_2 9).trans dk_j9)
theorem dX4_worth_42 : decode cX4_worth 42 = .ok (.if_icmp .ne 14, 3) := dk_160 ((dQ_X4_worth_2 10).trans dk_j10) ((dQ_X4_worth_2 11).trans dk_j11) ((dQ_X4_worth_2 12).trans dk_j12) dk_vs2_0_14
theorem dX4_worth_45 : decode cX4_worth 45 = .ok (.aload_n 0, 1) := dk_42 ((dQ_X4_worth_2 13).trans dk_j13)
theorem dX4_worth_46 : decode cX4_worth 46 = .ok (.getfield 25, 3) := dk_180 ((dQ_X4_worth_2 14).trans dk_j14) ((dQ_X4_worth_2 15).trans dk_j15) ((dQ_X4_worth_3 0).trans dk_j0) dk_vu2_0_25
theorem dk_vu2_0_89 : (0x00 : UInt8).toNat * 256 + (0x59 : UInt8).toNat = (89 : Nat) := by decide +kernel
theorem dX4_worth_49 : decode cX4_worth 49 = .ok (.getfield 89, 3) := dk_180 ((dQ_X4_worth_3 1).trans dk_j1) ((dQ_X4_worth_3 2).trans dk_j2) ((dQ_X4_worth_3 3).trans dk_j3) dk_vu2_0_89
theorem dX4_worth_52 : decode cX4_worth 52 = .ok (.iload_n 3, 1) := dk_29 ((dQ_X4_worth_3 4).trans dk_j4)
theorem dX4_worth_53 : decode cX4_worth 53 = .ok (.iaload, 1) := dk_46 ((dQ_X4_worth_3 5).trans dk_j5)
theorem dX4_worth_54 : decode cX4_worth 54 = .ok (.i2l, 1) := dk_133 ((dQ_X4_worth_3 6).trans dk_j6)
theorem dX4_worth_55 : decode cX4_worth 55 = .ok (.lreturn, 1) := dk_173 ((dQ_X4_worth_3 7).trans dk_j7)
theorem dX4_worth_56 : decode cX4_worth 56 = .ok (.aload_n 0, 1) := dk_42 ((dQ_X4_worth_3 8).trans dk_j8)
theorem dX4_worth_57 : decode cX4_worth 57 = .ok (.getfield 25, 3) := dk_180 ((dQ_X4_worth_3 9).trans dk_j9) ((dQ_X4_worth_3 10).trans dk_j10) ((dQ_X4_worth_3 11).trans dk_j11) dk_vu2_0_25
theorem dX4_worth_60 : decode cX4_worth 60 = .ok (.iload 4, 2) := dk_21 ((dQ_X4_worth_3 12).trans dk_j12) ((dQ_X4_worth_3 13).trans dk_j13) dk_vu1_4
theorem dX4_worth_62 : decode cX4_worth 62 = .ok (.invokevirtual 92, 3) := dk_182 ((dQ_X4_worth_3 14).trans dk_j14) ((dQ_X4_worth_3 15).trans dk_j15) ((dQ_X4_worth_4 0).trans dk_j0) dk_vu2_0_92
theorem dX4_worth_65 : decode cX4_worth 65 = .ok (.iconst (-1), 1) := dk_2 ((dQ_X4_worth_4 1).trans dk_j1)
theorem dX4_worth_66 : decode cX4_worth 66 = .ok (.if_icmp .eq 7, 3) := dk_159 ((dQ_X4_worth_4 2).trans dk_j2) ((dQ_X4_worth_4 3).trans dk_j3) ((dQ_X4_worth_4 4).trans dk_j4) dk_vs2_0_7
theorem dX4_worth_69 : decode cX4_worth 69 = .ok (.lconst 1, 1) := dk_10 ((dQ_X4_worth_4 5).trans dk_j5)
theorem dX4_worth_70 : decode cX4_worth 70 = .ok (.goto 4, 3) := dk_167 ((dQ_X4_worth_4 6).trans dk_j6) ((dQ_X4_worth_4 7).trans dk_j7) ((dQ_X4_worth_4 8).trans dk_j8) dk_vs2_0_4
theorem dX4_worth_73 : decode cX4_worth 73 = .ok (.lconst 0, 1) := dk_9 ((dQ_X4_worth_4 9).trans dk_j9)
theorem dX4_worth_74 : decode cX4_worth 74 = .ok (.lreturn, 1) := dk_173 ((dQ_X4_worth_4 10).trans dk_j10)
def dT_X4_lower_4 : List UInt8 := (0x6d : UInt8) :: (0xb5 : UInt8) :: (0x00 : UInt8) :: (0x4a : UInt8) :: (0xb1 : UInt8) :: []
def dT_X4_lower_3 : List UInt8 := (0x2a : UInt8) :: (0x59 : UInt8) :: (0xb4 : UInt8) :: (0x00 : UInt8) :: (0x2b : UInt8) :: (0x21 : UInt8) :: (0x6d : UInt8) :: (0xb5 : UInt8) :: (0x00 : UInt8) :: (0x2b : UInt8) :: (0x2a : UInt8) :: (0x59 : UInt8) :: (0xb4 : UInt8) :: (0x00 : UInt8) :: (0x4a : UInt8) :: (0x21 : UInt8) :: dT_X4_lower_4
def dT_X4_lower_2 : List UInt8 := (0x42 : UInt8) :: (0x16 : UInt8) :: (0x06 : UInt8) :: (0x40 : UInt8) :: (0x84 : UInt8) :: (0x05 : UInt8) :: (0x01 : UInt8) :: (0xa7 : UInt8) :: (0xff : UInt8) :: (0xe6 : UInt8) :: (0x21 : UInt8) :: (0x0a : UInt8) :: (0x94 : UInt8) :: (0x9e : UInt8) :: (0x00 : UInt8) :: (0x17 : UInt8) :: dT_X4_lower_3
def dT_X4_lower_1 : List UInt8 := (0x64 : UInt8) :: (0xa2 : UInt8) :: (0x00 : UInt8) :: (0x19 : UInt8) :: (0x1f : UInt8) :: (0x09 : UInt8) :: (0x94 : UInt8) :: (0x99 : UInt8) :: (0x00 : UInt8) :: (0x13 : UInt8) :: (0x21 : UInt8) :: (0x1f : UInt8) :: (0x71 : UInt8) :: (0x37 : UInt8) :: (0x06 : UInt8) :: (0x1f : UInt8) :: dT_X4_lower_2
def dT_X4_lower_0 : List UInt8 := (0x2a : UInt8) :: (0xb4 : UInt8) :: (0x00 : UInt8) :: (0x2b : UInt8) :: (0x40 : UInt8) :: (0x2a : UInt8) :: (0xb4 : UInt8) :: (0x00 : UInt8) :: (0x4a : UInt8) :: (0x42 : UInt8) :: (0x03 : UInt8) :: (0x36 : UInt8) :: (0x05 : UInt8) :: (0x15 : UInt8) :: (0x05 : UInt8) :: (0x10 : UInt8) :: dT_X4_lower_1
theorem dT_X4_lower : cX4_lower.data.toList = dT_X4_lower_0 := eq_of_beq (show (cX4_lower.data.toList == dT_X4_lower_0) = true by decide +kernel)
theorem dQ_X4_lower_0 : dQ_P cX4_lower 0 dT_X4_lower_0 := fun i => by rw [dT_X4_lower]; rfl
theorem dQ_X4_lower_1 : dQ_P cX4_lower 16 dT_X4_lower_1 := fun i => (dQ_X4_lower_0 (i + 16)).trans dk_t
theorem dQ_X4_lower_2 : dQ_P cX4_lower 32 dT_X4_lower_2 := fun i => (dQ_X4_lower_1 (i + 16)).trans dk_t
theorem dQ_X4_lower_3 : dQ_P cX4_lower 48 dT_X4_lower_3 := fun i => (dQ_X4_lower_2 (i + 16)).trans dk_t
theorem dQ_X4_lower_4 : dQ_P cX4_lower 64 dT_X4_lower_4 := fun i => (dQ_X4_lower_3 (i + 16)).trans dk_t
theorem dX4_lower_0 : decode cX4_lower 0 = .ok (.aload_n 0, 1) := dk_42 ((dQ_X4_lower_0 0).trans dk_j0)
theorem dX4_lower_1 : decode cX4_lower 1 = .ok (.getfield 43, 3) := dk_180 ((dQ_X4_lower_0 1).trans dk_j1) ((dQ_X4_lower_0 2).trans dk_j2) ((dQ_X4_lower_0 3).trans dk_j3) dk_vu2_0_43
theorem dX4_lower_4 : decode cX4_lower 4 = .ok (.lstore_n 1, 1) := dk_64 ((dQ_X4_lower_0 4).trans dk_j4)
theorem dX4_lower_5 : decode cX4_lower 5 = .ok (.aload_n 0, 1) := dk_42 ((dQ_X4_lower_0 5).trans dk_j5)
theorem dX4_lower_6 : decode cX4_lower 6 = .ok (.getfield 74, 3) := dk_180 ((dQ_X4_lower_0 6).trans dk_j6) ((dQ_X4_lower_0 7).trans dk_j7) ((dQ_X4_lower_0 8).trans dk_j8) dk_vu2_0_74
theorem dX4_lower_9 : decode cX4_lower 9 = .ok (.lstore_n 3, 1) := dk_66 ((dQ_X4_lower_0 9).trans dk_j9)
theorem dX4_lower_10 : decode cX4_lower 10 = .ok (.iconst 0, 1) := dk_3 ((dQ_X4_lower_0 10).trans dk_j10)
theorem dX4_lower_11 : decode cX4_lower 11 = .ok (.istore 5, 2) := dk_54 ((dQ_X4_lower_0 11).trans dk_j11) ((dQ_X4_lower_0 12).trans dk_j12) dk_vu1_5
theorem dX4_lower_13 : decode cX4_lower 13 = .ok (.iload 5, 2) := dk_21 ((dQ_X4_lower_0 13).trans dk_j13) ((dQ_X4_lower_0 14).trans dk_j14) dk_vu1_5
theorem dX4_lower_15 : decode cX4_lower 15 = .ok (.bipush 100, 2) := dk_16 ((dQ_X4_lower_0 15).trans dk_j15) ((dQ_X4_lower_1 0).trans dk_j0) dk_vs1_100
theorem dX4_lower_17 : decode cX4_lower 17 = .ok (.if_icmp .ge 25, 3) := dk_162 ((dQ_X4_lower_1 1).trans dk_j1) ((dQ_X4_lower_1 2).trans dk_j2) ((dQ_X4_lower_1 3).trans dk_j3) dk_vs2_0_25
theorem dX4_lower_20 : decode cX4_lower 20 = .ok (.lload_n 1, 1) := dk_31 ((dQ_X4_lower_1 4).trans dk_j4)
theorem dX4_lower_21 : decode cX4_lower 21 = .ok (.lconst 0, 1) := dk_9 ((dQ_X4_lower_1 5).trans dk_j5)
theorem dX4_lower_22 : decode cX4_lower 22 = .ok (.lcmp, 1) := dk_148 ((dQ_X4_lower_1 6).trans dk_j6)
theorem dX4_lower_23 : decode cX4_lower 23 = .ok (.ifCond .eq 19, 3) := dk_153 ((dQ_X4_lower_1 7).trans dk_j7) ((dQ_X4_lower_1 8).trans dk_j8) ((dQ_X4_lower_1 9).trans dk_j9) dk_vs2_0_19
theorem dX4_lower_26 : decode cX4_lower 26 = .ok (.lload_n 3, 1) := dk_33 ((dQ_X4_lower_1 10).trans dk_j10)
theorem dX4_lower_27 : decode cX4_lower 27 = .ok (.lload_n 1, 1) := dk_31 ((dQ_X4_lower_1 11).trans dk_j11)
theorem dX4_lower_28 : decode cX4_lower 28 = .ok (.lrem, 1) := dk_113 ((dQ_X4_lower_1 12).trans dk_j12)
theorem dX4_lower_29 : decode cX4_lower 29 = .ok (.lstore 6, 2) := dk_55 ((dQ_X4_lower_1 13).trans dk_j13) ((dQ_X4_lower_1 14).trans dk_j14) dk_vu1_6
theorem dX4_lower_31 : decode cX4_lower 31 = .ok (.lload_n 1, 1) := dk_31 ((dQ_X4_lower_1 15).trans dk_j15)
theorem dX4_lower_32 : decode cX4_lower 32 = .ok (.lstore_n 3, 1) := dk_66 ((dQ_X4_lower_2 0).trans dk_j0)
theorem dX4_lower_33 : decode cX4_lower 33 = .ok (.lload 6, 2) := dk_22 ((dQ_X4_lower_2 1).trans dk_j1) ((dQ_X4_lower_2 2).trans dk_j2) dk_vu1_6
theorem dX4_lower_35 : decode cX4_lower 35 = .ok (.lstore_n 1, 1) := dk_64 ((dQ_X4_lower_2 3).trans dk_j3)
theorem dX4_lower_36 : decode cX4_lower 36 = .ok (.iinc 5 1, 3) := dk_132 ((dQ_X4_lower_2 4).trans dk_j4) ((dQ_X4_lower_2 5).trans dk_j5) ((dQ_X4_lower_2 6).trans dk_j6) dk_vu1_5 dk_vs1_1
theorem dX4_lower_39 : decode cX4_lower 39 = .ok (.goto (-26), 3) := dk_167 ((dQ_X4_lower_2 7).trans dk_j7) ((dQ_X4_lower_2 8).trans dk_j8) ((dQ_X4_lower_2 9).trans dk_j9) dk_vs2_255_230
theorem dX4_lower_42 : decode cX4_lower 42 = .ok (.lload_n 3, 1) := dk_33 ((dQ_X4_lower_2 10).trans dk_j10)
theorem dX4_lower_43 : decode cX4_lower 43 = .ok (.lconst 1, 1) := dk_10 ((dQ_X4_lower_2 11).trans dk_j11)
theorem dX4_lower_44 : decode cX4_lower 44 = .ok (.lcmp, 1) := dk_148 ((dQ_X4_lower_2 12).trans dk_j12)
theorem dX4_lower_45 : decode cX4_lower 45 = .ok (.ifCond .le 23, 3) := dk_158 ((dQ_X4_lower_2 13).trans dk_j13) ((dQ_X4_lower_2 14).trans dk_j14) ((dQ_X4_lower_2 15).trans dk_j15) dk_vs2_0_23
theorem dX4_lower_48 : decode cX4_lower 48 = .ok (.aload_n 0, 1) := dk_42 ((dQ_X4_lower_3 0).trans dk_j0)
theorem dX4_lower_49 : decode cX4_lower 49 = .ok (.dup, 1) := dk_89 ((dQ_X4_lower_3 1).trans dk_j1)
theorem dX4_lower_50 : decode cX4_lower 50 = .ok (.getfield 43, 3) := dk_180 ((dQ_X4_lower_3 2).trans dk_j2) ((dQ_X4_lower_3 3).trans dk_j3) ((dQ_X4_lower_3 4).trans dk_j4) dk_vu2_0_43
theorem dX4_lower_53 : decode cX4_lower 53 = .ok (.lload_n 3, 1) := dk_33 ((dQ_X4_lower_3 5).trans dk_j5)
theorem dX4_lower_54 : decode cX4_lower 54 = .ok (.ldiv, 1) := dk_109 ((dQ_X4_lower_3 6).trans dk_j6)
theorem dX4_lower_55 : decode cX4_lower 55 = .ok (.putfield 43, 3) := dk_181 ((dQ_X4_lower_3 7).trans dk_j7) ((dQ_X4_lower_3 8).trans dk_j8) ((dQ_X4_lower_3 9).trans dk_j9) dk_vu2_0_43
theorem dX4_lower_58 : decode cX4_lower 58 = .ok (.aload_n 0, 1) := dk_42 ((dQ_X4_lower_3 10).trans dk_j10)
theorem dX4_lower_59 : decode cX4_lower 59 = .ok (.dup, 1) := dk_89 ((dQ_X4_lower_3 11).trans dk_j11)
theorem dX4_lower_60 : decode cX4_lower 60 = .ok (.getfield 74, 3) := dk_180 ((dQ_X4_lower_3 12).trans dk_j12) ((dQ_X4_lower_3 13).trans dk_j13) ((dQ_X4_lower_3 14).trans dk_j14) dk_vu2_0_74
theorem dX4_lower_63 : decode cX4_lower 63 = .ok (.lload_n 3, 1) := dk_33 ((dQ_X4_lower_3 15).trans dk_j15)
theorem dX4_lower_64 : decode cX4_lower 64 = .ok (.ldiv, 1) := dk_109 ((dQ_X4_lower_4 0).trans dk_j0)
theorem dX4_lower_65 : decode cX4_lower 65 = .ok (.putfield 74, 3) := dk_181 ((dQ_X4_lower_4 1).trans dk_j1) ((dQ_X4_lower_4 2).trans dk_j2) ((dQ_X4_lower_4 3).trans dk_j3) dk_vu2_0_74
theorem dX4_lower_68 : decode cX4_lower 68 = .ok (.return_, 1) := dk_177 ((dQ_X4_lower_4 4).trans dk_j4)
def dT_X5_init_1 : List UInt8 := (0x00 : UInt8) :: (0x0f : UInt8) :: (0xb1 : UInt8) :: []
def dT_X5_init_0 : List UInt8 := (0x2a : UInt8) :: (0xb7 : UInt8) :: (0x00 : UInt8) :: (0x03 : UInt8) :: (0x2a : UInt8) :: (0x11 : UInt8) :: (0x03 : UInt8) :: (0x84 : UInt8) :: (0xbc : UInt8) :: (0x0a : UInt8) :: (0xb5 : UInt8) :: (0x00 : UInt8) :: (0x09 : UInt8) :: (0x2a : UInt8) :: (0x02 : UInt8) :: (0xb5 : UInt8) :: dT_X5_init_1
theorem dT_X5_init : cX5_init.data.toList = dT_X5_init_0 := eq_of_beq (show (cX5_init.data.toList == dT_X5_init_0) = true by decide +kernel)
theorem dQ_X5_init_0 : dQ_P cX5_init 0 dT_X5_init_0 := fun i => by rw [dT_X5_init]; rfl
theorem dQ_X5_init_1 : dQ_P cX5_init 16 dT_X5_init_1 := fun i => (dQ_X5_init_0 (i + 16)).trans dk_t
theorem dX5_init_0 : decode cX5_init 0 = .ok (.aload_n 0, 1) := dk_42 ((dQ_X5_init_0 0).trans dk_j0)
theorem dX5_init_1 : decode cX5_init 1 = .ok (.invokespecial 3, 3) := dk_183 ((dQ_X5_init_0 1).trans dk_j1) ((dQ_X5_init_0 2).trans dk_j2) ((dQ_X5_init_0 3).trans dk_j3) dk_vu2_0_3
theorem dX5_init_4 : decode cX5_init 4 = .ok (.aload_n 0, 1) := dk_42 ((dQ_X5_init_0 4).trans dk_j4)
theorem dX5_init_5 : decode cX5_init 5 = .ok (.sipush 900, 3) := dk_17 ((dQ_X5_init_0 5).trans dk_j5) ((dQ_X5_init_0 6).trans dk_j6) ((dQ_X5_init_0 7).trans dk_j7) dk_vs2_3_132
theorem dX5_init_8 : decode cX5_init 8 = .ok (.newarray .int, 2) := by decide +kernel
theorem dX5_init_10 : decode cX5_init 10 = .ok (.putfield 9, 3) := dk_181 ((dQ_X5_init_0 10).trans dk_j10) ((dQ_X5_init_0 11).trans dk_j11) ((dQ_X5_init_0 12).trans dk_j12) dk_vu2_0_9
theorem dX5_init_13 : decode cX5_init 13 = .ok (.aload_n 0, 1) := dk_42 ((dQ_X5_init_0 13).trans dk_j13)
theorem dX5_init_14 : decode cX5_init 14 = .ok (.iconst (-1), 1) := dk_2 ((dQ_X5_init_0 14).trans dk_j14)
theorem dX5_init_15 : decode cX5_init 15 = .ok (.putfield 15, 3) := dk_181 ((dQ_X5_init_0 15).trans dk_j15) ((dQ_X5_init_1 0).trans dk_j0) ((dQ_X5_init_1 1).trans dk_j1) dk_vu2_0_15
theorem dX5_init_18 : decode cX5_init 18 = .ok (.return_, 1) := dk_177 ((dQ_X5_init_1 2).trans dk_j2)
def dT_X5_put_3 : List UInt8 := (0xd5 : UInt8) :: (0xb1 : UInt8) :: []
def dT_X5_put_2 : List UInt8 := (0x4f : UInt8) :: (0x2a : UInt8) :: (0x59 : UInt8) :: (0xb4 : UInt8) :: (0x00 : UInt8) :: (0x13 : UInt8) :: (0x04 : UInt8) :: (0x60 : UInt8) :: (0xb5 : UInt8) :: (0x00 : UInt8) :: (0x13 : UInt8) :: (0x84 : UInt8) :: (0x02 : UInt8) :: (0xf8 : UInt8) :: (0xa7 : UInt8) :: (0xff : UInt8) :: dT_X5_put_3
def dT_X5_put_1 : List UInt8 := (0x23 : UInt8) :: (0x2a : UInt8) :: (0xb4 : UInt8) :: (0x00 : UInt8) :: (0x09 : UInt8) :: (0x2a : UInt8) :: (0xb4 : UInt8) :: (0x00 : UInt8) :: (0x13 : UInt8) :: (0x1b : UInt8) :: (0x1c : UInt8) :: (0x7a : UInt8) :: (0x11 : UInt8) :: (0x00 : UInt8) :: (0xff : UInt8) :: (0x7e : UInt8) :: dT_X5_put_2
def dT_X5_put_0 : List UInt8 := (0x10 : UInt8) :: (0x18 : UInt8) :: (0x3d : UInt8) :: (0x1c : UInt8) :: (0x9b : UInt8) :: (0x00 : UInt8) :: (0x2d : UInt8) :: (0x2a : UInt8) :: (0xb4 : UInt8) :: (0x00 : UInt8) :: (0x13 : UInt8) :: (0x11 : UInt8) :: (0x03 : UInt8) :: (0x84 : UInt8) :: (0xa2 : UInt8) :: (0x00 : UInt8) :: dT_X5_put_1
theorem dT_X5_put : cX5_put.data.toList = dT_X5_put_0 := eq_of_beq (show (cX5_put.data.toList == dT_X5_put_0) = true by decide +kernel)
theorem dQ_X5_put_0 : dQ_P cX5_put 0 dT_X5_put_0 := fun i => by rw [dT_X5_put]; rfl
theorem dQ_X5_put_1 : dQ_P cX5_put 16 dT_X5_put_1 := fun i => (dQ_X5_put_0 (i + 16)).trans dk_t
theorem dQ_X5_put_2 : dQ_P cX5_put 32 dT_X5_put_2 := fun i => (dQ_X5_put_1 (i + 16)).trans dk_t
theorem dQ_X5_put_3 : dQ_P cX5_put 48 dT_X5_put_3 := fun i => (dQ_X5_put_2 (i + 16)).trans dk_t
theorem dX5_put_0 : decode cX5_put 0 = .ok (.bipush 24, 2) := dk_16 ((dQ_X5_put_0 0).trans dk_j0) ((dQ_X5_put_0 1).trans dk_j1) dk_vs1_24
theorem dX5_put_2 : decode cX5_put 2 = .ok (.istore_n 2, 1) := dk_61 ((dQ_X5_put_0 2).trans dk_j2)
theorem dX5_put_3 : decode cX5_put 3 = .ok (.iload_n 2, 1) := dk_28 ((dQ_X5_put_0 3).trans dk_j3)
theorem dX5_put_4 : decode cX5_put 4 = .ok (.ifCond .lt 45, 3) := dk_155 ((dQ_X5_put_0 4).trans dk_j4) ((dQ_X5_put_0 5).trans dk_j5) ((dQ_X5_put_0 6).trans dk_j6) dk_vs2_0_45
theorem dX5_put_7 : decode cX5_put 7 = .ok (.aload_n 0, 1) := dk_42 ((dQ_X5_put_0 7).trans dk_j7)
theorem dX5_put_8 : decode cX5_put 8 = .ok (.getfield 19, 3) := dk_180 ((dQ_X5_put_0 8).trans dk_j8) ((dQ_X5_put_0 9).trans dk_j9) ((dQ_X5_put_0 10).trans dk_j10) dk_vu2_0_19
theorem dX5_put_11 : decode cX5_put 11 = .ok (.sipush 900, 3) := dk_17 ((dQ_X5_put_0 11).trans dk_j11) ((dQ_X5_put_0 12).trans dk_j12) ((dQ_X5_put_0 13).trans dk_j13) dk_vs2_3_132
theorem dX5_put_14 : decode cX5_put 14 = .ok (.if_icmp .ge 35, 3) := dk_162 ((dQ_X5_put_0 14).trans dk_j14) ((dQ_X5_put_0 15).trans dk_j15) ((dQ_X5_put_1 0).trans dk_j0) dk_vs2_0_35
theorem dX5_put_17 : decode cX5_put 17 = .ok (.aload_n 0, 1) := dk_42 ((dQ_X5_put_1 1).trans dk_j1)
theorem dX5_put_18 : decode cX5_put 18 = .ok (.getfield 9, 3) := dk_180 ((dQ_X5_put_1 2).trans dk_j2) ((dQ_X5_put_1 3).trans dk_j3) ((dQ_X5_put_1 4).trans dk_j4) dk_vu2_0_9
theorem dX5_put_21 : decode cX5_put 21 = .ok (.aload_n 0, 1) := dk_42 ((dQ_X5_put_1 5).trans dk_j5)
theorem dX5_put_22 : decode cX5_put 22 = .ok (.getfield 19, 3) := dk_180 ((dQ_X5_put_1 6).trans dk_j6) ((dQ_X5_put_1 7).trans dk_j7) ((dQ_X5_put_1 8).trans dk_j8) dk_vu2_0_19
theorem dX5_put_25 : decode cX5_put 25 = .ok (.iload_n 1, 1) := dk_27 ((dQ_X5_put_1 9).trans dk_j9)
theorem dX5_put_26 : decode cX5_put 26 = .ok (.iload_n 2, 1) := dk_28 ((dQ_X5_put_1 10).trans dk_j10)
theorem dX5_put_27 : decode cX5_put 27 = .ok (.ishr, 1) := dk_122 ((dQ_X5_put_1 11).trans dk_j11)
theorem dX5_put_28 : decode cX5_put 28 = .ok (.sipush 255, 3) := dk_17 ((dQ_X5_put_1 12).trans dk_j12) ((dQ_X5_put_1 13).trans dk_j13) ((dQ_X5_put_1 14).trans dk_j14) dk_vs2_0_255
theorem dX5_put_31 : decode cX5_put 31 = .ok (.iand, 1) := dk_126 ((dQ_X5_put_1 15).trans dk_j15)
theorem dX5_put_32 : decode cX5_put 32 = .ok (.iastore, 1) := dk_79 ((dQ_X5_put_2 0).trans dk_j0)
theorem dX5_put_33 : decode cX5_put 33 = .ok (.aload_n 0, 1) := dk_42 ((dQ_X5_put_2 1).trans dk_j1)
theorem dX5_put_34 : decode cX5_put 34 = .ok (.dup, 1) := dk_89 ((dQ_X5_put_2 2).trans dk_j2)
theorem dX5_put_35 : decode cX5_put 35 = .ok (.getfield 19, 3) := dk_180 ((dQ_X5_put_2 3).trans dk_j3) ((dQ_X5_put_2 4).trans dk_j4) ((dQ_X5_put_2 5).trans dk_j5) dk_vu2_0_19
theorem dX5_put_38 : decode cX5_put 38 = .ok (.iconst 1, 1) := dk_4 ((dQ_X5_put_2 6).trans dk_j6)
theorem dX5_put_39 : decode cX5_put 39 = .ok (.iadd, 1) := dk_96 ((dQ_X5_put_2 7).trans dk_j7)
theorem dX5_put_40 : decode cX5_put 40 = .ok (.putfield 19, 3) := dk_181 ((dQ_X5_put_2 8).trans dk_j8) ((dQ_X5_put_2 9).trans dk_j9) ((dQ_X5_put_2 10).trans dk_j10) dk_vu2_0_19
theorem dX5_put_43 : decode cX5_put 43 = .ok (.iinc 2 (-8), 3) := dk_132 ((dQ_X5_put_2 11).trans dk_j11) ((dQ_X5_put_2 12).trans dk_j12) ((dQ_X5_put_2 13).trans dk_j13) dk_vu1_2 dk_vs1_248
theorem dX5_put_46 : decode cX5_put 46 = .ok (.goto (-43), 3) := dk_167 ((dQ_X5_put_2 14).trans dk_j14) ((dQ_X5_put_2 15).trans dk_j15) ((dQ_X5_put_3 0).trans dk_j0) dk_vs2_255_213
theorem dX5_put_49 : decode cX5_put 49 = .ok (.return_, 1) := dk_177 ((dQ_X5_put_3 1).trans dk_j1)
def dT_X5_read_5 : List UInt8 := (0x60 : UInt8) :: (0x4f : UInt8) :: (0x84 : UInt8) :: (0x02 : UInt8) :: (0x01 : UInt8) :: (0xa7 : UInt8) :: (0xff : UInt8) :: (0xcc : UInt8) :: (0xb1 : UInt8) :: []
def dT_X5_read_4 : List UInt8 := (0x07 : UInt8) :: (0x2a : UInt8) :: (0xb6 : UInt8) :: (0x00 : UInt8) :: (0x2e : UInt8) :: (0x2a : UInt8) :: (0xb4 : UInt8) :: (0x00 : UInt8) :: (0x16 : UInt8) :: (0xb4 : UInt8) :: (0x00 : UInt8) :: (0x31 : UInt8) :: (0x10 : UInt8) :: (0x0a : UInt8) :: (0x1c : UInt8) :: (0x04 : UInt8) :: dT_X5_read_5
def dT_X5_read_3 : List UInt8 := (0xb4 : UInt8) :: (0x00 : UInt8) :: (0x28 : UInt8) :: (0x99 : UInt8) :: (0x00 : UInt8) :: (0x25 : UInt8) :: (0x1c : UInt8) :: (0x9a : UInt8) :: (0x00 : UInt8) :: (0x0a : UInt8) :: (0x2a : UInt8) :: (0xb6 : UInt8) :: (0x00 : UInt8) :: (0x2b : UInt8) :: (0xa7 : UInt8) :: (0x00 : UInt8) :: dT_X5_read_4
def dT_X5_read_2 : List UInt8 := (0x3d : UInt8) :: (0x1c : UInt8) :: (0x11 : UInt8) :: (0x03 : UInt8) :: (0x84 : UInt8) :: (0xa2 : UInt8) :: (0x00 : UInt8) :: (0x33 : UInt8) :: (0x2a : UInt8) :: (0xb4 : UInt8) :: (0x00 : UInt8) :: (0x1f : UInt8) :: (0x9a : UInt8) :: (0x00 : UInt8) :: (0x2c : UInt8) :: (0x2a : UInt8) :: dT_X5_read_3
def dT_X5_read_1 : List UInt8 := (0x1f : UInt8) :: (0x2a : UInt8) :: (0x02 : UInt8) :: (0xb5 : UInt8) :: (0x00 : UInt8) :: (0x0f : UInt8) :: (0x2a : UInt8) :: (0x03 : UInt8) :: (0xb5 : UInt8) :: (0x00 : UInt8) :: (0x22 : UInt8) :: (0x2a : UInt8) :: (0xb6 : UInt8) :: (0x00 : UInt8) :: (0x25 : UInt8) :: (0x03 : UInt8) :: dT_X5_read_2
def dT_X5_read_0 : List UInt8 := (0x2a : UInt8) :: (0x2b : UInt8) :: (0xb5 : UInt8) :: (0x00 : UInt8) :: (0x16 : UInt8) :: (0x2a : UInt8) :: (0xb4 : UInt8) :: (0x00 : UInt8) :: (0x16 : UInt8) :: (0xb6 : UInt8) :: (0x00 : UInt8) :: (0x1a : UInt8) :: (0x2a : UInt8) :: (0x03 : UInt8) :: (0xb5 : UInt8) :: (0x00 : UInt8) :: dT_X5_read_1
theorem dT_X5_read : cX5_read.data.toList = dT_X5_read_0 := eq_of_beq (show (cX5_read.data.toList == dT_X5_read_0) = true by decide +kernel)
theorem dQ_X5_read_0 : dQ_P cX5_read 0 dT_X5_read_0 := fun i => by rw [dT_X5_read]; rfl
theorem dQ_X5_read_1 : dQ_P cX5_read 16 dT_X5_read_1 := fun i => (dQ_X5_read_0 (i + 16)).trans dk_t
theorem dQ_X5_read_2 : dQ_P cX5_read 32 dT_X5_read_2 := fun i => (dQ_X5_read_1 (i + 16)).trans dk_t
theorem dQ_X5_read_3 : dQ_P cX5_read 48 dT_X5_read_3 := fun i => (dQ_X5_read_2 (i + 16)).trans dk_t
theorem dQ_X5_read_4 : dQ_P cX5_read 64 dT_X5_read_4 := fun i => (dQ_X5_read_3 (i + 16)).trans dk_t
theorem dQ_X5_read_5 : dQ_P cX5_read 80 dT_X5_read_5 := fun i => (dQ_X5_read_4 (i + 16)).trans dk_t
theorem dX5_read_0 : decode cX5_read 0 = .ok (.aload_n 0, 1) := dk_42 ((dQ_X5_read_0 0).trans dk_j0)
theorem dX5_read_1 : decode cX5_read 1 = .ok (.aload_n 1, 1) := dk_43 ((dQ_X5_read_0 1).trans dk_j1)
theorem dX5_read_2 : decode cX5_read 2 = .ok (.putfield 22, 3) := dk_181 ((dQ_X5_read_0 2).trans dk_j2) ((dQ_X5_read_0 3).trans dk_j3) ((dQ_X5_read_0 4).trans dk_j4) dk_vu2_0_22
theorem dX5_read_5 : decode cX5_read 5 = .ok (.aload_n 0, 1) := dk_42 ((dQ_X5_read_0 5).trans dk_j5)
theorem dX5_read_6 : decode cX5_read 6 = .ok (.getfield 22, 3) := dk_180 ((dQ_X5_read_0 6).trans dk_j6) ((dQ_X5_read_0 7).trans dk_j7) ((dQ_X5_read_0 8).trans dk_j8) dk_vu2_0_22
theorem dk_vu2_0_26 : (0x00 : UInt8).toNat * 256 + (0x1a : UInt8).toNat = (26 : Nat) := by decide +kernel
theorem dX5_read_9 : decode cX5_read 9 = .ok (.invokevirtual 26, 3) := dk_182 ((dQ_X5_read_0 9).trans dk_j9) ((dQ_X5_read_0 10).trans dk_j10) ((dQ_X5_read_0 11).trans dk_j11) dk_vu2_0_26
theorem dX5_read_12 : decode cX5_read 12 = .ok (.aload_n 0, 1) := dk_42 ((dQ_X5_read_0 12).trans dk_j12)
theorem dX5_read_13 : decode cX5_read 13 = .ok (.iconst 0, 1) := dk_3 ((dQ_X5_read_0 13).trans dk_j13)
theorem dX5_read_14 : decode cX5_read 14 = .ok (.putfield 31, 3) := dk_181 ((dQ_X5_read_0 14).trans dk_j14) ((dQ_X5_read_0 15).trans dk_j15) ((dQ_X5_read_1 0).trans dk_j0) dk_vu2_0_31
theorem dX5_read_17 : decode cX5_read 17 = .ok (.aload_n 0, 1) := dk_42 ((dQ_X5_read_1 1).trans dk_j1)
theorem dX5_read_18 : decode cX5_read 18 = .ok (.iconst (-1), 1) := dk_2 ((dQ_X5_read_1 2).trans dk_j2)
theorem dX5_read_19 : decode cX5_read 19 = .ok (.putfield 15, 3) := dk_181 ((dQ_X5_read_1 3).trans dk_j3) ((dQ_X5_read_1 4).trans dk_j4) ((dQ_X5_read_1 5).trans dk_j5) dk_vu2_0_15
theorem dX5_read_22 : decode cX5_read 22 = .ok (.aload_n 0, 1) := dk_42 ((dQ_X5_read_1 6).trans dk_j6)
theorem dX5_read_23 : decode cX5_read 23 = .ok (.iconst 0, 1) := dk_3 ((dQ_X5_read_1 7).trans dk_j7)
theorem dX5_read_24 : decode cX5_read 24 = .ok (.putfield 34, 3) := dk_181 ((dQ_X5_read_1 8).trans dk_j8) ((dQ_X5_read_1 9).trans dk_j9) ((dQ_X5_read_1 10).trans dk_j10) dk_vu2_0_34
theorem dX5_read_27 : decode cX5_read 27 = .ok (.aload_n 0, 1) := dk_42 ((dQ_X5_read_1 11).trans dk_j11)
theorem dX5_read_28 : decode cX5_read 28 = .ok (.invokevirtual 37, 3) := dk_182 ((dQ_X5_read_1 12).trans dk_j12) ((dQ_X5_read_1 13).trans dk_j13) ((dQ_X5_read_1 14).trans dk_j14) dk_vu2_0_37
theorem dX5_read_31 : decode cX5_read 31 = .ok (.iconst 0, 1) := dk_3 ((dQ_X5_read_1 15).trans dk_j15)
theorem dX5_read_32 : decode cX5_read 32 = .ok (.istore_n 2, 1) := dk_61 ((dQ_X5_read_2 0).trans dk_j0)
theorem dX5_read_33 : decode cX5_read 33 = .ok (.iload_n 2, 1) := dk_28 ((dQ_X5_read_2 1).trans dk_j1)
theorem dX5_read_34 : decode cX5_read 34 = .ok (.sipush 900, 3) := dk_17 ((dQ_X5_read_2 2).trans dk_j2) ((dQ_X5_read_2 3).trans dk_j3) ((dQ_X5_read_2 4).trans dk_j4) dk_vs2_3_132
theorem dX5_read_37 : decode cX5_read 37 = .ok (.if_icmp .ge 51, 3) := dk_162 ((dQ_X5_read_2 5).trans dk_j5) ((dQ_X5_read_2 6).trans dk_j6) ((dQ_X5_read_2 7).trans dk_j7) dk_vs2_0_51
theorem dX5_read_40 : decode cX5_read 40 = .ok (.aload_n 0, 1) := dk_42 ((dQ_X5_read_2 8).trans dk_j8)
theorem dX5_read_41 : decode cX5_read 41 = .ok (.getfield 31, 3) := dk_180 ((dQ_X5_read_2 9).trans dk_j9) ((dQ_X5_read_2 10).trans dk_j10) ((dQ_X5_read_2 11).trans dk_j11) dk_vu2_0_31
theorem dX5_read_44 : decode cX5_read 44 = .ok (.ifCond .ne 44, 3) := dk_154 ((dQ_X5_read_2 12).trans dk_j12) ((dQ_X5_read_2 13).trans dk_j13) ((dQ_X5_read_2 14).trans dk_j14) dk_vs2_0_44
theorem dX5_read_47 : decode cX5_read 47 = .ok (.aload_n 0, 1) := dk_42 ((dQ_X5_read_2 15).trans dk_j15)
theorem dX5_read_48 : decode cX5_read 48 = .ok (.getfield 40, 3) := dk_180 ((dQ_X5_read_3 0).trans dk_j0) ((dQ_X5_read_3 1).trans dk_j1) ((dQ_X5_read_3 2).trans dk_j2) dk_vu2_0_40
theorem dX5_read_51 : decode cX5_read 51 = .ok (.ifCond .eq 37, 3) := dk_153 ((dQ_X5_read_3 3).trans dk_j3) ((dQ_X5_read_3 4).trans dk_j4) ((dQ_X5_read_3 5).trans dk_j5) dk_vs2_0_37
theorem dX5_read_54 : decode cX5_read 54 = .ok (.iload_n 2, 1) := dk_28 ((dQ_X5_read_3 6).trans dk_j6)
theorem dX5_read_55 : decode cX5_read 55 = .ok (.ifCond .ne 10, 3) := dk_154 ((dQ_X5_read_3 7).trans dk_j7) ((dQ_X5_read_3 8).trans dk_j8) ((dQ_X5_read_3 9).trans dk_j9) dk_vs2_0_10
theorem dX5_read_58 : decode cX5_read 58 = .ok (.aload_n 0, 1) := dk_42 ((dQ_X5_read_3 10).trans dk_j10)
theorem dX5_read_59 : decode cX5_read 59 = .ok (.invokevirtual 43, 3) := dk_182 ((dQ_X5_read_3 11).trans dk_j11) ((dQ_X5_read_3 12).trans dk_j12) ((dQ_X5_read_3 13).trans dk_j13) dk_vu2_0_43
theorem dX5_read_62 : decode cX5_read 62 = .ok (.goto 7, 3) := dk_167 ((dQ_X5_read_3 14).trans dk_j14) ((dQ_X5_read_3 15).trans dk_j15) ((dQ_X5_read_4 0).trans dk_j0) dk_vs2_0_7
theorem dX5_read_65 : decode cX5_read 65 = .ok (.aload_n 0, 1) := dk_42 ((dQ_X5_read_4 1).trans dk_j1)
theorem dX5_read_66 : decode cX5_read 66 = .ok (.invokevirtual 46, 3) := dk_182 ((dQ_X5_read_4 2).trans dk_j2) ((dQ_X5_read_4 3).trans dk_j3) ((dQ_X5_read_4 4).trans dk_j4) dk_vu2_0_46
theorem dX5_read_69 : decode cX5_read 69 = .ok (.aload_n 0, 1) := dk_42 ((dQ_X5_read_4 5).trans dk_j5)
theorem dX5_read_70 : decode cX5_read 70 = .ok (.getfield 22, 3) := dk_180 ((dQ_X5_read_4 6).trans dk_j6) ((dQ_X5_read_4 7).trans dk_j7) ((dQ_X5_read_4 8).trans dk_j8) dk_vu2_0_22
theorem dX5_read_73 : decode cX5_read 73 = .ok (.getfield 49, 3) := dk_180 ((dQ_X5_read_4 9).trans dk_j9) ((dQ_X5_read_4 10).trans dk_j10) ((dQ_X5_read_4 11).trans dk_j11) dk_vu2_0_49
theorem dX5_read_76 : decode cX5_read 76 = .ok (.bipush 10, 2) := dk_16 ((dQ_X5_read_4 12).trans dk_j12) ((dQ_X5_read_4 13).trans dk_j13) dk_vs1_10
theorem dX5_read_78 : decode cX5_read 78 = .ok (.iload_n 2, 1) := dk_28 ((dQ_X5_read_4 14).trans dk_j14)
theorem dX5_read_79 : decode cX5_read 79 = .ok (.iconst 1, 1) := dk_4 ((dQ_X5_read_4 15).trans dk_j15)
theorem dX5_read_80 : decode cX5_read 80 = .ok (.iadd, 1) := dk_96 ((dQ_X5_read_5 0).trans dk_j0)
theorem dX5_read_81 : decode cX5_read 81 = .ok (.iastore, 1) := dk_79 ((dQ_X5_read_5 1).trans dk_j1)
theorem dX5_read_82 : decode cX5_read 82 = .ok (.iinc 2 1, 3) := dk_132 ((dQ_X5_read_5 2).trans dk_j2) ((dQ_X5_read_5 3).trans dk_j3) ((dQ_X5_read_5 4).trans dk_j4) dk_vu1_2 dk_vs1_1
theorem dX5_read_85 : decode cX5_read 85 = .ok (.goto (-52), 3) := dk_167 ((dQ_X5_read_5 5).trans dk_j5) ((dQ_X5_read_5 6).trans dk_j6) ((dQ_X5_read_5 7).trans dk_j7) dk_vs2_255_204
theorem dX5_read_88 : decode cX5_read 88 = .ok (.return_, 1) := dk_177 ((dQ_X5_read_5 8).trans dk_j8)
def dT_X5_readHouse_7 : List UInt8 := (0x2a : UInt8) :: (0x03 : UInt8) :: (0x10 : UInt8) :: (0x0a : UInt8) :: (0x02 : UInt8) :: (0xb6 : UInt8) :: (0x00 : UInt8) :: (0x3c : UInt8) :: (0x4f : UInt8) :: (0x2a : UInt8) :: (0xb6 : UInt8) :: (0x00 : UInt8) :: (0x48 : UInt8) :: (0xb1 : UInt8) :: []
def dT_X5_readHouse_6 : List UInt8 := (0x3c : UInt8) :: (0x4f : UInt8) :: (0x2a : UInt8) :: (0x12 : UInt8) :: (0x46 : UInt8) :: (0xb6 : UInt8) :: (0x00 : UInt8) :: (0x36 : UInt8) :: (0x2a : UInt8) :: (0xb4 : UInt8) :: (0x00 : UInt8) :: (0x16 : UInt8) :: (0xb4 : UInt8) :: (0x00 : UInt8) :: (0x31 : UInt8) :: (0x07 : UInt8) :: dT_X5_readHouse_7
def dT_X5_readHouse_5 : List UInt8 := (0x2a : UInt8) :: (0xb4 : UInt8) :: (0x00 : UInt8) :: (0x16 : UInt8) :: (0xb4 : UInt8) :: (0x00 : UInt8) :: (0x31 : UInt8) :: (0x06 : UInt8) :: (0x2a : UInt8) :: (0x03 : UInt8) :: (0x11 : UInt8) :: (0x03 : UInt8) :: (0xe7 : UInt8) :: (0x02 : UInt8) :: (0xb6 : UInt8) :: (0x00 : UInt8) :: dT_X5_readHouse_6
def dT_X5_readHouse_4 : List UInt8 := (0x31 : UInt8) :: (0x05 : UInt8) :: (0x2a : UInt8) :: (0x03 : UInt8) :: (0x06 : UInt8) :: (0x02 : UInt8) :: (0xb6 : UInt8) :: (0x00 : UInt8) :: (0x3c : UInt8) :: (0x4f : UInt8) :: (0x2a : UInt8) :: (0x12 : UInt8) :: (0x44 : UInt8) :: (0xb6 : UInt8) :: (0x00 : UInt8) :: (0x36 : UInt8) :: dT_X5_readHouse_5
def dT_X5_readHouse_3 : List UInt8 := (0xb6 : UInt8) :: (0x00 : UInt8) :: (0x3c : UInt8) :: (0x4f : UInt8) :: (0x2a : UInt8) :: (0x12 : UInt8) :: (0x42 : UInt8) :: (0xb6 : UInt8) :: (0x00 : UInt8) :: (0x36 : UInt8) :: (0x2a : UInt8) :: (0xb4 : UInt8) :: (0x00 : UInt8) :: (0x16 : UInt8) :: (0xb4 : UInt8) :: (0x00 : UInt8) :: dT_X5_readHouse_4
def dT_X5_readHouse_2 : List UInt8 := (0xb6 : UInt8) :: (0x00 : UInt8) :: (0x36 : UInt8) :: (0x2a : UInt8) :: (0xb4 : UInt8) :: (0x00 : UInt8) :: (0x16 : UInt8) :: (0xb4 : UInt8) :: (0x00 : UInt8) :: (0x31 : UInt8) :: (0x04 : UInt8) :: (0x2a : UInt8) :: (0x03 : UInt8) :: (0x10 : UInt8) :: (0x09 : UInt8) :: (0x02 : UInt8) :: dT_X5_readHouse_3
def dT_X5_readHouse_1 : List UInt8 := (0xb4 : UInt8) :: (0x00 : UInt8) :: (0x31 : UInt8) :: (0x03 : UInt8) :: (0x2a : UInt8) :: (0x04 : UInt8) :: (0x10 : UInt8) :: (0x1e : UInt8) :: (0x02 : UInt8) :: (0xb6 : UInt8) :: (0x00 : UInt8) :: (0x3c : UInt8) :: (0x4f : UInt8) :: (0x2a : UInt8) :: (0x12 : UInt8) :: (0x40 : UInt8) :: dT_X5_readHouse_2
def dT_X5_readHouse_0 : List UInt8 := (0x2a : UInt8) :: (0x12 : UInt8) :: (0x34 : UInt8) :: (0xb6 : UInt8) :: (0x00 : UInt8) :: (0x36 : UInt8) :: (0x2a : UInt8) :: (0x12 : UInt8) :: (0x3a : UInt8) :: (0xb6 : UInt8) :: (0x00 : UInt8) :: (0x36 : UInt8) :: (0x2a : UInt8) :: (0xb4 : UInt8) :: (0x00 : UInt8) :: (0x16 : UInt8) :: dT_X5_readHouse_1
theorem dT_X5_readHouse : cX5_readHouse.data.toList = dT_X5_readHouse_0 := eq_of_beq (show (cX5_readHouse.data.toList == dT_X5_readHouse_0) = true by decide +kernel)
theorem dQ_X5_readHouse_0 : dQ_P cX5_readHouse 0 dT_X5_readHouse_0 := fun i => by rw [dT_X5_readHouse]; rfl
theorem dQ_X5_readHouse_1 : dQ_P cX5_readHouse 16 dT_X5_readHouse_1 := fun i => (dQ_X5_readHouse_0 (i + 16)).trans dk_t
theorem dQ_X5_readHouse_2 : dQ_P cX5_readHouse 32 dT_X5_readHouse_2 := fun i => (dQ_X5_readHouse_1 (i + 16)).trans dk_t
theorem dQ_X5_readHouse_3 : dQ_P cX5_readHouse 48 dT_X5_readHouse_3 := fun i => (dQ_X5_readHouse_2 (i + 16)).trans dk_t
theorem dQ_X5_readHouse_4 : dQ_P cX5_readHouse 64 dT_X5_readHouse_4 := fun i => (dQ_X5_readHouse_3 (i + 16)).trans dk_t
theorem dQ_X5_readHouse_5 : dQ_P cX5_readHouse 80 dT_X5_readHouse_5 := fun i => (dQ_X5_readHouse_4 (i + 16)).trans dk_t
theorem dQ_X5_readHouse_6 : dQ_P cX5_readHouse 96 dT_X5_readHouse_6 := fun i => (dQ_X5_readHouse_5 (i + 16)).trans dk_t
theorem dQ_X5_readHouse_7 : dQ_P cX5_readHouse 112 dT_X5_readHouse_7 := fun i => (dQ_X5_readHouse_6 (i + 16)).trans dk_t
theorem dX5_readHouse_0 : decode cX5_readHouse 0 = .ok (.aload_n 0, 1) := dk_42 ((dQ_X5_readHouse_0 0).trans dk_j0)
theorem dk_vu1_52 : (0x34 : UInt8).toNat = (52 : Nat) := by decide +kernel
theorem dX5_readHouse_1 : decode cX5_readHouse 1 = .ok (.ldc 52, 2) := dk_18 ((dQ_X5_readHouse_0 1).trans dk_j1) ((dQ_X5_readHouse_0 2).trans dk_j2) dk_vu1_52
theorem dX5_readHouse_3 : decode cX5_readHouse 3 = .ok (.invokevirtual 54, 3) := dk_182 ((dQ_X5_readHouse_0 3).trans dk_j3) ((dQ_X5_readHouse_0 4).trans dk_j4) ((dQ_X5_readHouse_0 5).trans dk_j5) dk_vu2_0_54
theorem dX5_readHouse_6 : decode cX5_readHouse 6 = .ok (.aload_n 0, 1) := dk_42 ((dQ_X5_readHouse_0 6).trans dk_j6)
theorem dk_vu1_58 : (0x3a : UInt8).toNat = (58 : Nat) := by decide +kernel
theorem dX5_readHouse_7 : decode cX5_readHouse 7 = .ok (.ldc 58, 2) := dk_18 ((dQ_X5_readHouse_0 7).trans dk_j7) ((dQ_X5_readHouse_0 8).trans dk_j8) dk_vu1_58
theorem dX5_readHouse_9 : decode cX5_readHouse 9 = .ok (.invokevirtual 54, 3) := dk_182 ((dQ_X5_readHouse_0 9).trans dk_j9) ((dQ_X5_readHouse_0 10).trans dk_j10) ((dQ_X5_readHouse_0 11).trans dk_j11) dk_vu2_0_54
theorem dX5_readHouse_12 : decode cX5_readHouse 12 = .ok (.aload_n 0, 1) := dk_42 ((dQ_X5_readHouse_0 12).trans dk_j12)
theorem dX5_readHouse_13 : decode cX5_readHouse 13 = .ok (.getfield 22, 3) := dk_180 ((dQ_X5_readHouse_0 13).trans dk_j13) ((dQ_X5_readHouse_0 14).trans dk_j14) ((dQ_X5_readHouse_0 15).trans dk_j15) dk_vu2_0_22
theorem dX5_readHouse_16 : decode cX5_readHouse 16 = .ok (.getfield 49, 3) := dk_180 ((dQ_X5_readHouse_1 0).trans dk_j0) ((dQ_X5_readHouse_1 1).trans dk_j1) ((dQ_X5_readHouse_1 2).trans dk_j2) dk_vu2_0_49
theorem dX5_readHouse_19 : decode cX5_readHouse 19 = .ok (.iconst 0, 1) := dk_3 ((dQ_X5_readHouse_1 3).trans dk_j3)
theorem dX5_readHouse_20 : decode cX5_readHouse 20 = .ok (.aload_n 0, 1) := dk_42 ((dQ_X5_readHouse_1 4).trans dk_j4)
theorem dX5_readHouse_21 : decode cX5_readHouse 21 = .ok (.iconst 1, 1) := dk_4 ((dQ_X5_readHouse_1 5).trans dk_j5)
theorem dX5_readHouse_22 : decode cX5_readHouse 22 = .ok (.bipush 30, 2) := dk_16 ((dQ_X5_readHouse_1 6).trans dk_j6) ((dQ_X5_readHouse_1 7).trans dk_j7) dk_vs1_30
theorem dX5_readHouse_24 : decode cX5_readHouse 24 = .ok (.iconst (-1), 1) := dk_2 ((dQ_X5_readHouse_1 8).trans dk_j8)
theorem dX5_readHouse_25 : decode cX5_readHouse 25 = .ok (.invokevirtual 60, 3) := dk_182 ((dQ_X5_readHouse_1 9).trans dk_j9) ((dQ_X5_readHouse_1 10).trans dk_j10) ((dQ_X5_readHouse_1 11).trans dk_j11) dk_vu2_0_60
theorem dX5_readHouse_28 : decode cX5_readHouse 28 = .ok (.iastore, 1) := dk_79 ((dQ_X5_readHouse_1 12).trans dk_j12)
theorem dX5_readHouse_29 : decode cX5_readHouse 29 = .ok (.aload_n 0, 1) := dk_42 ((dQ_X5_readHouse_1 13).trans dk_j13)
theorem dk_vu1_64 : (0x40 : UInt8).toNat = (64 : Nat) := by decide +kernel
theorem dX5_readHouse_30 : decode cX5_readHouse 30 = .ok (.ldc 64, 2) := dk_18 ((dQ_X5_readHouse_1 14).trans dk_j14) ((dQ_X5_readHouse_1 15).trans dk_j15) dk_vu1_64
theorem dX5_readHouse_32 : decode cX5_readHouse 32 = .ok (.invokevirtual 54, 3) := dk_182 ((dQ_X5_readHouse_2 0).trans dk_j0) ((dQ_X5_readHouse_2 1).trans dk_j1) ((dQ_X5_readHouse_2 2).trans dk_j2) dk_vu2_0_54
theorem dX5_readHouse_35 : decode cX5_readHouse 35 = .ok (.aload_n 0, 1) := dk_42 ((dQ_X5_readHouse_2 3).trans dk_j3)
theorem dX5_readHouse_36 : decode cX5_readHouse 36 = .ok (.getfield 22, 3) := dk_180 ((dQ_X5_readHouse_2 4).trans dk_j4) ((dQ_X5_readHouse_2 5).trans dk_j5) ((dQ_X5_readHouse_2 6).trans dk_j6) dk_vu2_0_22
theorem dX5_readHouse_39 : decode cX5_readHouse 39 = .ok (.getfield 49, 3) := dk_180 ((dQ_X5_readHouse_2 7).trans dk_j7) ((dQ_X5_readHouse_2 8).trans dk_j8) ((dQ_X5_readHouse_2 9).trans dk_j9) dk_vu2_0_49
theorem dX5_readHouse_42 : decode cX5_readHouse 42 = .ok (.iconst 1, 1) := dk_4 ((dQ_X5_readHouse_2 10).trans dk_j10)
theorem dX5_readHouse_43 : decode cX5_readHouse 43 = .ok (.aload_n 0, 1) := dk_42 ((dQ_X5_readHouse_2 11).trans dk_j11)
theorem dX5_readHouse_44 : decode cX5_readHouse 44 = .ok (.iconst 0, 1) := dk_3 ((dQ_X5_readHouse_2 12).trans dk_j12)
theorem dX5_readHouse_45 : decode cX5_readHouse 45 = .ok (.bipush 9, 2) := dk_16 ((dQ_X5_readHouse_2 13).trans dk_j13) ((dQ_X5_readHouse_2 14).trans dk_j14) dk_vs1_9
theorem dX5_readHouse_47 : decode cX5_readHouse 47 = .ok (.iconst (-1), 1) := dk_2 ((dQ_X5_readHouse_2 15).trans dk_j15)
theorem dX5_readHouse_48 : decode cX5_readHouse 48 = .ok (.invokevirtual 60, 3) := dk_182 ((dQ_X5_readHouse_3 0).trans dk_j0) ((dQ_X5_readHouse_3 1).trans dk_j1) ((dQ_X5_readHouse_3 2).trans dk_j2) dk_vu2_0_60
theorem dX5_readHouse_51 : decode cX5_readHouse 51 = .ok (.iastore, 1) := dk_79 ((dQ_X5_readHouse_3 3).trans dk_j3)
theorem dX5_readHouse_52 : decode cX5_readHouse 52 = .ok (.aload_n 0, 1) := dk_42 ((dQ_X5_readHouse_3 4).trans dk_j4)
theorem dk_vu1_66 : (0x42 : UInt8).toNat = (66 : Nat) := by decide +kernel
theorem dX5_readHouse_53 : decode cX5_readHouse 53 = .ok (.ldc 66, 2) := dk_18 ((dQ_X5_readHouse_3 5).trans dk_j5) ((dQ_X5_readHouse_3 6).trans dk_j6) dk_vu1_66
theorem dX5_readHouse_55 : decode cX5_readHouse 55 = .ok (.invokevirtual 54, 3) := dk_182 ((dQ_X5_readHouse_3 7).trans dk_j7) ((dQ_X5_readHouse_3 8).trans dk_j8) ((dQ_X5_readHouse_3 9).trans dk_j9) dk_vu2_0_54
theorem dX5_readHouse_58 : decode cX5_readHouse 58 = .ok (.aload_n 0, 1) := dk_42 ((dQ_X5_readHouse_3 10).trans dk_j10)
theorem dX5_readHouse_59 : decode cX5_readHouse 59 = .ok (.getfield 22, 3) := dk_180 ((dQ_X5_readHouse_3 11).trans dk_j11) ((dQ_X5_readHouse_3 12).trans dk_j12) ((dQ_X5_readHouse_3 13).trans dk_j13) dk_vu2_0_22
theorem dX5_readHouse_62 : decode cX5_readHouse 62 = .ok (.getfield 49, 3) := dk_180 ((dQ_X5_readHouse_3 14).trans dk_j14) ((dQ_X5_readHouse_3 15).trans dk_j15) ((dQ_X5_readHouse_4 0).trans dk_j0) dk_vu2_0_49
theorem dX5_readHouse_65 : decode cX5_readHouse 65 = .ok (.iconst 2, 1) := dk_5 ((dQ_X5_readHouse_4 1).trans dk_j1)
theorem dX5_readHouse_66 : decode cX5_readHouse 66 = .ok (.aload_n 0, 1) := dk_42 ((dQ_X5_readHouse_4 2).trans dk_j2)
theorem dX5_readHouse_67 : decode cX5_readHouse 67 = .ok (.iconst 0, 1) := dk_3 ((dQ_X5_readHouse_4 3).trans dk_j3)
theorem dX5_readHouse_68 : decode cX5_readHouse 68 = .ok (.iconst 3, 1) := dk_6 ((dQ_X5_readHouse_4 4).trans dk_j4)
theorem dX5_readHouse_69 : decode cX5_readHouse 69 = .ok (.iconst (-1), 1) := dk_2 ((dQ_X5_readHouse_4 5).trans dk_j5)
theorem dX5_readHouse_70 : decode cX5_readHouse 70 = .ok (.invokevirtual 60, 3) := dk_182 ((dQ_X5_readHouse_4 6).trans dk_j6) ((dQ_X5_readHouse_4 7).trans dk_j7) ((dQ_X5_readHouse_4 8).trans dk_j8) dk_vu2_0_60
theorem dX5_readHouse_73 : decode cX5_readHouse 73 = .ok (.iastore, 1) := dk_79 ((dQ_X5_readHouse_4 9).trans dk_j9)
theorem dX5_readHouse_74 : decode cX5_readHouse 74 = .ok (.aload_n 0, 1) := dk_42 ((dQ_X5_readHouse_4 10).trans dk_j10)
theorem dk_vu1_68 : (0x44 : UInt8).toNat = (68 : Nat) := by decide +kernel
theorem dX5_readHouse_75 : decode cX5_readHouse 75 = .ok (.ldc 68, 2) := dk_18 ((dQ_X5_readHouse_4 11).trans dk_j11) ((dQ_X5_readHouse_4 12).trans dk_j12) dk_vu1_68
theorem dX5_readHouse_77 : decode cX5_readHouse 77 = .ok (.invokevirtual 54, 3) := dk_182 ((dQ_X5_readHouse_4 13).trans dk_j13) ((dQ_X5_readHouse_4 14).trans dk_j14) ((dQ_X5_readHouse_4 15).trans dk_j15) dk_vu2_0_54
theorem dX5_readHouse_80 : decode cX5_readHouse 80 = .ok (.aload_n 0, 1) := dk_42 ((dQ_X5_readHouse_5 0).trans dk_j0)
theorem dX5_readHouse_81 : decode cX5_readHouse 81 = .ok (.getfield 22, 3) := dk_180 ((dQ_X5_readHouse_5 1).trans dk_j1) ((dQ_X5_readHouse_5 2).trans dk_j2) ((dQ_X5_readHouse_5 3).trans dk_j3) dk_vu2_0_22
theorem dX5_readHouse_84 : decode cX5_readHouse 84 = .ok (.getfield 49, 3) := dk_180 ((dQ_X5_readHouse_5 4).trans dk_j4) ((dQ_X5_readHouse_5 5).trans dk_j5) ((dQ_X5_readHouse_5 6).trans dk_j6) dk_vu2_0_49
theorem dX5_readHouse_87 : decode cX5_readHouse 87 = .ok (.iconst 3, 1) := dk_6 ((dQ_X5_readHouse_5 7).trans dk_j7)
theorem dX5_readHouse_88 : decode cX5_readHouse 88 = .ok (.aload_n 0, 1) := dk_42 ((dQ_X5_readHouse_5 8).trans dk_j8)
theorem dX5_readHouse_89 : decode cX5_readHouse 89 = .ok (.iconst 0, 1) := dk_3 ((dQ_X5_readHouse_5 9).trans dk_j9)
theorem dX5_readHouse_90 : decode cX5_readHouse 90 = .ok (.sipush 999, 3) := dk_17 ((dQ_X5_readHouse_5 10).trans dk_j10) ((dQ_X5_readHouse_5 11).trans dk_j11) ((dQ_X5_readHouse_5 12).trans dk_j12) dk_vs2_3_231
theorem dX5_readHouse_93 : decode cX5_readHouse 93 = .ok (.iconst (-1), 1) := dk_2 ((dQ_X5_readHouse_5 13).trans dk_j13)
theorem dX5_readHouse_94 : decode cX5_readHouse 94 = .ok (.invokevirtual 60, 3) := dk_182 ((dQ_X5_readHouse_5 14).trans dk_j14) ((dQ_X5_readHouse_5 15).trans dk_j15) ((dQ_X5_readHouse_6 0).trans dk_j0) dk_vu2_0_60
theorem dX5_readHouse_97 : decode cX5_readHouse 97 = .ok (.iastore, 1) := dk_79 ((dQ_X5_readHouse_6 1).trans dk_j1)
theorem dX5_readHouse_98 : decode cX5_readHouse 98 = .ok (.aload_n 0, 1) := dk_42 ((dQ_X5_readHouse_6 2).trans dk_j2)
theorem dk_vu1_70 : (0x46 : UInt8).toNat = (70 : Nat) := by decide +kernel
theorem dX5_readHouse_99 : decode cX5_readHouse 99 = .ok (.ldc 70, 2) := dk_18 ((dQ_X5_readHouse_6 3).trans dk_j3) ((dQ_X5_readHouse_6 4).trans dk_j4) dk_vu1_70
theorem dX5_readHouse_101 : decode cX5_readHouse 101 = .ok (.invokevirtual 54, 3) := dk_182 ((dQ_X5_readHouse_6 5).trans dk_j5) ((dQ_X5_readHouse_6 6).trans dk_j6) ((dQ_X5_readHouse_6 7).trans dk_j7) dk_vu2_0_54
theorem dX5_readHouse_104 : decode cX5_readHouse 104 = .ok (.aload_n 0, 1) := dk_42 ((dQ_X5_readHouse_6 8).trans dk_j8)
theorem dX5_readHouse_105 : decode cX5_readHouse 105 = .ok (.getfield 22, 3) := dk_180 ((dQ_X5_readHouse_6 9).trans dk_j9) ((dQ_X5_readHouse_6 10).trans dk_j10) ((dQ_X5_readHouse_6 11).trans dk_j11) dk_vu2_0_22
theorem dX5_readHouse_108 : decode cX5_readHouse 108 = .ok (.getfield 49, 3) := dk_180 ((dQ_X5_readHouse_6 12).trans dk_j12) ((dQ_X5_readHouse_6 13).trans dk_j13) ((dQ_X5_readHouse_6 14).trans dk_j14) dk_vu2_0_49
theorem dX5_readHouse_111 : decode cX5_readHouse 111 = .ok (.iconst 4, 1) := dk_7 ((dQ_X5_readHouse_6 15).trans dk_j15)
theorem dX5_readHouse_112 : decode cX5_readHouse 112 = .ok (.aload_n 0, 1) := dk_42 ((dQ_X5_readHouse_7 0).trans dk_j0)
theorem dX5_readHouse_113 : decode cX5_readHouse 113 = .ok (.iconst 0, 1) := dk_3 ((dQ_X5_readHouse_7 1).trans dk_j1)
theorem dX5_readHouse_114 : decode cX5_readHouse 114 = .ok (.bipush 10, 2) := dk_16 ((dQ_X5_readHouse_7 2).trans dk_j2) ((dQ_X5_readHouse_7 3).trans dk_j3) dk_vs1_10
theorem dX5_readHouse_116 : decode cX5_readHouse 116 = .ok (.iconst (-1), 1) := dk_2 ((dQ_X5_readHouse_7 4).trans dk_j4)
theorem dX5_readHouse_117 : decode cX5_readHouse 117 = .ok (.invokevirtual 60, 3) := dk_182 ((dQ_X5_readHouse_7 5).trans dk_j5) ((dQ_X5_readHouse_7 6).trans dk_j6) ((dQ_X5_readHouse_7 7).trans dk_j7) dk_vu2_0_60
theorem dX5_readHouse_120 : decode cX5_readHouse 120 = .ok (.iastore, 1) := dk_79 ((dQ_X5_readHouse_7 8).trans dk_j8)
theorem dX5_readHouse_121 : decode cX5_readHouse 121 = .ok (.aload_n 0, 1) := dk_42 ((dQ_X5_readHouse_7 9).trans dk_j9)
theorem dX5_readHouse_122 : decode cX5_readHouse 122 = .ok (.invokevirtual 72, 3) := dk_182 ((dQ_X5_readHouse_7 10).trans dk_j10) ((dQ_X5_readHouse_7 11).trans dk_j11) ((dQ_X5_readHouse_7 12).trans dk_j12) dk_vu2_0_72
theorem dX5_readHouse_125 : decode cX5_readHouse 125 = .ok (.return_, 1) := dk_177 ((dQ_X5_readHouse_7 13).trans dk_j13)
def dT_X5_readLine_6 : List UInt8 := (0x2e : UInt8) :: (0xb6 : UInt8) :: (0x00 : UInt8) :: (0x61 : UInt8) :: (0xa7 : UInt8) :: (0x00 : UInt8) :: (0x08 : UInt8) :: (0x2a : UInt8) :: (0x04 : UInt8) :: (0xb6 : UInt8) :: (0x00 : UInt8) :: (0x64 : UInt8) :: (0xb1 : UInt8) :: []
def dT_X5_readLine_5 : List UInt8 := (0xb6 : UInt8) :: (0x00 : UInt8) :: (0x4d : UInt8) :: (0x99 : UInt8) :: (0x00 : UInt8) :: (0x14 : UInt8) :: (0x2a : UInt8) :: (0x2a : UInt8) :: (0xb4 : UInt8) :: (0x00 : UInt8) :: (0x16 : UInt8) :: (0xb4 : UInt8) :: (0x00 : UInt8) :: (0x31 : UInt8) :: (0x10 : UInt8) :: (0x08 : UInt8) :: dT_X5_readLine_6
def dT_X5_readLine_4 : List UInt8 := (0x16 : UInt8) :: (0xb4 : UInt8) :: (0x00 : UInt8) :: (0x31 : UInt8) :: (0x10 : UInt8) :: (0x07 : UInt8) :: (0x2e : UInt8) :: (0xb6 : UInt8) :: (0x00 : UInt8) :: (0x5c : UInt8) :: (0xa7 : UInt8) :: (0x00 : UInt8) :: (0x22 : UInt8) :: (0x2a : UInt8) :: (0x12 : UInt8) :: (0x5f : UInt8) :: dT_X5_readLine_5
def dT_X5_readLine_3 : List UInt8 := (0xa7 : UInt8) :: (0x00 : UInt8) :: (0x3c : UInt8) :: (0x2a : UInt8) :: (0x12 : UInt8) :: (0x5a : UInt8) :: (0xb6 : UInt8) :: (0x00 : UInt8) :: (0x4d : UInt8) :: (0x99 : UInt8) :: (0x00 : UInt8) :: (0x14 : UInt8) :: (0x2a : UInt8) :: (0x2a : UInt8) :: (0xb4 : UInt8) :: (0x00 : UInt8) :: dT_X5_readLine_4
def dT_X5_readLine_2 : List UInt8 := (0x00 : UInt8) :: (0x14 : UInt8) :: (0x2a : UInt8) :: (0x2a : UInt8) :: (0xb4 : UInt8) :: (0x00 : UInt8) :: (0x16 : UInt8) :: (0xb4 : UInt8) :: (0x00 : UInt8) :: (0x31 : UInt8) :: (0x10 : UInt8) :: (0x06 : UInt8) :: (0x2e : UInt8) :: (0xb6 : UInt8) :: (0x00 : UInt8) :: (0x57 : UInt8) :: dT_X5_readLine_3
def dT_X5_readLine_1 : List UInt8 := (0x31 : UInt8) :: (0x08 : UInt8) :: (0x2e : UInt8) :: (0xb6 : UInt8) :: (0x00 : UInt8) :: (0x51 : UInt8) :: (0xa7 : UInt8) :: (0x00 : UInt8) :: (0x56 : UInt8) :: (0x2a : UInt8) :: (0x12 : UInt8) :: (0x55 : UInt8) :: (0xb6 : UInt8) :: (0x00 : UInt8) :: (0x4d : UInt8) :: (0x99 : UInt8) :: dT_X5_readLine_2
def dT_X5_readLine_0 : List UInt8 := (0x2a : UInt8) :: (0x12 : UInt8) :: (0x4b : UInt8) :: (0xb6 : UInt8) :: (0x00 : UInt8) :: (0x4d : UInt8) :: (0x99 : UInt8) :: (0x00 : UInt8) :: (0x13 : UInt8) :: (0x2a : UInt8) :: (0x2a : UInt8) :: (0xb4 : UInt8) :: (0x00 : UInt8) :: (0x16 : UInt8) :: (0xb4 : UInt8) :: (0x00 : UInt8) :: dT_X5_readLine_1
theorem dT_X5_readLine : cX5_readLine.data.toList = dT_X5_readLine_0 := eq_of_beq (show (cX5_readLine.data.toList == dT_X5_readLine_0) = true by decide +kernel)
theorem dQ_X5_readLine_0 : dQ_P cX5_readLine 0 dT_X5_readLine_0 := fun i => by rw [dT_X5_readLine]; rfl
theorem dQ_X5_readLine_1 : dQ_P cX5_readLine 16 dT_X5_readLine_1 := fun i => (dQ_X5_readLine_0 (i + 16)).trans dk_t
theorem dQ_X5_readLine_2 : dQ_P cX5_readLine 32 dT_X5_readLine_2 := fun i => (dQ_X5_readLine_1 (i + 16)).trans dk_t
theorem dQ_X5_readLine_3 : dQ_P cX5_readLine 48 dT_X5_readLine_3 := fun i => (dQ_X5_readLine_2 (i + 16)).trans dk_t
theorem dQ_X5_readLine_4 : dQ_P cX5_readLine 64 dT_X5_readLine_4 := fun i => (dQ_X5_readLine_3 (i + 16)).trans dk_t
theorem dQ_X5_readLine_5 : dQ_P cX5_readLine 80 dT_X5_readLine_5 := fun i => (dQ_X5_readLine_4 (i + 16)).trans dk_t
theorem dQ_X5_readLine_6 : dQ_P cX5_readLine 96 dT_X5_readLine_6 := fun i => (dQ_X5_readLine_5 (i + 16)).trans dk_t
theorem dX5_readLine_0 : decode cX5_readLine 0 = .ok (.aload_n 0, 1) := dk_42 ((dQ_X5_readLine_0 0).trans dk_j0)
theorem dk_vu1_75 : (0x4b : UInt8).toNat = (75 : Nat) := by decide +kernel
theorem dX5_readLine_1 : decode cX5_readLine 1 = .ok (.ldc 75, 2) := dk_18 ((dQ_X5_readLine_0 1).trans dk_j1) ((dQ_X5_readLine_0 2).trans dk_j2) dk_vu1_75
theorem dX5_readLine_3 : decode cX5_readLine 3 = .ok (.invokevirtual 77, 3) := dk_182 ((dQ_X5_readLine_0 3).trans dk_j3) ((dQ_X5_readLine_0 4).trans dk_j4) ((dQ_X5_readLine_0 5).trans dk_j5) dk_vu2_0_77
theorem dX5_readLine_6 : decode cX5_readLine 6 = .ok (.ifCond .eq 19, 3) := dk_153 ((dQ_X5_readLine_0 6).trans dk_j6) ((dQ_X5_readLine_0 7).trans dk_j7) ((dQ_X5_readLine_0 8).trans dk_j8) dk_vs2_0_19
theorem dX5_readLine_9 : decode cX5_readLine 9 = .ok (.aload_n 0, 1) := dk_42 ((dQ_X5_readLine_0 9).trans dk_j9)
theorem dX5_readLine_10 : decode cX5_readLine 10 = .ok (.aload_n 0, 1) := dk_42 ((dQ_X5_readLine_0 10).trans dk_j10)
theorem dX5_readLine_11 : decode cX5_readLine 11 = .ok (.getfield 22, 3) := dk_180 ((dQ_X5_readLine_0 11).trans dk_j11) ((dQ_X5_readLine_0 12).trans dk_j12) ((dQ_X5_readLine_0 13).trans dk_j13) dk_vu2_0_22
theorem dX5_readLine_14 : decode cX5_readLine 14 = .ok (.getfield 49, 3) := dk_180 ((dQ_X5_readLine_0 14).trans dk_j14) ((dQ_X5_readLine_0 15).trans dk_j15) ((dQ_X5_readLine_1 0).trans dk_j0) dk_vu2_0_49
theorem dX5_readLine_17 : decode cX5_readLine 17 = .ok (.iconst 5, 1) := dk_8 ((dQ_X5_readLine_1 1).trans dk_j1)
theorem dX5_readLine_18 : decode cX5_readLine 18 = .ok (.iaload, 1) := dk_46 ((dQ_X5_readLine_1 2).trans dk_j2)
theorem dk_vu2_0_81 : (0x00 : UInt8).toNat * 256 + (0x51 : UInt8).toNat = (81 : Nat) := by decide +kernel
theorem dX5_readLine_19 : decode cX5_readLine 19 = .ok (.invokevirtual 81, 3) := dk_182 ((dQ_X5_readLine_1 3).trans dk_j3) ((dQ_X5_readLine_1 4).trans dk_j4) ((dQ_X5_readLine_1 5).trans dk_j5) dk_vu2_0_81
theorem dk_vs2_0_86 : Reader.signed 16 ((0x00 : UInt8).toNat * 256 + (0x56 : UInt8).toNat) = (86 : Int) := by decide +kernel
theorem dX5_readLine_22 : decode cX5_readLine 22 = .ok (.goto 86, 3) := dk_167 ((dQ_X5_readLine_1 6).trans dk_j6) ((dQ_X5_readLine_1 7).trans dk_j7) ((dQ_X5_readLine_1 8).trans dk_j8) dk_vs2_0_86
theorem dX5_readLine_25 : decode cX5_readLine 25 = .ok (.aload_n 0, 1) := dk_42 ((dQ_X5_readLine_1 9).trans dk_j9)
theorem dk_vu1_85 : (0x55 : UInt8).toNat = (85 : Nat) := by decide +kernel
theorem dX5_readLine_26 : decode cX5_readLine 26 = .ok (.ldc 85, 2) := dk_18 ((dQ_X5_readLine_1 10).trans dk_j10) ((dQ_X5_readLine_1 11).trans dk_j11) dk_vu1_85
theorem dX5_readLine_28 : decode cX5_readLine 28 = .ok (.invokevirtual 77, 3) := dk_182 ((dQ_X5_readLine_1 12).trans dk_j12) ((dQ_X5_readLine_1 13).trans dk_j13) ((dQ_X5_readLine_1 14).trans dk_j14) dk_vu2_0_77
theorem dX5_readLine_31 : decode cX5_readLine 31 = .ok (.ifCond .eq 20, 3) := dk_153 ((dQ_X5_readLine_1 15).trans dk_j15) ((dQ_X5_readLine_2 0).trans dk_j0) ((dQ_X5_readLine_2 1).trans dk_j1) dk_vs2_0_20
theorem dX5_readLine_34 : decode cX5_readLine 34 = .ok (.aload_n 0, 1) := dk_42 ((dQ_X5_readLine_2 2).trans dk_j2)
theorem dX5_readLine_35 : decode cX5_readLine 35 = .ok (.aload_n 0, 1) := dk_42 ((dQ_X5_readLine_2 3).trans dk_j3)
theorem dX5_readLine_36 : decode cX5_readLine 36 = .ok (.getfield 22, 3) := dk_180 ((dQ_X5_readLine_2 4).trans dk_j4) ((dQ_X5_readLine_2 5).trans dk_j5) ((dQ_X5_readLine_2 6).trans dk_j6) dk_vu2_0_22
theorem dX5_readLine_39 : decode cX5_readLine 39 = .ok (.getfield 49, 3) := dk_180 ((dQ_X5_readLine_2 7).trans dk_j7) ((dQ_X5_readLine_2 8).trans dk_j8) ((dQ_X5_readLine_2 9).trans dk_j9) dk_vu2_0_49
theorem dX5_readLine_42 : decode cX5_readLine 42 = .ok (.bipush 6, 2) := dk_16 ((dQ_X5_readLine_2 10).trans dk_j10) ((dQ_X5_readLine_2 11).trans dk_j11) dk_vs1_6
theorem dX5_readLine_44 : decode cX5_readLine 44 = .ok (.iaload, 1) := dk_46 ((dQ_X5_readLine_2 12).trans dk_j12)
theorem dX5_readLine_45 : decode cX5_readLine 45 = .ok (.invokevirtual 87, 3) := dk_182 ((dQ_X5_readLine_2 13).trans dk_j13) ((dQ_X5_readLine_2 14).trans dk_j14) ((dQ_X5_readLine_2 15).trans dk_j15) dk_vu2_0_87
theorem dX5_readLine_48 : decode cX5_readLine 48 = .ok (.goto 60, 3) := dk_167 ((dQ_X5_readLine_3 0).trans dk_j0) ((dQ_X5_readLine_3 1).trans dk_j1) ((dQ_X5_readLine_3 2).trans dk_j2) dk_vs2_0_60
theorem dX5_readLine_51 : decode cX5_readLine 51 = .ok (.aload_n 0, 1) := dk_42 ((dQ_X5_readLine_3 3).trans dk_j3)
theorem dk_vu1_90 : (0x5a : UInt8).toNat = (90 : Nat) := by decide +kernel
theorem dX5_readLine_52 : decode cX5_readLine 52 = .ok (.ldc 90, 2) := dk_18 ((dQ_X5_readLine_3 4).trans dk_j4) ((dQ_X5_readLine_3 5).trans dk_j5) dk_vu1_90
theorem dX5_readLine_54 : decode cX5_readLine 54 = .ok (.invokevirtual 77, 3) := dk_182 ((dQ_X5_readLine_3 6).trans dk_j6) ((dQ_X5_readLine_3 7).trans dk_j7) ((dQ_X5_readLine_3 8).trans dk_j8) dk_vu2_0_77
theorem dX5_readLine_57 : decode cX5_readLine 57 = .ok (.ifCond .eq 20, 3) := dk_153 ((dQ_X5_readLine_3 9).trans dk_j9) ((dQ_X5_readLine_3 10).trans dk_j10) ((dQ_X5_readLine_3 11).trans dk_j11) dk_vs2_0_20
theorem dX5_readLine_60 : decode cX5_readLine 60 = .ok (.aload_n 0, 1) := dk_42 ((dQ_X5_readLine_3 12).trans dk_j12)
theorem dX5_readLine_61 : decode cX5_readLine 61 = .ok (.aload_n 0, 1) := dk_42 ((dQ_X5_readLine_3 13).trans dk_j13)
theorem dX5_readLine_62 : decode cX5_readLine 62 = .ok (.getfield 22, 3) := dk_180 ((dQ_X5_readLine_3 14).trans dk_j14) ((dQ_X5_readLine_3 15).trans dk_j15) ((dQ_X5_readLine_4 0).trans dk_j0) dk_vu2_0_22
theorem dX5_readLine_65 : decode cX5_readLine 65 = .ok (.getfield 49, 3) := dk_180 ((dQ_X5_readLine_4 1).trans dk_j1) ((dQ_X5_readLine_4 2).trans dk_j2) ((dQ_X5_readLine_4 3).trans dk_j3) dk_vu2_0_49
theorem dX5_readLine_68 : decode cX5_readLine 68 = .ok (.bipush 7, 2) := dk_16 ((dQ_X5_readLine_4 4).trans dk_j4) ((dQ_X5_readLine_4 5).trans dk_j5) dk_vs1_7
theorem dX5_readLine_70 : decode cX5_readLine 70 = .ok (.iaload, 1) := dk_46 ((dQ_X5_readLine_4 6).trans dk_j6)
theorem dX5_readLine_71 : decode cX5_readLine 71 = .ok (.invokevirtual 92, 3) := dk_182 ((dQ_X5_readLine_4 7).trans dk_j7) ((dQ_X5_readLine_4 8).trans dk_j8) ((dQ_X5_readLine_4 9).trans dk_j9) dk_vu2_0_92
theorem dX5_readLine_74 : decode cX5_readLine 74 = .ok (.goto 34, 3) := dk_167 ((dQ_X5_readLine_4 10).trans dk_j10) ((dQ_X5_readLine_4 11).trans dk_j11) ((dQ_X5_readLine_4 12).trans dk_j12) dk_vs2_0_34
theorem dX5_readLine_77 : decode cX5_readLine 77 = .ok (.aload_n 0, 1) := dk_42 ((dQ_X5_readLine_4 13).trans dk_j13)
theorem dk_vu1_95 : (0x5f : UInt8).toNat = (95 : Nat) := by decide +kernel
theorem dX5_readLine_78 : decode cX5_readLine 78 = .ok (.ldc 95, 2) := dk_18 ((dQ_X5_readLine_4 14).trans dk_j14) ((dQ_X5_readLine_4 15).trans dk_j15) dk_vu1_95
theorem dX5_readLine_80 : decode cX5_readLine 80 = .ok (.invokevirtual 77, 3) := dk_182 ((dQ_X5_readLine_5 0).trans dk_j0) ((dQ_X5_readLine_5 1).trans dk_j1) ((dQ_X5_readLine_5 2).trans dk_j2) dk_vu2_0_77
theorem dX5_readLine_83 : decode cX5_readLine 83 = .ok (.ifCond .eq 20, 3) := dk_153 ((dQ_X5_readLine_5 3).trans dk_j3) ((dQ_X5_readLine_5 4).trans dk_j4) ((dQ_X5_readLine_5 5).trans dk_j5) dk_vs2_0_20
theorem dX5_readLine_86 : decode cX5_readLine 86 = .ok (.aload_n 0, 1) := dk_42 ((dQ_X5_readLine_5 6).trans dk_j6)
theorem dX5_readLine_87 : decode cX5_readLine 87 = .ok (.aload_n 0, 1) := dk_42 ((dQ_X5_readLine_5 7).trans dk_j7)
theorem dX5_readLine_88 : decode cX5_readLine 88 = .ok (.getfield 22, 3) := dk_180 ((dQ_X5_readLine_5 8).trans dk_j8) ((dQ_X5_readLine_5 9).trans dk_j9) ((dQ_X5_readLine_5 10).trans dk_j10) dk_vu2_0_22
theorem dX5_readLine_91 : decode cX5_readLine 91 = .ok (.getfield 49, 3) := dk_180 ((dQ_X5_readLine_5 11).trans dk_j11) ((dQ_X5_readLine_5 12).trans dk_j12) ((dQ_X5_readLine_5 13).trans dk_j13) dk_vu2_0_49
theorem dX5_readLine_94 : decode cX5_readLine 94 = .ok (.bipush 8, 2) := dk_16 ((dQ_X5_readLine_5 14).trans dk_j14) ((dQ_X5_readLine_5 15).trans dk_j15) dk_vs1_8
theorem dX5_readLine_96 : decode cX5_readLine 96 = .ok (.iaload, 1) := dk_46 ((dQ_X5_readLine_6 0).trans dk_j0)
theorem dX5_readLine_97 : decode cX5_readLine 97 = .ok (.invokevirtual 97, 3) := dk_182 ((dQ_X5_readLine_6 1).trans dk_j1) ((dQ_X5_readLine_6 2).trans dk_j2) ((dQ_X5_readLine_6 3).trans dk_j3) dk_vu2_0_97
theorem dX5_readLine_100 : decode cX5_readLine 100 = .ok (.goto 8, 3) := dk_167 ((dQ_X5_readLine_6 4).trans dk_j4) ((dQ_X5_readLine_6 5).trans dk_j5) ((dQ_X5_readLine_6 6).trans dk_j6) dk_vs2_0_8
theorem dX5_readLine_103 : decode cX5_readLine 103 = .ok (.aload_n 0, 1) := dk_42 ((dQ_X5_readLine_6 7).trans dk_j7)
theorem dX5_readLine_104 : decode cX5_readLine 104 = .ok (.iconst 1, 1) := dk_4 ((dQ_X5_readLine_6 8).trans dk_j8)
theorem dX5_readLine_105 : decode cX5_readLine 105 = .ok (.invokevirtual 100, 3) := dk_182 ((dQ_X5_readLine_6 9).trans dk_j9) ((dQ_X5_readLine_6 10).trans dk_j10) ((dQ_X5_readLine_6 11).trans dk_j11) dk_vu2_0_100
theorem dX5_readLine_108 : decode cX5_readLine 108 = .ok (.return_, 1) := dk_177 ((dQ_X5_readLine_6 12).trans dk_j12)
def dT_X5_readNose_5 : List UInt8 := (0xb1 : UInt8) :: []
def dT_X5_readNose_4 : List UInt8 := (0x2a : UInt8) :: (0xb6 : UInt8) :: (0x00 : UInt8) :: (0x48 : UInt8) :: (0x2a : UInt8) :: (0xb4 : UInt8) :: (0x00 : UInt8) :: (0x16 : UInt8) :: (0xb4 : UInt8) :: (0x00 : UInt8) :: (0x31 : UInt8) :: (0x08 : UInt8) :: (0x1b : UInt8) :: (0x04 : UInt8) :: (0x60 : UInt8) :: (0x4f : UInt8) :: dT_X5_readNose_5
def dT_X5_readNose_3 : List UInt8 := (0x00 : UInt8) :: (0x67 : UInt8) :: (0x05 : UInt8) :: (0x1b : UInt8) :: (0x68 : UInt8) :: (0x04 : UInt8) :: (0x60 : UInt8) :: (0x2a : UInt8) :: (0x04 : UInt8) :: (0x10 : UInt8) :: (0x63 : UInt8) :: (0x02 : UInt8) :: (0xb6 : UInt8) :: (0x00 : UInt8) :: (0x3c : UInt8) :: (0x4f : UInt8) :: dT_X5_readNose_4
def dT_X5_readNose_2 : List UInt8 := (0x02 : UInt8) :: (0xb6 : UInt8) :: (0x00 : UInt8) :: (0x3c : UInt8) :: (0x4f : UInt8) :: (0x2a : UInt8) :: (0x12 : UInt8) :: (0x6a : UInt8) :: (0xb6 : UInt8) :: (0x00 : UInt8) :: (0x36 : UInt8) :: (0x2a : UInt8) :: (0xb4 : UInt8) :: (0x00 : UInt8) :: (0x16 : UInt8) :: (0xb4 : UInt8) :: dT_X5_readNose_3
def dT_X5_readNose_1 : List UInt8 := (0x00 : UInt8) :: (0x36 : UInt8) :: (0x2a : UInt8) :: (0xb4 : UInt8) :: (0x00 : UInt8) :: (0x16 : UInt8) :: (0xb4 : UInt8) :: (0x00 : UInt8) :: (0x67 : UInt8) :: (0x05 : UInt8) :: (0x1b : UInt8) :: (0x68 : UInt8) :: (0x2a : UInt8) :: (0x03 : UInt8) :: (0x10 : UInt8) :: (0x09 : UInt8) :: dT_X5_readNose_2
def dT_X5_readNose_0 : List UInt8 := (0x1b : UInt8) :: (0x10 : UInt8) :: (0x06 : UInt8) :: (0xa1 : UInt8) :: (0x00 : UInt8) :: (0x09 : UInt8) :: (0x2a : UInt8) :: (0x06 : UInt8) :: (0xb6 : UInt8) :: (0x00 : UInt8) :: (0x64 : UInt8) :: (0xb1 : UInt8) :: (0x2a : UInt8) :: (0x12 : UInt8) :: (0x4b : UInt8) :: (0xb6 : UInt8) :: dT_X5_readNose_1
theorem dT_X5_readNose : cX5_readNose.data.toList = dT_X5_readNose_0 := eq_of_beq (show (cX5_readNose.data.toList == dT_X5_readNose_0) = true by decide +kernel)
theorem dQ_X5_readNose_0 : dQ_P cX5_readNose 0 dT_X5_readNose_0 := fun i => by rw [dT_X5_readNose]; rfl
theorem dQ_X5_readNose_1 : dQ_P cX5_readNose 16 dT_X5_readNose_1 := fun i => (dQ_X5_readNose_0 (i + 16)).trans dk_t
theorem dQ_X5_readNose_2 : dQ_P cX5_readNose 32 dT_X5_readNose_2 := fun i => (dQ_X5_readNose_1 (i + 16)).trans dk_t
theorem dQ_X5_readNose_3 : dQ_P cX5_readNose 48 dT_X5_readNose_3 := fun i => (dQ_X5_readNose_2 (i + 16)).trans dk_t
theorem dQ_X5_readNose_4 : dQ_P cX5_readNose 64 dT_X5_readNose_4 := fun i => (dQ_X5_readNose_3 (i + 16)).trans dk_t
theorem dQ_X5_readNose_5 : dQ_P cX5_readNose 80 dT_X5_readNose_5 := fun i => (dQ_X5_readNose_4 (i + 16)).trans dk_t
theorem dX5_readNose_0 : decode cX5_readNose 0 = .ok (.iload_n 1, 1) := dk_27 ((dQ_X5_readNose_0 0).trans dk_j0)
theorem dX5_readNose_1 : decode cX5_readNose 1 = .ok (.bipush 6, 2) := dk_16 ((dQ_X5_readNose_0 1).trans dk_j1) ((dQ_X5_readNose_0 2).trans dk_j2) dk_vs1_6
theorem dX5_readNose_3 : decode cX5_readNose 3 = .ok (.if_icmp .lt 9, 3) := dk_161 ((dQ_X5_readNose_0 3).trans dk_j3) ((dQ_X5_readNose_0 4).trans dk_j4) ((dQ_X5_readNose_0 5).trans dk_j5) dk_vs2_0_9
theorem dX5_readNose_6 : decode cX5_readNose 6 = .ok (.aload_n 0, 1) := dk_42 ((dQ_X5_readNose_0 6).trans dk_j6)
theorem dX5_readNose_7 : decode cX5_readNose 7 = .ok (.iconst 3, 1) := dk_6 ((dQ_X5_readNose_0 7).trans dk_j7)
theorem dX5_readNose_8 : decode cX5_readNose 8 = .ok (.invokevirtual 100, 3) := dk_182 ((dQ_X5_readNose_0 8).trans dk_j8) ((dQ_X5_readNose_0 9).trans dk_j9) ((dQ_X5_readNose_0 10).trans dk_j10) dk_vu2_0_100
theorem dX5_readNose_11 : decode cX5_readNose 11 = .ok (.return_, 1) := dk_177 ((dQ_X5_readNose_0 11).trans dk_j11)
theorem dX5_readNose_12 : decode cX5_readNose 12 = .ok (.aload_n 0, 1) := dk_42 ((dQ_X5_readNose_0 12).trans dk_j12)
theorem dX5_readNose_13 : decode cX5_readNose 13 = .ok (.ldc 75, 2) := dk_18 ((dQ_X5_readNose_0 13).trans dk_j13) ((dQ_X5_readNose_0 14).trans dk_j14) dk_vu1_75
theorem dX5_readNose_15 : decode cX5_readNose 15 = .ok (.invokevirtual 54, 3) := dk_182 ((dQ_X5_readNose_0 15).trans dk_j15) ((dQ_X5_readNose_1 0).trans dk_j0) ((dQ_X5_readNose_1 1).trans dk_j1) dk_vu2_0_54
theorem dX5_readNose_18 : decode cX5_readNose 18 = .ok (.aload_n 0, 1) := dk_42 ((dQ_X5_readNose_1 2).trans dk_j2)
theorem dX5_readNose_19 : decode cX5_readNose 19 = .ok (.getfield 22, 3) := dk_180 ((dQ_X5_readNose_1 3).trans dk_j3) ((dQ_X5_readNose_1 4).trans dk_j4) ((dQ_X5_readNose_1 5).trans dk_j5) dk_vu2_0_22
theorem dX5_readNose_22 : decode cX5_readNose 22 = .ok (.getfield 103, 3) := dk_180 ((dQ_X5_readNose_1 6).trans dk_j6) ((dQ_X5_readNose_1 7).trans dk_j7) ((dQ_X5_readNose_1 8).trans dk_j8) dk_vu2_0_103
theorem dX5_readNose_25 : decode cX5_readNose 25 = .ok (.iconst 2, 1) := dk_5 ((dQ_X5_readNose_1 9).trans dk_j9)
theorem dX5_readNose_26 : decode cX5_readNose 26 = .ok (.iload_n 1, 1) := dk_27 ((dQ_X5_readNose_1 10).trans dk_j10)
theorem dX5_readNose_27 : decode cX5_readNose 27 = .ok (.imul, 1) := dk_104 ((dQ_X5_readNose_1 11).trans dk_j11)
theorem dX5_readNose_28 : decode cX5_readNose 28 = .ok (.aload_n 0, 1) := dk_42 ((dQ_X5_readNose_1 12).trans dk_j12)
theorem dX5_readNose_29 : decode cX5_readNose 29 = .ok (.iconst 0, 1) := dk_3 ((dQ_X5_readNose_1 13).trans dk_j13)
theorem dX5_readNose_30 : decode cX5_readNose 30 = .ok (.bipush 9, 2) := dk_16 ((dQ_X5_readNose_1 14).trans dk_j14) ((dQ_X5_readNose_1 15).trans dk_j15) dk_vs1_9
theorem dX5_readNose_32 : decode cX5_readNose 32 = .ok (.iconst (-1), 1) := dk_2 ((dQ_X5_readNose_2 0).trans dk_j0)
theorem dX5_readNose_33 : decode cX5_readNose 33 = .ok (.invokevirtual 60, 3) := dk_182 ((dQ_X5_readNose_2 1).trans dk_j1) ((dQ_X5_readNose_2 2).trans dk_j2) ((dQ_X5_readNose_2 3).trans dk_j3) dk_vu2_0_60
theorem dX5_readNose_36 : decode cX5_readNose 36 = .ok (.iastore, 1) := dk_79 ((dQ_X5_readNose_2 4).trans dk_j4)
theorem dX5_readNose_37 : decode cX5_readNose 37 = .ok (.aload_n 0, 1) := dk_42 ((dQ_X5_readNose_2 5).trans dk_j5)
theorem dk_vu1_106 : (0x6a : UInt8).toNat = (106 : Nat) := by decide +kernel
theorem dX5_readNose_38 : decode cX5_readNose 38 = .ok (.ldc 106, 2) := dk_18 ((dQ_X5_readNose_2 6).trans dk_j6) ((dQ_X5_readNose_2 7).trans dk_j7) dk_vu1_106
theorem dX5_readNose_40 : decode cX5_readNose 40 = .ok (.invokevirtual 54, 3) := dk_182 ((dQ_X5_readNose_2 8).trans dk_j8) ((dQ_X5_readNose_2 9).trans dk_j9) ((dQ_X5_readNose_2 10).trans dk_j10) dk_vu2_0_54
theorem dX5_readNose_43 : decode cX5_readNose 43 = .ok (.aload_n 0, 1) := dk_42 ((dQ_X5_readNose_2 11).trans dk_j11)
theorem dX5_readNose_44 : decode cX5_readNose 44 = .ok (.getfield 22, 3) := dk_180 ((dQ_X5_readNose_2 12).trans dk_j12) ((dQ_X5_readNose_2 13).trans dk_j13) ((dQ_X5_readNose_2 14).trans dk_j14) dk_vu2_0_22
theorem dX5_readNose_47 : decode cX5_readNose 47 = .ok (.getfield 103, 3) := dk_180 ((dQ_X5_readNose_2 15).trans dk_j15) ((dQ_X5_readNose_3 0).trans dk_j0) ((dQ_X5_readNose_3 1).trans dk_j1) dk_vu2_0_103
theorem dX5_readNose_50 : decode cX5_readNose 50 = .ok (.iconst 2, 1) := dk_5 ((dQ_X5_readNose_3 2).trans dk_j2)
theorem dX5_readNose_51 : decode cX5_readNose 51 = .ok (.iload_n 1, 1) := dk_27 ((dQ_X5_readNose_3 3).trans dk_j3)
theorem dX5_readNose_52 : decode cX5_readNose 52 = .ok (.imul, 1) := dk_104 ((dQ_X5_readNose_3 4).trans dk_j4)
theorem dX5_readNose_53 : decode cX5_readNose 53 = .ok (.iconst 1, 1) := dk_4 ((dQ_X5_readNose_3 5).trans dk_j5)
theorem dX5_readNose_54 : decode cX5_readNose 54 = .ok (.iadd, 1) := dk_96 ((dQ_X5_readNose_3 6).trans dk_j6)
theorem dX5_readNose_55 : decode cX5_readNose 55 = .ok (.aload_n 0, 1) := dk_42 ((dQ_X5_readNose_3 7).trans dk_j7)
theorem dX5_readNose_56 : decode cX5_readNose 56 = .ok (.iconst 1, 1) := dk_4 ((dQ_X5_readNose_3 8).trans dk_j8)
theorem dX5_readNose_57 : decode cX5_readNose 57 = .ok (.bipush 99, 2) := dk_16 ((dQ_X5_readNose_3 9).trans dk_j9) ((dQ_X5_readNose_3 10).trans dk_j10) dk_vs1_99
theorem dX5_readNose_59 : decode cX5_readNose 59 = .ok (.iconst (-1), 1) := dk_2 ((dQ_X5_readNose_3 11).trans dk_j11)
theorem dX5_readNose_60 : decode cX5_readNose 60 = .ok (.invokevirtual 60, 3) := dk_182 ((dQ_X5_readNose_3 12).trans dk_j12) ((dQ_X5_readNose_3 13).trans dk_j13) ((dQ_X5_readNose_3 14).trans dk_j14) dk_vu2_0_60
theorem dX5_readNose_63 : decode cX5_readNose 63 = .ok (.iastore, 1) := dk_79 ((dQ_X5_readNose_3 15).trans dk_j15)
theorem dX5_readNose_64 : decode cX5_readNose 64 = .ok (.aload_n 0, 1) := dk_42 ((dQ_X5_readNose_4 0).trans dk_j0)
theorem dX5_readNose_65 : decode cX5_readNose 65 = .ok (.invokevirtual 72, 3) := dk_182 ((dQ_X5_readNose_4 1).trans dk_j1) ((dQ_X5_readNose_4 2).trans dk_j2) ((dQ_X5_readNose_4 3).trans dk_j3) dk_vu2_0_72
theorem dX5_readNose_68 : decode cX5_readNose 68 = .ok (.aload_n 0, 1) := dk_42 ((dQ_X5_readNose_4 4).trans dk_j4)
theorem dX5_readNose_69 : decode cX5_readNose 69 = .ok (.getfield 22, 3) := dk_180 ((dQ_X5_readNose_4 5).trans dk_j5) ((dQ_X5_readNose_4 6).trans dk_j6) ((dQ_X5_readNose_4 7).trans dk_j7) dk_vu2_0_22
theorem dX5_readNose_72 : decode cX5_readNose 72 = .ok (.getfield 49, 3) := dk_180 ((dQ_X5_readNose_4 8).trans dk_j8) ((dQ_X5_readNose_4 9).trans dk_j9) ((dQ_X5_readNose_4 10).trans dk_j10) dk_vu2_0_49
theorem dX5_readNose_75 : decode cX5_readNose 75 = .ok (.iconst 5, 1) := dk_8 ((dQ_X5_readNose_4 11).trans dk_j11)
theorem dX5_readNose_76 : decode cX5_readNose 76 = .ok (.iload_n 1, 1) := dk_27 ((dQ_X5_readNose_4 12).trans dk_j12)
theorem dX5_readNose_77 : decode cX5_readNose 77 = .ok (.iconst 1, 1) := dk_4 ((dQ_X5_readNose_4 13).trans dk_j13)
theorem dX5_readNose_78 : decode cX5_readNose 78 = .ok (.iadd, 1) := dk_96 ((dQ_X5_readNose_4 14).trans dk_j14)
theorem dX5_readNose_79 : decode cX5_readNose 79 = .ok (.iastore, 1) := dk_79 ((dQ_X5_readNose_4 15).trans dk_j15)
theorem dX5_readNose_80 : decode cX5_readNose 80 = .ok (.return_, 1) := dk_177 ((dQ_X5_readNose_5 0).trans dk_j0)
def dT_X5_readGust_5 : List UInt8 := (0xb1 : UInt8) :: []
def dT_X5_readGust_4 : List UInt8 := (0xb6 : UInt8) :: (0x00 : UInt8) :: (0x48 : UInt8) :: (0x2a : UInt8) :: (0xb4 : UInt8) :: (0x00 : UInt8) :: (0x16 : UInt8) :: (0xb4 : UInt8) :: (0x00 : UInt8) :: (0x31 : UInt8) :: (0x10 : UInt8) :: (0x06 : UInt8) :: (0x1b : UInt8) :: (0x04 : UInt8) :: (0x60 : UInt8) :: (0x4f : UInt8) :: dT_X5_readGust_5
def dT_X5_readGust_3 : List UInt8 := (0x6c : UInt8) :: (0x05 : UInt8) :: (0x1b : UInt8) :: (0x68 : UInt8) :: (0x04 : UInt8) :: (0x60 : UInt8) :: (0x2a : UInt8) :: (0x03 : UInt8) :: (0x10 : UInt8) :: (0x1d : UInt8) :: (0x02 : UInt8) :: (0xb6 : UInt8) :: (0x00 : UInt8) :: (0x3c : UInt8) :: (0x4f : UInt8) :: (0x2a : UInt8) :: dT_X5_readGust_4
def dT_X5_readGust_2 : List UInt8 := (0xb6 : UInt8) :: (0x00 : UInt8) :: (0x3c : UInt8) :: (0x4f : UInt8) :: (0x2a : UInt8) :: (0x12 : UInt8) :: (0x6f : UInt8) :: (0xb6 : UInt8) :: (0x00 : UInt8) :: (0x36 : UInt8) :: (0x2a : UInt8) :: (0xb4 : UInt8) :: (0x00 : UInt8) :: (0x16 : UInt8) :: (0xb4 : UInt8) :: (0x00 : UInt8) :: dT_X5_readGust_3
def dT_X5_readGust_1 : List UInt8 := (0x36 : UInt8) :: (0x2a : UInt8) :: (0xb4 : UInt8) :: (0x00 : UInt8) :: (0x16 : UInt8) :: (0xb4 : UInt8) :: (0x00 : UInt8) :: (0x6c : UInt8) :: (0x05 : UInt8) :: (0x1b : UInt8) :: (0x68 : UInt8) :: (0x2a : UInt8) :: (0x04 : UInt8) :: (0x10 : UInt8) :: (0x09 : UInt8) :: (0x02 : UInt8) :: dT_X5_readGust_2
def dT_X5_readGust_0 : List UInt8 := (0x1b : UInt8) :: (0x08 : UInt8) :: (0xa1 : UInt8) :: (0x00 : UInt8) :: (0x09 : UInt8) :: (0x2a : UInt8) :: (0x06 : UInt8) :: (0xb6 : UInt8) :: (0x00 : UInt8) :: (0x64 : UInt8) :: (0xb1 : UInt8) :: (0x2a : UInt8) :: (0x12 : UInt8) :: (0x55 : UInt8) :: (0xb6 : UInt8) :: (0x00 : UInt8) :: dT_X5_readGust_1
theorem dT_X5_readGust : cX5_readGust.data.toList = dT_X5_readGust_0 := eq_of_beq (show (cX5_readGust.data.toList == dT_X5_readGust_0) = true by decide +kernel)
theorem dQ_X5_readGust_0 : dQ_P cX5_readGust 0 dT_X5_readGust_0 := fun i => by rw [dT_X5_readGust]; rfl
theorem dQ_X5_readGust_1 : dQ_P cX5_readGust 16 dT_X5_readGust_1 := fun i => (dQ_X5_readGust_0 (i + 16)).trans dk_t
theorem dQ_X5_readGust_2 : dQ_P cX5_readGust 32 dT_X5_readGust_2 := fun i => (dQ_X5_readGust_1 (i + 16)).trans dk_t
theorem dQ_X5_readGust_3 : dQ_P cX5_readGust 48 dT_X5_readGust_3 := fun i => (dQ_X5_readGust_2 (i + 16)).trans dk_t
theorem dQ_X5_readGust_4 : dQ_P cX5_readGust 64 dT_X5_readGust_4 := fun i => (dQ_X5_readGust_3 (i + 16)).trans dk_t
theorem dQ_X5_readGust_5 : dQ_P cX5_readGust 80 dT_X5_readGust_5 := fun i => (dQ_X5_readGust_4 (i + 16)).trans dk_t
theorem dX5_readGust_0 : decode cX5_readGust 0 = .ok (.iload_n 1, 1) := dk_27 ((dQ_X5_readGust_0 0).trans dk_j0)
theorem dX5_readGust_1 : decode cX5_readGust 1 = .ok (.iconst 5, 1) := dk_8 ((dQ_X5_readGust_0 1).trans dk_j1)
theorem dX5_readGust_2 : decode cX5_readGust 2 = .ok (.if_icmp .lt 9, 3) := dk_161 ((dQ_X5_readGust_0 2).trans dk_j2) ((dQ_X5_readGust_0 3).trans dk_j3) ((dQ_X5_readGust_0 4).trans dk_j4) dk_vs2_0_9
theorem dX5_readGust_5 : decode cX5_readGust 5 = .ok (.aload_n 0, 1) := dk_42 ((dQ_X5_readGust_0 5).trans dk_j5)
theorem dX5_readGust_6 : decode cX5_readGust 6 = .ok (.iconst 3, 1) := dk_6 ((dQ_X5_readGust_0 6).trans dk_j6)
theorem dX5_readGust_7 : decode cX5_readGust 7 = .ok (.invokevirtual 100, 3) := dk_182 ((dQ_X5_readGust_0 7).trans dk_j7) ((dQ_X5_readGust_0 8).trans dk_j8) ((dQ_X5_readGust_0 9).trans dk_j9) dk_vu2_0_100
theorem dX5_readGust_10 : decode cX5_readGust 10 = .ok (.return_, 1) := dk_177 ((dQ_X5_readGust_0 10).trans dk_j10)
theorem dX5_readGust_11 : decode cX5_readGust 11 = .ok (.aload_n 0, 1) := dk_42 ((dQ_X5_readGust_0 11).trans dk_j11)
theorem dX5_readGust_12 : decode cX5_readGust 12 = .ok (.ldc 85, 2) := dk_18 ((dQ_X5_readGust_0 12).trans dk_j12) ((dQ_X5_readGust_0 13).trans dk_j13) dk_vu1_85
theorem dX5_readGust_14 : decode cX5_readGust 14 = .ok (.invokevirtual 54, 3) := dk_182 ((dQ_X5_readGust_0 14).trans dk_j14) ((dQ_X5_readGust_0 15).trans dk_j15) ((dQ_X5_readGust_1 0).trans dk_j0) dk_vu2_0_54
theorem dX5_readGust_17 : decode cX5_readGust 17 = .ok (.aload_n 0, 1) := dk_42 ((dQ_X5_readGust_1 1).trans dk_j1)
theorem dX5_readGust_18 : decode cX5_readGust 18 = .ok (.getfield 22, 3) := dk_180 ((dQ_X5_readGust_1 2).trans dk_j2) ((dQ_X5_readGust_1 3).trans dk_j3) ((dQ_X5_readGust_1 4).trans dk_j4) dk_vu2_0_22
theorem dX5_readGust_21 : decode cX5_readGust 21 = .ok (.getfield 108, 3) := dk_180 ((dQ_X5_readGust_1 5).trans dk_j5) ((dQ_X5_readGust_1 6).trans dk_j6) ((dQ_X5_readGust_1 7).trans dk_j7) dk_vu2_0_108
theorem dX5_readGust_24 : decode cX5_readGust 24 = .ok (.iconst 2, 1) := dk_5 ((dQ_X5_readGust_1 8).trans dk_j8)
theorem dX5_readGust_25 : decode cX5_readGust 25 = .ok (.iload_n 1, 1) := dk_27 ((dQ_X5_readGust_1 9).trans dk_j9)
theorem dX5_readGust_26 : decode cX5_readGust 26 = .ok (.imul, 1) := dk_104 ((dQ_X5_readGust_1 10).trans dk_j10)
theorem dX5_readGust_27 : decode cX5_readGust 27 = .ok (.aload_n 0, 1) := dk_42 ((dQ_X5_readGust_1 11).trans dk_j11)
theorem dX5_readGust_28 : decode cX5_readGust 28 = .ok (.iconst 1, 1) := dk_4 ((dQ_X5_readGust_1 12).trans dk_j12)
theorem dX5_readGust_29 : decode cX5_readGust 29 = .ok (.bipush 9, 2) := dk_16 ((dQ_X5_readGust_1 13).trans dk_j13) ((dQ_X5_readGust_1 14).trans dk_j14) dk_vs1_9
theorem dX5_readGust_31 : decode cX5_readGust 31 = .ok (.iconst (-1), 1) := dk_2 ((dQ_X5_readGust_1 15).trans dk_j15)
theorem dX5_readGust_32 : decode cX5_readGust 32 = .ok (.invokevirtual 60, 3) := dk_182 ((dQ_X5_readGust_2 0).trans dk_j0) ((dQ_X5_readGust_2 1).trans dk_j1) ((dQ_X5_readGust_2 2).trans dk_j2) dk_vu2_0_60
theorem dX5_readGust_35 : decode cX5_readGust 35 = .ok (.iastore, 1) := dk_79 ((dQ_X5_readGust_2 3).trans dk_j3)
theorem dX5_readGust_36 : decode cX5_readGust 36 = .ok (.aload_n 0, 1) := dk_42 ((dQ_X5_readGust_2 4).trans dk_j4)
theorem dk_vu1_111 : (0x6f : UInt8).toNat = (111 : Nat) := by decide +kernel
theorem dX5_readGust_37 : decode cX5_readGust 37 = .ok (.ldc 111, 2) := dk_18 ((dQ_X5_readGust_2 5).trans dk_j5) ((dQ_X5_readGust_2 6).trans dk_j6) dk_vu1_111
theorem dX5_readGust_39 : decode cX5_readGust 39 = .ok (.invokevirtual 54, 3) := dk_182 ((dQ_X5_readGust_2 7).trans dk_j7) ((dQ_X5_readGust_2 8).trans dk_j8) ((dQ_X5_readGust_2 9).trans dk_j9) dk_vu2_0_54
theorem dX5_readGust_42 : decode cX5_readGust 42 = .ok (.aload_n 0, 1) := dk_42 ((dQ_X5_readGust_2 10).trans dk_j10)
theorem dX5_readGust_43 : decode cX5_readGust 43 = .ok (.getfield 22, 3) := dk_180 ((dQ_X5_readGust_2 11).trans dk_j11) ((dQ_X5_readGust_2 12).trans dk_j12) ((dQ_X5_readGust_2 13).trans dk_j13) dk_vu2_0_22
theorem dX5_readGust_46 : decode cX5_readGust 46 = .ok (.getfield 108, 3) := dk_180 ((dQ_X5_readGust_2 14).trans dk_j14) ((dQ_X5_readGust_2 15).trans dk_j15) ((dQ_X5_readGust_3 0).trans dk_j0) dk_vu2_0_108
theorem dX5_readGust_49 : decode cX5_readGust 49 = .ok (.iconst 2, 1) := dk_5 ((dQ_X5_readGust_3 1).trans dk_j1)
theorem dX5_readGust_50 : decode cX5_readGust 50 = .ok (.iload_n 1, 1) := dk_27 ((dQ_X5_readGust_3 2).trans dk_j2)
theorem dX5_readGust_51 : decode cX5_readGust 51 = .ok (.imul, 1) := dk_104 ((dQ_X5_readGust_3 3).trans dk_j3)
theorem dX5_readGust_52 : decode cX5_readGust 52 = .ok (.iconst 1, 1) := dk_4 ((dQ_X5_readGust_3 4).trans dk_j4)
theorem dX5_readGust_53 : decode cX5_readGust 53 = .ok (.iadd, 1) := dk_96 ((dQ_X5_readGust_3 5).trans dk_j5)
theorem dX5_readGust_54 : decode cX5_readGust 54 = .ok (.aload_n 0, 1) := dk_42 ((dQ_X5_readGust_3 6).trans dk_j6)
theorem dX5_readGust_55 : decode cX5_readGust 55 = .ok (.iconst 0, 1) := dk_3 ((dQ_X5_readGust_3 7).trans dk_j7)
theorem dX5_readGust_56 : decode cX5_readGust 56 = .ok (.bipush 29, 2) := dk_16 ((dQ_X5_readGust_3 8).trans dk_j8) ((dQ_X5_readGust_3 9).trans dk_j9) dk_vs1_29
theorem dX5_readGust_58 : decode cX5_readGust 58 = .ok (.iconst (-1), 1) := dk_2 ((dQ_X5_readGust_3 10).trans dk_j10)
theorem dX5_readGust_59 : decode cX5_readGust 59 = .ok (.invokevirtual 60, 3) := dk_182 ((dQ_X5_readGust_3 11).trans dk_j11) ((dQ_X5_readGust_3 12).trans dk_j12) ((dQ_X5_readGust_3 13).trans dk_j13) dk_vu2_0_60
theorem dX5_readGust_62 : decode cX5_readGust 62 = .ok (.iastore, 1) := dk_79 ((dQ_X5_readGust_3 14).trans dk_j14)
theorem dX5_readGust_63 : decode cX5_readGust 63 = .ok (.aload_n 0, 1) := dk_42 ((dQ_X5_readGust_3 15).trans dk_j15)
theorem dX5_readGust_64 : decode cX5_readGust 64 = .ok (.invokevirtual 72, 3) := dk_182 ((dQ_X5_readGust_4 0).trans dk_j0) ((dQ_X5_readGust_4 1).trans dk_j1) ((dQ_X5_readGust_4 2).trans dk_j2) dk_vu2_0_72
theorem dX5_readGust_67 : decode cX5_readGust 67 = .ok (.aload_n 0, 1) := dk_42 ((dQ_X5_readGust_4 3).trans dk_j3)
theorem dX5_readGust_68 : decode cX5_readGust 68 = .ok (.getfield 22, 3) := dk_180 ((dQ_X5_readGust_4 4).trans dk_j4) ((dQ_X5_readGust_4 5).trans dk_j5) ((dQ_X5_readGust_4 6).trans dk_j6) dk_vu2_0_22
theorem dX5_readGust_71 : decode cX5_readGust 71 = .ok (.getfield 49, 3) := dk_180 ((dQ_X5_readGust_4 7).trans dk_j7) ((dQ_X5_readGust_4 8).trans dk_j8) ((dQ_X5_readGust_4 9).trans dk_j9) dk_vu2_0_49
theorem dX5_readGust_74 : decode cX5_readGust 74 = .ok (.bipush 6, 2) := dk_16 ((dQ_X5_readGust_4 10).trans dk_j10) ((dQ_X5_readGust_4 11).trans dk_j11) dk_vs1_6
theorem dX5_readGust_76 : decode cX5_readGust 76 = .ok (.iload_n 1, 1) := dk_27 ((dQ_X5_readGust_4 12).trans dk_j12)
theorem dX5_readGust_77 : decode cX5_readGust 77 = .ok (.iconst 1, 1) := dk_4 ((dQ_X5_readGust_4 13).trans dk_j13)
theorem dX5_readGust_78 : decode cX5_readGust 78 = .ok (.iadd, 1) := dk_96 ((dQ_X5_readGust_4 14).trans dk_j14)
theorem dX5_readGust_79 : decode cX5_readGust 79 = .ok (.iastore, 1) := dk_79 ((dQ_X5_readGust_4 15).trans dk_j15)
theorem dX5_readGust_80 : decode cX5_readGust 80 = .ok (.return_, 1) := dk_177 ((dQ_X5_readGust_5 0).trans dk_j0)
def dT_X5_readNet_5 : List UInt8 := (0x00 : UInt8) :: (0x48 : UInt8) :: (0x2a : UInt8) :: (0xb4 : UInt8) :: (0x00 : UInt8) :: (0x16 : UInt8) :: (0xb4 : UInt8) :: (0x00 : UInt8) :: (0x31 : UInt8) :: (0x10 : UInt8) :: (0x07 : UInt8) :: (0x1b : UInt8) :: (0x04 : UInt8) :: (0x60 : UInt8) :: (0x4f : UInt8) :: (0xb1 : UInt8) :: []
def dT_X5_readNet_4 : List UInt8 := (0x00 : UInt8) :: (0x16 : UInt8) :: (0xb4 : UInt8) :: (0x00 : UInt8) :: (0x31 : UInt8) :: (0x08 : UInt8) :: (0x2e : UInt8) :: (0x04 : UInt8) :: (0x64 : UInt8) :: (0x1c : UInt8) :: (0xb6 : UInt8) :: (0x00 : UInt8) :: (0x3c : UInt8) :: (0x4f : UInt8) :: (0x2a : UInt8) :: (0xb6 : UInt8) :: dT_X5_readNet_5
def dT_X5_readNet_3 : List UInt8 := (0x2a : UInt8) :: (0xb4 : UInt8) :: (0x00 : UInt8) :: (0x16 : UInt8) :: (0xb4 : UInt8) :: (0x00 : UInt8) :: (0x71 : UInt8) :: (0x05 : UInt8) :: (0x1b : UInt8) :: (0x68 : UInt8) :: (0x04 : UInt8) :: (0x60 : UInt8) :: (0x2a : UInt8) :: (0x03 : UInt8) :: (0x2a : UInt8) :: (0xb4 : UInt8) :: dT_X5_readNet_4
def dT_X5_readNet_2 : List UInt8 := (0xb6 : UInt8) :: (0x00 : UInt8) :: (0x3c : UInt8) :: (0x3d : UInt8) :: (0x2a : UInt8) :: (0xb4 : UInt8) :: (0x00 : UInt8) :: (0x16 : UInt8) :: (0xb4 : UInt8) :: (0x00 : UInt8) :: (0x71 : UInt8) :: (0x05 : UInt8) :: (0x1b : UInt8) :: (0x68 : UInt8) :: (0x1c : UInt8) :: (0x4f : UInt8) :: dT_X5_readNet_3
def dT_X5_readNet_1 : List UInt8 := (0x00 : UInt8) :: (0x36 : UInt8) :: (0x2a : UInt8) :: (0x03 : UInt8) :: (0x2a : UInt8) :: (0xb4 : UInt8) :: (0x00 : UInt8) :: (0x16 : UInt8) :: (0xb4 : UInt8) :: (0x00 : UInt8) :: (0x31 : UInt8) :: (0x08 : UInt8) :: (0x2e : UInt8) :: (0x04 : UInt8) :: (0x64 : UInt8) :: (0x02 : UInt8) :: dT_X5_readNet_2
def dT_X5_readNet_0 : List UInt8 := (0x1b : UInt8) :: (0x10 : UInt8) :: (0x08 : UInt8) :: (0xa1 : UInt8) :: (0x00 : UInt8) :: (0x09 : UInt8) :: (0x2a : UInt8) :: (0x06 : UInt8) :: (0xb6 : UInt8) :: (0x00 : UInt8) :: (0x64 : UInt8) :: (0xb1 : UInt8) :: (0x2a : UInt8) :: (0x12 : UInt8) :: (0x5a : UInt8) :: (0xb6 : UInt8) :: dT_X5_readNet_1
theorem dT_X5_readNet : cX5_readNet.data.toList = dT_X5_readNet_0 := eq_of_beq (show (cX5_readNet.data.toList == dT_X5_readNet_0) = true by decide +kernel)
theorem dQ_X5_readNet_0 : dQ_P cX5_readNet 0 dT_X5_readNet_0 := fun i => by rw [dT_X5_readNet]; rfl
theorem dQ_X5_readNet_1 : dQ_P cX5_readNet 16 dT_X5_readNet_1 := fun i => (dQ_X5_readNet_0 (i + 16)).trans dk_t
theorem dQ_X5_readNet_2 : dQ_P cX5_readNet 32 dT_X5_readNet_2 := fun i => (dQ_X5_readNet_1 (i + 16)).trans dk_t
theorem dQ_X5_readNet_3 : dQ_P cX5_readNet 48 dT_X5_readNet_3 := fun i => (dQ_X5_readNet_2 (i + 16)).trans dk_t
theorem dQ_X5_readNet_4 : dQ_P cX5_readNet 64 dT_X5_readNet_4 := fun i => (dQ_X5_readNet_3 (i + 16)).trans dk_t
theorem dQ_X5_readNet_5 : dQ_P cX5_readNet 80 dT_X5_readNet_5 := fun i => (dQ_X5_readNet_4 (i + 16)).trans dk_t
theorem dX5_readNet_0 : decode cX5_readNet 0 = .ok (.iload_n 1, 1) := dk_27 ((dQ_X5_readNet_0 0).trans dk_j0)
theorem dX5_readNet_1 : decode cX5_readNet 1 = .ok (.bipush 8, 2) := dk_16 ((dQ_X5_readNet_0 1).trans dk_j1) ((dQ_X5_readNet_0 2).trans dk_j2) dk_vs1_8
theorem dX5_readNet_3 : decode cX5_readNet 3 = .ok (.if_icmp .lt 9, 3) := dk_161 ((dQ_X5_readNet_0 3).trans dk_j3) ((dQ_X5_readNet_0 4).trans dk_j4) ((dQ_X5_readNet_0 5).trans dk_j5) dk_vs2_0_9
theorem dX5_readNet_6 : decode cX5_readNet 6 = .ok (.aload_n 0, 1) := dk_42 ((dQ_X5_readNet_0 6).trans dk_j6)
theorem dX5_readNet_7 : decode cX5_readNet 7 = .ok (.iconst 3, 1) := dk_6 ((dQ_X5_readNet_0 7).trans dk_j7)
theorem dX5_readNet_8 : decode cX5_readNet 8 = .ok (.invokevirtual 100, 3) := dk_182 ((dQ_X5_readNet_0 8).trans dk_j8) ((dQ_X5_readNet_0 9).trans dk_j9) ((dQ_X5_readNet_0 10).trans dk_j10) dk_vu2_0_100
theorem dX5_readNet_11 : decode cX5_readNet 11 = .ok (.return_, 1) := dk_177 ((dQ_X5_readNet_0 11).trans dk_j11)
theorem dX5_readNet_12 : decode cX5_readNet 12 = .ok (.aload_n 0, 1) := dk_42 ((dQ_X5_readNet_0 12).trans dk_j12)
theorem dX5_readNet_13 : decode cX5_readNet 13 = .ok (.ldc 90, 2) := dk_18 ((dQ_X5_readNet_0 13).trans dk_j13) ((dQ_X5_readNet_0 14).trans dk_j14) dk_vu1_90
theorem dX5_readNet_15 : decode cX5_readNet 15 = .ok (.invokevirtual 54, 3) := dk_182 ((dQ_X5_readNet_0 15).trans dk_j15) ((dQ_X5_readNet_1 0).trans dk_j0) ((dQ_X5_readNet_1 1).trans dk_j1) dk_vu2_0_54
theorem dX5_readNet_18 : decode cX5_readNet 18 = .ok (.aload_n 0, 1) := dk_42 ((dQ_X5_readNet_1 2).trans dk_j2)
theorem dX5_readNet_19 : decode cX5_readNet 19 = .ok (.iconst 0, 1) := dk_3 ((dQ_X5_readNet_1 3).trans dk_j3)
theorem dX5_readNet_20 : decode cX5_readNet 20 = .ok (.aload_n 0, 1) := dk_42 ((dQ_X5_readNet_1 4).trans dk_j4)
theorem dX5_readNet_21 : decode cX5_readNet 21 = .ok (.getfield 22, 3) := dk_180 ((dQ_X5_readNet_1 5).trans dk_j5) ((dQ_X5_readNet_1 6).trans dk_j6) ((dQ_X5_readNet_1 7).trans dk_j7) dk_vu2_0_22
theorem dX5_readNet_24 : decode cX5_readNet 24 = .ok (.getfield 49, 3) := dk_180 ((dQ_X5_readNet_1 8).trans dk_j8) ((dQ_X5_readNet_1 9).trans dk_j9) ((dQ_X5_readNet_1 10).trans dk_j10) dk_vu2_0_49
theorem dX5_readNet_27 : decode cX5_readNet 27 = .ok (.iconst 5, 1) := dk_8 ((dQ_X5_readNet_1 11).trans dk_j11)
theorem dX5_readNet_28 : decode cX5_readNet 28 = .ok (.iaload, 1) := dk_46 ((dQ_X5_readNet_1 12).trans dk_j12)
theorem dX5_readNet_29 : decode cX5_readNet 29 = .ok (.iconst 1, 1) := dk_4 ((dQ_X5_readNet_1 13).trans dk_j13)
theorem dX5_readNet_30 : decode cX5_readNet 30 = .ok (.isub, 1) := dk_100 ((dQ_X5_readNet_1 14).trans dk_j14)
theorem dX5_readNet_31 : decode cX5_readNet 31 = .ok (.iconst (-1), 1) := dk_2 ((dQ_X5_readNet_1 15).trans dk_j15)
theorem dX5_readNet_32 : decode cX5_readNet 32 = .ok (.invokevirtual 60, 3) := dk_182 ((dQ_X5_readNet_2 0).trans dk_j0) ((dQ_X5_readNet_2 1).trans dk_j1) ((dQ_X5_readNet_2 2).trans dk_j2) dk_vu2_0_60
theorem dX5_readNet_35 : decode cX5_readNet 35 = .ok (.istore_n 2, 1) := dk_61 ((dQ_X5_readNet_2 3).trans dk_j3)
theorem dX5_readNet_36 : decode cX5_readNet 36 = .ok (.aload_n 0, 1) := dk_42 ((dQ_X5_readNet_2 4).trans dk_j4)
theorem dX5_readNet_37 : decode cX5_readNet 37 = .ok (.getfield 22, 3) := dk_180 ((dQ_X5_readNet_2 5).trans dk_j5) ((dQ_X5_readNet_2 6).trans dk_j6) ((dQ_X5_readNet_2 7).trans dk_j7) dk_vu2_0_22
theorem dX5_readNet_40 : decode cX5_readNet 40 = .ok (.getfield 113, 3) := dk_180 ((dQ_X5_readNet_2 8).trans dk_j8) ((dQ_X5_readNet_2 9).trans dk_j9) ((dQ_X5_readNet_2 10).trans dk_j10) dk_vu2_0_113
theorem dX5_readNet_43 : decode cX5_readNet 43 = .ok (.iconst 2, 1) := dk_5 ((dQ_X5_readNet_2 11).trans dk_j11)
theorem dX5_readNet_44 : decode cX5_readNet 44 = .ok (.iload_n 1, 1) := dk_27 ((dQ_X5_readNet_2 12).trans dk_j12)
theorem dX5_readNet_45 : decode cX5_readNet 45 = .ok (.imul, 1) := dk_104 ((dQ_X5_readNet_2 13).trans dk_j13)
theorem dX5_readNet_46 : decode cX5_readNet 46 = .ok (.iload_n 2, 1) := dk_28 ((dQ_X5_readNet_2 14).trans dk_j14)
theorem dX5_readNet_47 : decode cX5_readNet 47 = .ok (.iastore, 1) := dk_79 ((dQ_X5_readNet_2 15).trans dk_j15)
theorem dX5_readNet_48 : decode cX5_readNet 48 = .ok (.aload_n 0, 1) := dk_42 ((dQ_X5_readNet_3 0).trans dk_j0)
theorem dX5_readNet_49 : decode cX5_readNet 49 = .ok (.getfield 22, 3) := dk_180 ((dQ_X5_readNet_3 1).trans dk_j1) ((dQ_X5_readNet_3 2).trans dk_j2) ((dQ_X5_readNet_3 3).trans dk_j3) dk_vu2_0_22
theorem dX5_readNet_52 : decode cX5_readNet 52 = .ok (.getfield 113, 3) := dk_180 ((dQ_X5_readNet_3 4).trans dk_j4) ((dQ_X5_readNet_3 5).trans dk_j5) ((dQ_X5_readNet_3 6).trans dk_j6) dk_vu2_0_113
theorem dX5_readNet_55 : decode cX5_readNet 55 = .ok (.iconst 2, 1) := dk_5 ((dQ_X5_readNet_3 7).trans dk_j7)
theorem dX5_readNet_56 : decode cX5_readNet 56 = .ok (.iload_n 1, 1) := dk_27 ((dQ_X5_readNet_3 8).trans dk_j8)
theorem dX5_readNet_57 : decode cX5_readNet 57 = .ok (.imul, 1) := dk_104 ((dQ_X5_readNet_3 9).trans dk_j9)
theorem dX5_readNet_58 : decode cX5_readNet 58 = .ok (.iconst 1, 1) := dk_4 ((dQ_X5_readNet_3 10).trans dk_j10)
theorem dX5_readNet_59 : decode cX5_readNet 59 = .ok (.iadd, 1) := dk_96 ((dQ_X5_readNet_3 11).trans dk_j11)
theorem dX5_readNet_60 : decode cX5_readNet 60 = .ok (.aload_n 0, 1) := dk_42 ((dQ_X5_readNet_3 12).trans dk_j12)
theorem dX5_readNet_61 : decode cX5_readNet 61 = .ok (.iconst 0, 1) := dk_3 ((dQ_X5_readNet_3 13).trans dk_j13)
theorem dX5_readNet_62 : decode cX5_readNet 62 = .ok (.aload_n 0, 1) := dk_42 ((dQ_X5_readNet_3 14).trans dk_j14)
theorem dX5_readNet_63 : decode cX5_readNet 63 = .ok (.getfield 22, 3) := dk_180 ((dQ_X5_readNet_3 15).trans dk_j15) ((dQ_X5_readNet_4 0).trans dk_j0) ((dQ_X5_readNet_4 1).trans dk_j1) dk_vu2_0_22
theorem dX5_readNet_66 : decode cX5_readNet 66 = .ok (.getfield 49, 3) := dk_180 ((dQ_X5_readNet_4 2).trans dk_j2) ((dQ_X5_readNet_4 3).trans dk_j3) ((dQ_X5_readNet_4 4).trans dk_j4) dk_vu2_0_49
theorem dX5_readNet_69 : decode cX5_readNet 69 = .ok (.iconst 5, 1) := dk_8 ((dQ_X5_readNet_4 5).trans dk_j5)
theorem dX5_readNet_70 : decode cX5_readNet 70 = .ok (.iaload, 1) := dk_46 ((dQ_X5_readNet_4 6).trans dk_j6)
theorem dX5_readNet_71 : decode cX5_readNet 71 = .ok (.iconst 1, 1) := dk_4 ((dQ_X5_readNet_4 7).trans dk_j7)
theorem dX5_readNet_72 : decode cX5_readNet 72 = .ok (.isub, 1) := dk_100 ((dQ_X5_readNet_4 8).trans dk_j8)
theorem dX5_readNet_73 : decode cX5_readNet 73 = .ok (.iload_n 2, 1) := dk_28 ((dQ_X5_readNet_4 9).trans dk_j9)
theorem dX5_readNet_74 : decode cX5_readNet 74 = .ok (.invokevirtual 60, 3) := dk_182 ((dQ_X5_readNet_4 10).trans dk_j10) ((dQ_X5_readNet_4 11).trans dk_j11) ((dQ_X5_readNet_4 12).trans dk_j12) dk_vu2_0_60
theorem dX5_readNet_77 : decode cX5_readNet 77 = .ok (.iastore, 1) := dk_79 ((dQ_X5_readNet_4 13).trans dk_j13)
theorem dX5_readNet_78 : decode cX5_readNet 78 = .ok (.aload_n 0, 1) := dk_42 ((dQ_X5_readNet_4 14).trans dk_j14)
theorem dX5_readNet_79 : decode cX5_readNet 79 = .ok (.invokevirtual 72, 3) := dk_182 ((dQ_X5_readNet_4 15).trans dk_j15) ((dQ_X5_readNet_5 0).trans dk_j0) ((dQ_X5_readNet_5 1).trans dk_j1) dk_vu2_0_72
theorem dX5_readNet_82 : decode cX5_readNet 82 = .ok (.aload_n 0, 1) := dk_42 ((dQ_X5_readNet_5 2).trans dk_j2)
theorem dX5_readNet_83 : decode cX5_readNet 83 = .ok (.getfield 22, 3) := dk_180 ((dQ_X5_readNet_5 3).trans dk_j3) ((dQ_X5_readNet_5 4).trans dk_j4) ((dQ_X5_readNet_5 5).trans dk_j5) dk_vu2_0_22
theorem dX5_readNet_86 : decode cX5_readNet 86 = .ok (.getfield 49, 3) := dk_180 ((dQ_X5_readNet_5 6).trans dk_j6) ((dQ_X5_readNet_5 7).trans dk_j7) ((dQ_X5_readNet_5 8).trans dk_j8) dk_vu2_0_49
theorem dX5_readNet_89 : decode cX5_readNet 89 = .ok (.bipush 7, 2) := dk_16 ((dQ_X5_readNet_5 9).trans dk_j9) ((dQ_X5_readNet_5 10).trans dk_j10) dk_vs1_7
theorem dX5_readNet_91 : decode cX5_readNet 91 = .ok (.iload_n 1, 1) := dk_27 ((dQ_X5_readNet_5 11).trans dk_j11)
theorem dX5_readNet_92 : decode cX5_readNet 92 = .ok (.iconst 1, 1) := dk_4 ((dQ_X5_readNet_5 12).trans dk_j12)
theorem dX5_readNet_93 : decode cX5_readNet 93 = .ok (.iadd, 1) := dk_96 ((dQ_X5_readNet_5 13).trans dk_j13)
theorem dX5_readNet_94 : decode cX5_readNet 94 = .ok (.iastore, 1) := dk_79 ((dQ_X5_readNet_5 14).trans dk_j14)
theorem dX5_readNet_95 : decode cX5_readNet 95 = .ok (.return_, 1) := dk_177 ((dQ_X5_readNet_5 15).trans dk_j15)
def dT_X5_readPolicy_10 : List UInt8 := (0xb4 : UInt8) :: (0x00 : UInt8) :: (0x31 : UInt8) :: (0x10 : UInt8) :: (0x08 : UInt8) :: (0x1b : UInt8) :: (0x04 : UInt8) :: (0x60 : UInt8) :: (0x4f : UInt8) :: (0xb1 : UInt8) :: []
def dT_X5_readPolicy_9 : List UInt8 := (0x03 : UInt8) :: (0x10 : UInt8) :: (0x63 : UInt8) :: (0x02 : UInt8) :: (0xb6 : UInt8) :: (0x00 : UInt8) :: (0x3c : UInt8) :: (0x4f : UInt8) :: (0x2a : UInt8) :: (0xb6 : UInt8) :: (0x00 : UInt8) :: (0x48 : UInt8) :: (0x2a : UInt8) :: (0xb4 : UInt8) :: (0x00 : UInt8) :: (0x16 : UInt8) :: dT_X5_readPolicy_10
def dT_X5_readPolicy_8 : List UInt8 := (0x12 : UInt8) :: (0x7d : UInt8) :: (0xb6 : UInt8) :: (0x00 : UInt8) :: (0x36 : UInt8) :: (0x2a : UInt8) :: (0xb4 : UInt8) :: (0x00 : UInt8) :: (0x16 : UInt8) :: (0xb4 : UInt8) :: (0x00 : UInt8) :: (0x74 : UInt8) :: (0x1c : UInt8) :: (0x07 : UInt8) :: (0x60 : UInt8) :: (0x2a : UInt8) :: dT_X5_readPolicy_9
def dT_X5_readPolicy_7 : List UInt8 := (0xb4 : UInt8) :: (0x00 : UInt8) :: (0x74 : UInt8) :: (0x1c : UInt8) :: (0x06 : UInt8) :: (0x60 : UInt8) :: (0x2a : UInt8) :: (0x04 : UInt8) :: (0x10 : UInt8) :: (0x63 : UInt8) :: (0x02 : UInt8) :: (0xb6 : UInt8) :: (0x00 : UInt8) :: (0x3c : UInt8) :: (0x4f : UInt8) :: (0x2a : UInt8) :: dT_X5_readPolicy_8
def dT_X5_readPolicy_6 : List UInt8 := (0x1d : UInt8) :: (0x02 : UInt8) :: (0xb6 : UInt8) :: (0x00 : UInt8) :: (0x3c : UInt8) :: (0x4f : UInt8) :: (0x2a : UInt8) :: (0x12 : UInt8) :: (0x7b : UInt8) :: (0xb6 : UInt8) :: (0x00 : UInt8) :: (0x36 : UInt8) :: (0x2a : UInt8) :: (0xb4 : UInt8) :: (0x00 : UInt8) :: (0x16 : UInt8) :: dT_X5_readPolicy_7
def dT_X5_readPolicy_5 : List UInt8 := (0xb6 : UInt8) :: (0x00 : UInt8) :: (0x36 : UInt8) :: (0x2a : UInt8) :: (0xb4 : UInt8) :: (0x00 : UInt8) :: (0x16 : UInt8) :: (0xb4 : UInt8) :: (0x00 : UInt8) :: (0x74 : UInt8) :: (0x1c : UInt8) :: (0x05 : UInt8) :: (0x60 : UInt8) :: (0x2a : UInt8) :: (0x1d : UInt8) :: (0x10 : UInt8) :: dT_X5_readPolicy_6
def dT_X5_readPolicy_4 : List UInt8 := (0x3e : UInt8) :: (0x2a : UInt8) :: (0xb4 : UInt8) :: (0x00 : UInt8) :: (0x16 : UInt8) :: (0xb4 : UInt8) :: (0x00 : UInt8) :: (0x74 : UInt8) :: (0x1c : UInt8) :: (0x04 : UInt8) :: (0x60 : UInt8) :: (0x1d : UInt8) :: (0x4f : UInt8) :: (0x2a : UInt8) :: (0x12 : UInt8) :: (0x79 : UInt8) :: dT_X5_readPolicy_5
def dT_X5_readPolicy_3 : List UInt8 := (0x3c : UInt8) :: (0x4f : UInt8) :: (0x2a : UInt8) :: (0x12 : UInt8) :: (0x77 : UInt8) :: (0xb6 : UInt8) :: (0x00 : UInt8) :: (0x36 : UInt8) :: (0x2a : UInt8) :: (0x03 : UInt8) :: (0x10 : UInt8) :: (0x1d : UInt8) :: (0x02 : UInt8) :: (0xb6 : UInt8) :: (0x00 : UInt8) :: (0x3c : UInt8) :: dT_X5_readPolicy_4
def dT_X5_readPolicy_2 : List UInt8 := (0x2a : UInt8) :: (0x03 : UInt8) :: (0x2a : UInt8) :: (0xb4 : UInt8) :: (0x00 : UInt8) :: (0x16 : UInt8) :: (0xb4 : UInt8) :: (0x00 : UInt8) :: (0x31 : UInt8) :: (0x08 : UInt8) :: (0x2e : UInt8) :: (0x04 : UInt8) :: (0x64 : UInt8) :: (0x02 : UInt8) :: (0xb6 : UInt8) :: (0x00 : UInt8) :: dT_X5_readPolicy_3
def dT_X5_readPolicy_1 : List UInt8 := (0x2a : UInt8) :: (0x12 : UInt8) :: (0x5f : UInt8) :: (0xb6 : UInt8) :: (0x00 : UInt8) :: (0x36 : UInt8) :: (0x2a : UInt8) :: (0xb4 : UInt8) :: (0x00 : UInt8) :: (0x16 : UInt8) :: (0xb4 : UInt8) :: (0x00 : UInt8) :: (0x74 : UInt8) :: (0x1c : UInt8) :: (0x03 : UInt8) :: (0x60 : UInt8) :: dT_X5_readPolicy_2
def dT_X5_readPolicy_0 : List UInt8 := (0x1b : UInt8) :: (0x10 : UInt8) :: (0x06 : UInt8) :: (0xa1 : UInt8) :: (0x00 : UInt8) :: (0x09 : UInt8) :: (0x2a : UInt8) :: (0x06 : UInt8) :: (0xb6 : UInt8) :: (0x00 : UInt8) :: (0x64 : UInt8) :: (0xb1 : UInt8) :: (0x08 : UInt8) :: (0x1b : UInt8) :: (0x68 : UInt8) :: (0x3d : UInt8) :: dT_X5_readPolicy_1
theorem dT_X5_readPolicy : cX5_readPolicy.data.toList = dT_X5_readPolicy_0 := eq_of_beq (show (cX5_readPolicy.data.toList == dT_X5_readPolicy_0) = true by decide +kernel)
theorem dQ_X5_readPolicy_0 : dQ_P cX5_readPolicy 0 dT_X5_readPolicy_0 := fun i => by rw [dT_X5_readPolicy]; rfl
theorem dQ_X5_readPolicy_1 : dQ_P cX5_readPolicy 16 dT_X5_readPolicy_1 := fun i => (dQ_X5_readPolicy_0 (i + 16)).trans dk_t
theorem dQ_X5_readPolicy_2 : dQ_P cX5_readPolicy 32 dT_X5_readPolicy_2 := fun i => (dQ_X5_readPolicy_1 (i + 16)).trans dk_t
theorem dQ_X5_readPolicy_3 : dQ_P cX5_readPolicy 48 dT_X5_readPolicy_3 := fun i => (dQ_X5_readPolicy_2 (i + 16)).trans dk_t
theorem dQ_X5_readPolicy_4 : dQ_P cX5_readPolicy 64 dT_X5_readPolicy_4 := fun i => (dQ_X5_readPolicy_3 (i + 16)).trans dk_t
theorem dQ_X5_readPolicy_5 : dQ_P cX5_readPolicy 80 dT_X5_readPolicy_5 := fun i => (dQ_X5_readPolicy_4 (i + 16)).trans dk_t
theorem dQ_X5_readPolicy_6 : dQ_P cX5_readPolicy 96 dT_X5_readPolicy_6 := fun i => (dQ_X5_readPolicy_5 (i + 16)).trans dk_t
theorem dQ_X5_readPolicy_7 : dQ_P cX5_readPolicy 112 dT_X5_readPolicy_7 := fun i => (dQ_X5_readPolicy_6 (i + 16)).trans dk_t
theorem dQ_X5_readPolicy_8 : dQ_P cX5_readPolicy 128 dT_X5_readPolicy_8 := fun i => (dQ_X5_readPolicy_7 (i + 16)).trans dk_t
theorem dQ_X5_readPolicy_9 : dQ_P cX5_readPolicy 144 dT_X5_readPolicy_9 := fun i => (dQ_X5_readPolicy_8 (i + 16)).trans dk_t
theorem dQ_X5_readPolicy_10 : dQ_P cX5_readPolicy 160 dT_X5_readPolicy_10 := fun i => (dQ_X5_readPolicy_9 (i + 16)).trans dk_t
theorem dX5_readPolicy_0 : decode cX5_readPolicy 0 = .ok (.iload_n 1, 1) := dk_27 ((dQ_X5_readPolicy_0 0).trans dk_j0)
theorem dX5_readPolicy_1 : decode cX5_readPolicy 1 = .ok (.bipush 6, 2) := dk_16 ((dQ_X5_readPolicy_0 1).trans dk_j1) ((dQ_X5_readPolicy_0 2).trans dk_j2) dk_vs1_6
theorem dX5_readPolicy_3 : decode cX5_readPolicy 3 = .ok (.if_icmp .lt 9, 3) := dk_161 ((dQ_X5_readPolicy_0 3).trans dk_j3) ((dQ_X5_readPolicy_0 4).trans dk_j4) ((dQ_X5_readPolicy_0 5).trans dk_j5) dk_vs2_0_9
theorem dX5_readPolicy_6 : decode cX5_readPolicy 6 = .ok (.aload_n 0, 1) := dk_42 ((dQ_X5_readPolicy_0 6).trans dk_j6)
theorem dX5_readPolicy_7 : decode cX5_readPolicy 7 = .ok (.iconst 3, 1) := dk_6 ((dQ_X5_readPolicy_0 7).trans dk_j7)
theorem dX5_readPolicy_8 : decode cX5_readPolicy 8 = .ok (.invokevirtual 100, 3) := dk_182 ((dQ_X5_readPolicy_0 8).trans dk_j8) ((dQ_X5_readPolicy_0 9).trans dk_j9) ((dQ_X5_readPolicy_0 10).trans dk_j10) dk_vu2_0_100
theorem dX5_readPolicy_11 : decode cX5_readPolicy 11 = .ok (.return_, 1) := dk_177 ((dQ_X5_readPolicy_0 11).trans dk_j11)
theorem dX5_readPolicy_12 : decode cX5_readPolicy 12 = .ok (.iconst 5, 1) := dk_8 ((dQ_X5_readPolicy_0 12).trans dk_j12)
theorem dX5_readPolicy_13 : decode cX5_readPolicy 13 = .ok (.iload_n 1, 1) := dk_27 ((dQ_X5_readPolicy_0 13).trans dk_j13)
theorem dX5_readPolicy_14 : decode cX5_readPolicy 14 = .ok (.imul, 1) := dk_104 ((dQ_X5_readPolicy_0 14).trans dk_j14)
theorem dX5_readPolicy_15 : decode cX5_readPolicy 15 = .ok (.istore_n 2, 1) := dk_61 ((dQ_X5_readPolicy_0 15).trans dk_j15)
theorem dX5_readPolicy_16 : decode cX5_readPolicy 16 = .ok (.aload_n 0, 1) := dk_42 ((dQ_X5_readPolicy_1 0).trans dk_j0)
theorem dX5_readPolicy_17 : decode cX5_readPolicy 17 = .ok (.ldc 95, 2) := dk_18 ((dQ_X5_readPolicy_1 1).trans dk_j1) ((dQ_X5_readPolicy_1 2).trans dk_j2) dk_vu1_95
theorem dX5_readPolicy_19 : decode cX5_readPolicy 19 = .ok (.invokevirtual 54, 3) := dk_182 ((dQ_X5_readPolicy_1 3).trans dk_j3) ((dQ_X5_readPolicy_1 4).trans dk_j4) ((dQ_X5_readPolicy_1 5).trans dk_j5) dk_vu2_0_54
theorem dX5_readPolicy_22 : decode cX5_readPolicy 22 = .ok (.aload_n 0, 1) := dk_42 ((dQ_X5_readPolicy_1 6).trans dk_j6)
theorem dX5_readPolicy_23 : decode cX5_readPolicy 23 = .ok (.getfield 22, 3) := dk_180 ((dQ_X5_readPolicy_1 7).trans dk_j7) ((dQ_X5_readPolicy_1 8).trans dk_j8) ((dQ_X5_readPolicy_1 9).trans dk_j9) dk_vu2_0_22
theorem dX5_readPolicy_26 : decode cX5_readPolicy 26 = .ok (.getfield 116, 3) := dk_180 ((dQ_X5_readPolicy_1 10).trans dk_j10) ((dQ_X5_readPolicy_1 11).trans dk_j11) ((dQ_X5_readPolicy_1 12).trans dk_j12) dk_vu2_0_116
theorem dX5_readPolicy_29 : decode cX5_readPolicy 29 = .ok (.iload_n 2, 1) := dk_28 ((dQ_X5_readPolicy_1 13).trans dk_j13)
theorem dX5_readPolicy_30 : decode cX5_readPolicy 30 = .ok (.iconst 0, 1) := dk_3 ((dQ_X5_readPolicy_1 14).trans dk_j14)
theorem dX5_readPolicy_31 : decode cX5_readPolicy 31 = .ok (.iadd, 1) := dk_96 ((dQ_X5_readPolicy_1 15).trans dk_j15)
theorem dX5_readPolicy_32 : decode cX5_readPolicy 32 = .ok (.aload_n 0, 1) := dk_42 ((dQ_X5_readPolicy_2 0).trans dk_j0)
theorem dX5_readPolicy_33 : decode cX5_readPolicy 33 = .ok (.iconst 0, 1) := dk_3 ((dQ_X5_readPolicy_2 1).trans dk_j1)
theorem dX5_readPolicy_34 : decode cX5_readPolicy 34 = .ok (.aload_n 0, 1) := dk_42 ((dQ_X5_readPolicy_2 2).trans dk_j2)
theorem dX5_readPolicy_35 : decode cX5_readPolicy 35 = .ok (.getfield 22, 3) := dk_180 ((dQ_X5_readPolicy_2 3).trans dk_j3) ((dQ_X5_readPolicy_2 4).trans dk_j4) ((dQ_X5_readPolicy_2 5).trans dk_j5) dk_vu2_0_22
theorem dX5_readPolicy_38 : decode cX5_readPolicy 38 = .ok (.getfield 49, 3) := dk_180 ((dQ_X5_readPolicy_2 6).trans dk_j6) ((dQ_X5_readPolicy_2 7).trans dk_j7) ((dQ_X5_readPolicy_2 8).trans dk_j8) dk_vu2_0_49
theorem dX5_readPolicy_41 : decode cX5_readPolicy 41 = .ok (.iconst 5, 1) := dk_8 ((dQ_X5_readPolicy_2 9).trans dk_j9)
theorem dX5_readPolicy_42 : decode cX5_readPolicy 42 = .ok (.iaload, 1) := dk_46 ((dQ_X5_readPolicy_2 10).trans dk_j10)
theorem dX5_readPolicy_43 : decode cX5_readPolicy 43 = .ok (.iconst 1, 1) := dk_4 ((dQ_X5_readPolicy_2 11).trans dk_j11)
theorem dX5_readPolicy_44 : decode cX5_readPolicy 44 = .ok (.isub, 1) := dk_100 ((dQ_X5_readPolicy_2 12).trans dk_j12)
theorem dX5_readPolicy_45 : decode cX5_readPolicy 45 = .ok (.iconst (-1), 1) := dk_2 ((dQ_X5_readPolicy_2 13).trans dk_j13)
theorem dX5_readPolicy_46 : decode cX5_readPolicy 46 = .ok (.invokevirtual 60, 3) := dk_182 ((dQ_X5_readPolicy_2 14).trans dk_j14) ((dQ_X5_readPolicy_2 15).trans dk_j15) ((dQ_X5_readPolicy_3 0).trans dk_j0) dk_vu2_0_60
theorem dX5_readPolicy_49 : decode cX5_readPolicy 49 = .ok (.iastore, 1) := dk_79 ((dQ_X5_readPolicy_3 1).trans dk_j1)
theorem dX5_readPolicy_50 : decode cX5_readPolicy 50 = .ok (.aload_n 0, 1) := dk_42 ((dQ_X5_readPolicy_3 2).trans dk_j2)
theorem dk_vu1_119 : (0x77 : UInt8).toNat = (119 : Nat) := by decide +kernel
theorem dX5_readPolicy_51 : decode cX5_readPolicy 51 = .ok (.ldc 119, 2) := dk_18 ((dQ_X5_readPolicy_3 3).trans dk_j3) ((dQ_X5_readPolicy_3 4).trans dk_j4) dk_vu1_119
theorem dX5_readPolicy_53 : decode cX5_readPolicy 53 = .ok (.invokevirtual 54, 3) := dk_182 ((dQ_X5_readPolicy_3 5).trans dk_j5) ((dQ_X5_readPolicy_3 6).trans dk_j6) ((dQ_X5_readPolicy_3 7).trans dk_j7) dk_vu2_0_54
theorem dX5_readPolicy_56 : decode cX5_readPolicy 56 = .ok (.aload_n 0, 1) := dk_42 ((dQ_X5_readPolicy_3 8).trans dk_j8)
theorem dX5_readPolicy_57 : decode cX5_readPolicy 57 = .ok (.iconst 0, 1) := dk_3 ((dQ_X5_readPolicy_3 9).trans dk_j9)
theorem dX5_readPolicy_58 : decode cX5_readPolicy 58 = .ok (.bipush 29, 2) := dk_16 ((dQ_X5_readPolicy_3 10).trans dk_j10) ((dQ_X5_readPolicy_3 11).trans dk_j11) dk_vs1_29
theorem dX5_readPolicy_60 : decode cX5_readPolicy 60 = .ok (.iconst (-1), 1) := dk_2 ((dQ_X5_readPolicy_3 12).trans dk_j12)
theorem dX5_readPolicy_61 : decode cX5_readPolicy 61 = .ok (.invokevirtual 60, 3) := dk_182 ((dQ_X5_readPolicy_3 13).trans dk_j13) ((dQ_X5_readPolicy_3 14).trans dk_j14) ((dQ_X5_readPolicy_3 15).trans dk_j15) dk_vu2_0_60
theorem dX5_readPolicy_64 : decode cX5_readPolicy 64 = .ok (.istore_n 3, 1) := dk_62 ((dQ_X5_readPolicy_4 0).trans dk_j0)
theorem dX5_readPolicy_65 : decode cX5_readPolicy 65 = .ok (.aload_n 0, 1) := dk_42 ((dQ_X5_readPolicy_4 1).trans dk_j1)
theorem dX5_readPolicy_66 : decode cX5_readPolicy 66 = .ok (.getfield 22, 3) := dk_180 ((dQ_X5_readPolicy_4 2).trans dk_j2) ((dQ_X5_readPolicy_4 3).trans dk_j3) ((dQ_X5_readPolicy_4 4).trans dk_j4) dk_vu2_0_22
theorem dX5_readPolicy_69 : decode cX5_readPolicy 69 = .ok (.getfield 116, 3) := dk_180 ((dQ_X5_readPolicy_4 5).trans dk_j5) ((dQ_X5_readPolicy_4 6).trans dk_j6) ((dQ_X5_readPolicy_4 7).trans dk_j7) dk_vu2_0_116
theorem dX5_readPolicy_72 : decode cX5_readPolicy 72 = .ok (.iload_n 2, 1) := dk_28 ((dQ_X5_readPolicy_4 8).trans dk_j8)
theorem dX5_readPolicy_73 : decode cX5_readPolicy 73 = .ok (.iconst 1, 1) := dk_4 ((dQ_X5_readPolicy_4 9).trans dk_j9)
theorem dX5_readPolicy_74 : decode cX5_readPolicy 74 = .ok (.iadd, 1) := dk_96 ((dQ_X5_readPolicy_4 10).trans dk_j10)
theorem dX5_readPolicy_75 : decode cX5_readPolicy 75 = .ok (.iload_n 3, 1) := dk_29 ((dQ_X5_readPolicy_4 11).trans dk_j11)
theorem dX5_readPolicy_76 : decode cX5_readPolicy 76 = .ok (.iastore, 1) := dk_79 ((dQ_X5_readPolicy_4 12).trans dk_j12)
theorem dX5_readPolicy_77 : decode cX5_readPolicy 77 = .ok (.aload_n 0, 1) := dk_42 ((dQ_X5_readPolicy_4 13).trans dk_j13)
theorem dk_vu1_121 : (0x79 : UInt8).toNat = (121 : Nat) := by decide +kernel
theorem dX5_readPolicy_78 : decode cX5_readPolicy 78 = .ok (.ldc 121, 2) := dk_18 ((dQ_X5_readPolicy_4 14).trans dk_j14) ((dQ_X5_readPolicy_4 15).trans dk_j15) dk_vu1_121
theorem dX5_readPolicy_80 : decode cX5_readPolicy 80 = .ok (.invokevirtual 54, 3) := dk_182 ((dQ_X5_readPolicy_5 0).trans dk_j0) ((dQ_X5_readPolicy_5 1).trans dk_j1) ((dQ_X5_readPolicy_5 2).trans dk_j2) dk_vu2_0_54
theorem dX5_readPolicy_83 : decode cX5_readPolicy 83 = .ok (.aload_n 0, 1) := dk_42 ((dQ_X5_readPolicy_5 3).trans dk_j3)
theorem dX5_readPolicy_84 : decode cX5_readPolicy 84 = .ok (.getfield 22, 3) := dk_180 ((dQ_X5_readPolicy_5 4).trans dk_j4) ((dQ_X5_readPolicy_5 5).trans dk_j5) ((dQ_X5_readPolicy_5 6).trans dk_j6) dk_vu2_0_22
theorem dX5_readPolicy_87 : decode cX5_readPolicy 87 = .ok (.getfield 116, 3) := dk_180 ((dQ_X5_readPolicy_5 7).trans dk_j7) ((dQ_X5_readPolicy_5 8).trans dk_j8) ((dQ_X5_readPolicy_5 9).trans dk_j9) dk_vu2_0_116
theorem dX5_readPolicy_90 : decode cX5_readPolicy 90 = .ok (.iload_n 2, 1) := dk_28 ((dQ_X5_readPolicy_5 10).trans dk_j10)
theorem dX5_readPolicy_91 : decode cX5_readPolicy 91 = .ok (.iconst 2, 1) := dk_5 ((dQ_X5_readPolicy_5 11).trans dk_j11)
theorem dX5_readPolicy_92 : decode cX5_readPolicy 92 = .ok (.iadd, 1) := dk_96 ((dQ_X5_readPolicy_5 12).trans dk_j12)
theorem dX5_readPolicy_93 : decode cX5_readPolicy 93 = .ok (.aload_n 0, 1) := dk_42 ((dQ_X5_readPolicy_5 13).trans dk_j13)
theorem dX5_readPolicy_94 : decode cX5_readPolicy 94 = .ok (.iload_n 3, 1) := dk_29 ((dQ_X5_readPolicy_5 14).trans dk_j14)
theorem dX5_readPolicy_95 : decode cX5_readPolicy 95 = .ok (.bipush 29, 2) := dk_16 ((dQ_X5_readPolicy_5 15).trans dk_j15) ((dQ_X5_readPolicy_6 0).trans dk_j0) dk_vs1_29
theorem dX5_readPolicy_97 : decode cX5_readPolicy 97 = .ok (.iconst (-1), 1) := dk_2 ((dQ_X5_readPolicy_6 1).trans dk_j1)
theorem dX5_readPolicy_98 : decode cX5_readPolicy 98 = .ok (.invokevirtual 60, 3) := dk_182 ((dQ_X5_readPolicy_6 2).trans dk_j2) ((dQ_X5_readPolicy_6 3).trans dk_j3) ((dQ_X5_readPolicy_6 4).trans dk_j4) dk_vu2_0_60
theorem dX5_readPolicy_101 : decode cX5_readPolicy 101 = .ok (.iastore, 1) := dk_79 ((dQ_X5_readPolicy_6 5).trans dk_j5)
theorem dX5_readPolicy_102 : decode cX5_readPolicy 102 = .ok (.aload_n 0, 1) := dk_42 ((dQ_X5_readPolicy_6 6).trans dk_j6)
theorem dk_vu1_123 : (0x7b : UInt8).toNat = (123 : Nat) := by decide +kernel
theorem dX5_readPolicy_103 : decode cX5_readPolicy 103 = .ok (.ldc 123, 2) := dk_18 ((dQ_X5_readPolicy_6 7).trans dk_j7) ((dQ_X5_readPolicy_6 8).trans dk_j8) dk_vu1_123
theorem dX5_readPolicy_105 : decode cX5_readPolicy 105 = .ok (.invokevirtual 54, 3) := dk_182 ((dQ_X5_readPolicy_6 9).trans dk_j9) ((dQ_X5_readPolicy_6 10).trans dk_j10) ((dQ_X5_readPolicy_6 11).trans dk_j11) dk_vu2_0_54
theorem dX5_readPolicy_108 : decode cX5_readPolicy 108 = .ok (.aload_n 0, 1) := dk_42 ((dQ_X5_readPolicy_6 12).trans dk_j12)
theorem dX5_readPolicy_109 : decode cX5_readPolicy 109 = .ok (.getfield 22, 3) := dk_180 ((dQ_X5_readPolicy_6 13).trans dk_j13) ((dQ_X5_readPolicy_6 14).trans dk_j14) ((dQ_X5_readPolicy_6 15).trans dk_j15) dk_vu2_0_22
theorem dX5_readPolicy_112 : decode cX5_readPolicy 112 = .ok (.getfield 116, 3) := dk_180 ((dQ_X5_readPolicy_7 0).trans dk_j0) ((dQ_X5_readPolicy_7 1).trans dk_j1) ((dQ_X5_readPolicy_7 2).trans dk_j2) dk_vu2_0_116
theorem dX5_readPolicy_115 : decode cX5_readPolicy 115 = .ok (.iload_n 2, 1) := dk_28 ((dQ_X5_readPolicy_7 3).trans dk_j3)
theorem dX5_readPolicy_116 : decode cX5_readPolicy 116 = .ok (.iconst 3, 1) := dk_6 ((dQ_X5_readPolicy_7 4).trans dk_j4)
theorem dX5_readPolicy_117 : decode cX5_readPolicy 117 = .ok (.iadd, 1) := dk_96 ((dQ_X5_readPolicy_7 5).trans dk_j5)
theorem dX5_readPolicy_118 : decode cX5_readPolicy 118 = .ok (.aload_n 0, 1) := dk_42 ((dQ_X5_readPolicy_7 6).trans dk_j6)
theorem dX5_readPolicy_119 : decode cX5_readPolicy 119 = .ok (.iconst 1, 1) := dk_4 ((dQ_X5_readPolicy_7 7).trans dk_j7)
theorem dX5_readPolicy_120 : decode cX5_readPolicy 120 = .ok (.bipush 99, 2) := dk_16 ((dQ_X5_readPolicy_7 8).trans dk_j8) ((dQ_X5_readPolicy_7 9).trans dk_j9) dk_vs1_99
theorem dX5_readPolicy_122 : decode cX5_readPolicy 122 = .ok (.iconst (-1), 1) := dk_2 ((dQ_X5_readPolicy_7 10).trans dk_j10)
theorem dX5_readPolicy_123 : decode cX5_readPolicy 123 = .ok (.invokevirtual 60, 3) := dk_182 ((dQ_X5_readPolicy_7 11).trans dk_j11) ((dQ_X5_readPolicy_7 12).trans dk_j12) ((dQ_X5_readPolicy_7 13).trans dk_j13) dk_vu2_0_60
theorem dX5_readPolicy_126 : decode cX5_readPolicy 126 = .ok (.iastore, 1) := dk_79 ((dQ_X5_readPolicy_7 14).trans dk_j14)
theorem dX5_readPolicy_127 : decode cX5_readPolicy 127 = .ok (.aload_n 0, 1) := dk_42 ((dQ_X5_readPolicy_7 15).trans dk_j15)
theorem dk_vu1_125 : (0x7d : UInt8).toNat = (125 : Nat) := by decide +kernel
theorem dX5_readPolicy_128 : decode cX5_readPolicy 128 = .ok (.ldc 125, 2) := dk_18 ((dQ_X5_readPolicy_8 0).trans dk_j0) ((dQ_X5_readPolicy_8 1).trans dk_j1) dk_vu1_125
theorem dX5_readPolicy_130 : decode cX5_readPolicy 130 = .ok (.invokevirtual 54, 3) := dk_182 ((dQ_X5_readPolicy_8 2).trans dk_j2) ((dQ_X5_readPolicy_8 3).trans dk_j3) ((dQ_X5_readPolicy_8 4).trans dk_j4) dk_vu2_0_54
theorem dX5_readPolicy_133 : decode cX5_readPolicy 133 = .ok (.aload_n 0, 1) := dk_42 ((dQ_X5_readPolicy_8 5).trans dk_j5)
theorem dX5_readPolicy_134 : decode cX5_readPolicy 134 = .ok (.getfield 22, 3) := dk_180 ((dQ_X5_readPolicy_8 6).trans dk_j6) ((dQ_X5_readPolicy_8 7).trans dk_j7) ((dQ_X5_readPolicy_8 8).trans dk_j8) dk_vu2_0_22
theorem dX5_readPolicy_137 : decode cX5_readPolicy 137 = .ok (.getfield 116, 3) := dk_180 ((dQ_X5_readPolicy_8 9).trans dk_j9) ((dQ_X5_readPolicy_8 10).trans dk_j10) ((dQ_X5_readPolicy_8 11).trans dk_j11) dk_vu2_0_116
theorem dX5_readPolicy_140 : decode cX5_readPolicy 140 = .ok (.iload_n 2, 1) := dk_28 ((dQ_X5_readPolicy_8 12).trans dk_j12)
theorem dX5_readPolicy_141 : decode cX5_readPolicy 141 = .ok (.iconst 4, 1) := dk_7 ((dQ_X5_readPolicy_8 13).trans dk_j13)
theorem dX5_readPolicy_142 : decode cX5_readPolicy 142 = .ok (.iadd, 1) := dk_96 ((dQ_X5_readPolicy_8 14).trans dk_j14)
theorem dX5_readPolicy_143 : decode cX5_readPolicy 143 = .ok (.aload_n 0, 1) := dk_42 ((dQ_X5_readPolicy_8 15).trans dk_j15)
theorem dX5_readPolicy_144 : decode cX5_readPolicy 144 = .ok (.iconst 0, 1) := dk_3 ((dQ_X5_readPolicy_9 0).trans dk_j0)
theorem dX5_readPolicy_145 : decode cX5_readPolicy 145 = .ok (.bipush 99, 2) := dk_16 ((dQ_X5_readPolicy_9 1).trans dk_j1) ((dQ_X5_readPolicy_9 2).trans dk_j2) dk_vs1_99
theorem dX5_readPolicy_147 : decode cX5_readPolicy 147 = .ok (.iconst (-1), 1) := dk_2 ((dQ_X5_readPolicy_9 3).trans dk_j3)
theorem dX5_readPolicy_148 : decode cX5_readPolicy 148 = .ok (.invokevirtual 60, 3) := dk_182 ((dQ_X5_readPolicy_9 4).trans dk_j4) ((dQ_X5_readPolicy_9 5).trans dk_j5) ((dQ_X5_readPolicy_9 6).trans dk_j6) dk_vu2_0_60
theorem dX5_readPolicy_151 : decode cX5_readPolicy 151 = .ok (.iastore, 1) := dk_79 ((dQ_X5_readPolicy_9 7).trans dk_j7)
theorem dX5_readPolicy_152 : decode cX5_readPolicy 152 = .ok (.aload_n 0, 1) := dk_42 ((dQ_X5_readPolicy_9 8).trans dk_j8)
theorem dX5_readPolicy_153 : decode cX5_readPolicy 153 = .ok (.invokevirtual 72, 3) := dk_182 ((dQ_X5_readPolicy_9 9).trans dk_j9) ((dQ_X5_readPolicy_9 10).trans dk_j10) ((dQ_X5_readPolicy_9 11).trans dk_j11) dk_vu2_0_72
theorem dX5_readPolicy_156 : decode cX5_readPolicy 156 = .ok (.aload_n 0, 1) := dk_42 ((dQ_X5_readPolicy_9 12).trans dk_j12)
theorem dX5_readPolicy_157 : decode cX5_readPolicy 157 = .ok (.getfield 22, 3) := dk_180 ((dQ_X5_readPolicy_9 13).trans dk_j13) ((dQ_X5_readPolicy_9 14).trans dk_j14) ((dQ_X5_readPolicy_9 15).trans dk_j15) dk_vu2_0_22
theorem dX5_readPolicy_160 : decode cX5_readPolicy 160 = .ok (.getfield 49, 3) := dk_180 ((dQ_X5_readPolicy_10 0).trans dk_j0) ((dQ_X5_readPolicy_10 1).trans dk_j1) ((dQ_X5_readPolicy_10 2).trans dk_j2) dk_vu2_0_49
theorem dX5_readPolicy_163 : decode cX5_readPolicy 163 = .ok (.bipush 8, 2) := dk_16 ((dQ_X5_readPolicy_10 3).trans dk_j3) ((dQ_X5_readPolicy_10 4).trans dk_j4) dk_vs1_8
theorem dX5_readPolicy_165 : decode cX5_readPolicy 165 = .ok (.iload_n 1, 1) := dk_27 ((dQ_X5_readPolicy_10 5).trans dk_j5)
theorem dX5_readPolicy_166 : decode cX5_readPolicy 166 = .ok (.iconst 1, 1) := dk_4 ((dQ_X5_readPolicy_10 6).trans dk_j6)
theorem dX5_readPolicy_167 : decode cX5_readPolicy 167 = .ok (.iadd, 1) := dk_96 ((dQ_X5_readPolicy_10 7).trans dk_j7)
theorem dX5_readPolicy_168 : decode cX5_readPolicy 168 = .ok (.iastore, 1) := dk_79 ((dQ_X5_readPolicy_10 8).trans dk_j8)
theorem dX5_readPolicy_169 : decode cX5_readPolicy 169 = .ok (.return_, 1) := dk_177 ((dQ_X5_readPolicy_10 9).trans dk_j9)
def dT_X5_word_1 : List UInt8 := (0x04 : UInt8) :: (0xb6 : UInt8) :: (0x00 : UInt8) :: (0x64 : UInt8) :: (0xb1 : UInt8) :: []
def dT_X5_word_0 : List UInt8 := (0x2a : UInt8) :: (0x2b : UInt8) :: (0xb6 : UInt8) :: (0x00 : UInt8) :: (0x4d : UInt8) :: (0x99 : UInt8) :: (0x00 : UInt8) :: (0x0a : UInt8) :: (0x2a : UInt8) :: (0xb6 : UInt8) :: (0x00 : UInt8) :: (0x25 : UInt8) :: (0xa7 : UInt8) :: (0x00 : UInt8) :: (0x08 : UInt8) :: (0x2a : UInt8) :: dT_X5_word_1
theorem dT_X5_word : cX5_word.data.toList = dT_X5_word_0 := eq_of_beq (show (cX5_word.data.toList == dT_X5_word_0) = true by decide +kernel)
theorem dQ_X5_word_0 : dQ_P cX5_word 0 dT_X5_word_0 := fun i => by rw [dT_X5_word]; rfl
theorem dQ_X5_word_1 : dQ_P cX5_word 16 dT_X5_word_1 := fun i => (dQ_X5_word_0 (i + 16)).trans dk_t
theorem dX5_word_0 : decode cX5_word 0 = .ok (.aload_n 0, 1) := dk_42 ((dQ_X5_word_0 0).trans dk_j0)
theorem dX5_word_1 : decode cX5_word 1 = .ok (.aload_n 1, 1) := dk_43 ((dQ_X5_word_0 1).trans dk_j1)
theorem dX5_word_2 : decode cX5_word 2 = .ok (.invokevirtual 77, 3) := dk_182 ((dQ_X5_word_0 2).trans dk_j2) ((dQ_X5_word_0 3).trans dk_j3) ((dQ_X5_word_0 4).trans dk_j4) dk_vu2_0_77
theorem dX5_word_5 : decode cX5_word 5 = .ok (.ifCond .eq 10, 3) := dk_153 ((dQ_X5_word_0 5).trans dk_j5) ((dQ_X5_word_0 6).trans dk_j6) ((dQ_X5_word_0 7).trans dk_j7) dk_vs2_0_10
theorem dX5_word_8 : decode cX5_word 8 = .ok (.aload_n 0, 1) := dk_42 ((dQ_X5_word_0 8).trans dk_j8)
theorem dX5_word_9 : decode cX5_word 9 = .ok (.invokevirtual 37, 3) := dk_182 ((dQ_X5_word_0 9).trans dk_j9) ((dQ_X5_word_0 10).trans dk_j10) ((dQ_X5_word_0 11).trans dk_j11) dk_vu2_0_37
theorem dX5_word_12 : decode cX5_word 12 = .ok (.goto 8, 3) := dk_167 ((dQ_X5_word_0 12).trans dk_j12) ((dQ_X5_word_0 13).trans dk_j13) ((dQ_X5_word_0 14).trans dk_j14) dk_vs2_0_8
theorem dX5_word_15 : decode cX5_word 15 = .ok (.aload_n 0, 1) := dk_42 ((dQ_X5_word_0 15).trans dk_j15)
theorem dX5_word_16 : decode cX5_word 16 = .ok (.iconst 1, 1) := dk_4 ((dQ_X5_word_1 0).trans dk_j0)
theorem dX5_word_17 : decode cX5_word 17 = .ok (.invokevirtual 100, 3) := dk_182 ((dQ_X5_word_1 1).trans dk_j1) ((dQ_X5_word_1 2).trans dk_j2) ((dQ_X5_word_1 3).trans dk_j3) dk_vu2_0_100
theorem dX5_word_20 : decode cX5_word 20 = .ok (.return_, 1) := dk_177 ((dQ_X5_word_1 4).trans dk_j4)
def dT_X5_sign_1 : List UInt8 := (0x04 : UInt8) :: (0xb6 : UInt8) :: (0x00 : UInt8) :: (0x64 : UInt8) :: (0xb1 : UInt8) :: []
def dT_X5_sign_0 : List UInt8 := (0x2a : UInt8) :: (0xb4 : UInt8) :: (0x00 : UInt8) :: (0x28 : UInt8) :: (0x06 : UInt8) :: (0xa0 : UInt8) :: (0x00 : UInt8) :: (0x0a : UInt8) :: (0x2a : UInt8) :: (0xb6 : UInt8) :: (0x00 : UInt8) :: (0x25 : UInt8) :: (0xa7 : UInt8) :: (0x00 : UInt8) :: (0x08 : UInt8) :: (0x2a : UInt8) :: dT_X5_sign_1
theorem dT_X5_sign : cX5_sign.data.toList = dT_X5_sign_0 := eq_of_beq (show (cX5_sign.data.toList == dT_X5_sign_0) = true by decide +kernel)
theorem dQ_X5_sign_0 : dQ_P cX5_sign 0 dT_X5_sign_0 := fun i => by rw [dT_X5_sign]; rfl
theorem dQ_X5_sign_1 : dQ_P cX5_sign 16 dT_X5_sign_1 := fun i => (dQ_X5_sign_0 (i + 16)).trans dk_t
theorem dX5_sign_0 : decode cX5_sign 0 = .ok (.aload_n 0, 1) := dk_42 ((dQ_X5_sign_0 0).trans dk_j0)
theorem dX5_sign_1 : decode cX5_sign 1 = .ok (.getfield 40, 3) := dk_180 ((dQ_X5_sign_0 1).trans dk_j1) ((dQ_X5_sign_0 2).trans dk_j2) ((dQ_X5_sign_0 3).trans dk_j3) dk_vu2_0_40
theorem dX5_sign_4 : decode cX5_sign 4 = .ok (.iconst 3, 1) := dk_6 ((dQ_X5_sign_0 4).trans dk_j4)
theorem dX5_sign_5 : decode cX5_sign 5 = .ok (.if_icmp .ne 10, 3) := dk_160 ((dQ_X5_sign_0 5).trans dk_j5) ((dQ_X5_sign_0 6).trans dk_j6) ((dQ_X5_sign_0 7).trans dk_j7) dk_vs2_0_10
theorem dX5_sign_8 : decode cX5_sign 8 = .ok (.aload_n 0, 1) := dk_42 ((dQ_X5_sign_0 8).trans dk_j8)
theorem dX5_sign_9 : decode cX5_sign 9 = .ok (.invokevirtual 37, 3) := dk_182 ((dQ_X5_sign_0 9).trans dk_j9) ((dQ_X5_sign_0 10).trans dk_j10) ((dQ_X5_sign_0 11).trans dk_j11) dk_vu2_0_37
theorem dX5_sign_12 : decode cX5_sign 12 = .ok (.goto 8, 3) := dk_167 ((dQ_X5_sign_0 12).trans dk_j12) ((dQ_X5_sign_0 13).trans dk_j13) ((dQ_X5_sign_0 14).trans dk_j14) dk_vs2_0_8
theorem dX5_sign_15 : decode cX5_sign 15 = .ok (.aload_n 0, 1) := dk_42 ((dQ_X5_sign_0 15).trans dk_j15)
theorem dX5_sign_16 : decode cX5_sign 16 = .ok (.iconst 1, 1) := dk_4 ((dQ_X5_sign_1 0).trans dk_j0)
theorem dX5_sign_17 : decode cX5_sign 17 = .ok (.invokevirtual 100, 3) := dk_182 ((dQ_X5_sign_1 1).trans dk_j1) ((dQ_X5_sign_1 2).trans dk_j2) ((dQ_X5_sign_1 3).trans dk_j3) dk_vu2_0_100
theorem dX5_sign_20 : decode cX5_sign 20 = .ok (.return_, 1) := dk_177 ((dQ_X5_sign_1 4).trans dk_j4)
def dT_X5_number_3 : List UInt8 := (0x15 : UInt8) :: (0x04 : UInt8) :: (0xac : UInt8) :: []
def dT_X5_number_2 : List UInt8 := (0x09 : UInt8) :: (0x15 : UInt8) :: (0x04 : UInt8) :: (0x1d : UInt8) :: (0xa0 : UInt8) :: (0x00 : UInt8) :: (0x08 : UInt8) :: (0x2a : UInt8) :: (0x05 : UInt8) :: (0xb6 : UInt8) :: (0x00 : UInt8) :: (0x64 : UInt8) :: (0x2a : UInt8) :: (0xb6 : UInt8) :: (0x00 : UInt8) :: (0x25 : UInt8) :: dT_X5_number_3
def dT_X5_number_1 : List UInt8 := (0xb6 : UInt8) :: (0x00 : UInt8) :: (0x7f : UInt8) :: (0x36 : UInt8) :: (0x04 : UInt8) :: (0x15 : UInt8) :: (0x04 : UInt8) :: (0x1b : UInt8) :: (0xa1 : UInt8) :: (0x00 : UInt8) :: (0x0f : UInt8) :: (0x15 : UInt8) :: (0x04 : UInt8) :: (0x1c : UInt8) :: (0xa3 : UInt8) :: (0x00 : UInt8) :: dT_X5_number_2
def dT_X5_number_0 : List UInt8 := (0x2a : UInt8) :: (0xb4 : UInt8) :: (0x00 : UInt8) :: (0x28 : UInt8) :: (0x05 : UInt8) :: (0x9f : UInt8) :: (0x00 : UInt8) :: (0x0a : UInt8) :: (0x2a : UInt8) :: (0x04 : UInt8) :: (0xb6 : UInt8) :: (0x00 : UInt8) :: (0x64 : UInt8) :: (0x03 : UInt8) :: (0xac : UInt8) :: (0x2a : UInt8) :: dT_X5_number_1
theorem dT_X5_number : cX5_number.data.toList = dT_X5_number_0 := eq_of_beq (show (cX5_number.data.toList == dT_X5_number_0) = true by decide +kernel)
theorem dQ_X5_number_0 : dQ_P cX5_number 0 dT_X5_number_0 := fun i => by rw [dT_X5_number]; rfl
theorem dQ_X5_number_1 : dQ_P cX5_number 16 dT_X5_number_1 := fun i => (dQ_X5_number_0 (i + 16)).trans dk_t
theorem dQ_X5_number_2 : dQ_P cX5_number 32 dT_X5_number_2 := fun i => (dQ_X5_number_1 (i + 16)).trans dk_t
theorem dQ_X5_number_3 : dQ_P cX5_number 48 dT_X5_number_3 := fun i => (dQ_X5_number_2 (i + 16)).trans dk_t
theorem dX5_number_0 : decode cX5_number 0 = .ok (.aload_n 0, 1) := dk_42 ((dQ_X5_number_0 0).trans dk_j0)
theorem dX5_number_1 : decode cX5_number 1 = .ok (.getfield 40, 3) := dk_180 ((dQ_X5_number_0 1).trans dk_j1) ((dQ_X5_number_0 2).trans dk_j2) ((dQ_X5_number_0 3).trans dk_j3) dk_vu2_0_40
theorem dX5_number_4 : decode cX5_number 4 = .ok (.iconst 2, 1) := dk_5 ((dQ_X5_number_0 4).trans dk_j4)
theorem dX5_number_5 : decode cX5_number 5 = .ok (.if_icmp .eq 10, 3) := dk_159 ((dQ_X5_number_0 5).trans dk_j5) ((dQ_X5_number_0 6).trans dk_j6) ((dQ_X5_number_0 7).trans dk_j7) dk_vs2_0_10
theorem dX5_number_8 : decode cX5_number 8 = .ok (.aload_n 0, 1) := dk_42 ((dQ_X5_number_0 8).trans dk_j8)
theorem dX5_number_9 : decode cX5_number 9 = .ok (.iconst 1, 1) := dk_4 ((dQ_X5_number_0 9).trans dk_j9)
theorem dX5_number_10 : decode cX5_number 10 = .ok (.invokevirtual 100, 3) := dk_182 ((dQ_X5_number_0 10).trans dk_j10) ((dQ_X5_number_0 11).trans dk_j11) ((dQ_X5_number_0 12).trans dk_j12) dk_vu2_0_100
theorem dX5_number_13 : decode cX5_number 13 = .ok (.iconst 0, 1) := dk_3 ((dQ_X5_number_0 13).trans dk_j13)
theorem dX5_number_14 : decode cX5_number 14 = .ok (.ireturn, 1) := dk_172 ((dQ_X5_number_0 14).trans dk_j14)
theorem dX5_number_15 : decode cX5_number 15 = .ok (.aload_n 0, 1) := dk_42 ((dQ_X5_number_0 15).trans dk_j15)
theorem dX5_number_16 : decode cX5_number 16 = .ok (.invokevirtual 127, 3) := dk_182 ((dQ_X5_number_1 0).trans dk_j0) ((dQ_X5_number_1 1).trans dk_j1) ((dQ_X5_number_1 2).trans dk_j2) dk_vu2_0_127
theorem dX5_number_19 : decode cX5_number 19 = .ok (.istore 4, 2) := dk_54 ((dQ_X5_number_1 3).trans dk_j3) ((dQ_X5_number_1 4).trans dk_j4) dk_vu1_4
theorem dX5_number_21 : decode cX5_number 21 = .ok (.iload 4, 2) := dk_21 ((dQ_X5_number_1 5).trans dk_j5) ((dQ_X5_number_1 6).trans dk_j6) dk_vu1_4
theorem dX5_number_23 : decode cX5_number 23 = .ok (.iload_n 1, 1) := dk_27 ((dQ_X5_number_1 7).trans dk_j7)
theorem dX5_number_24 : decode cX5_number 24 = .ok (.if_icmp .lt 15, 3) := dk_161 ((dQ_X5_number_1 8).trans dk_j8) ((dQ_X5_number_1 9).trans dk_j9) ((dQ_X5_number_1 10).trans dk_j10) dk_vs2_0_15
theorem dX5_number_27 : decode cX5_number 27 = .ok (.iload 4, 2) := dk_21 ((dQ_X5_number_1 11).trans dk_j11) ((dQ_X5_number_1 12).trans dk_j12) dk_vu1_4
theorem dX5_number_29 : decode cX5_number 29 = .ok (.iload_n 2, 1) := dk_28 ((dQ_X5_number_1 13).trans dk_j13)
theorem dX5_number_30 : decode cX5_number 30 = .ok (.if_icmp .gt 9, 3) := dk_163 ((dQ_X5_number_1 14).trans dk_j14) ((dQ_X5_number_1 15).trans dk_j15) ((dQ_X5_number_2 0).trans dk_j0) dk_vs2_0_9
theorem dX5_number_33 : decode cX5_number 33 = .ok (.iload 4, 2) := dk_21 ((dQ_X5_number_2 1).trans dk_j1) ((dQ_X5_number_2 2).trans dk_j2) dk_vu1_4
theorem dX5_number_35 : decode cX5_number 35 = .ok (.iload_n 3, 1) := dk_29 ((dQ_X5_number_2 3).trans dk_j3)
theorem dX5_number_36 : decode cX5_number 36 = .ok (.if_icmp .ne 8, 3) := dk_160 ((dQ_X5_number_2 4).trans dk_j4) ((dQ_X5_number_2 5).trans dk_j5) ((dQ_X5_number_2 6).trans dk_j6) dk_vs2_0_8
theorem dX5_number_39 : decode cX5_number 39 = .ok (.aload_n 0, 1) := dk_42 ((dQ_X5_number_2 7).trans dk_j7)
theorem dX5_number_40 : decode cX5_number 40 = .ok (.iconst 2, 1) := dk_5 ((dQ_X5_number_2 8).trans dk_j8)
theorem dX5_number_41 : decode cX5_number 41 = .ok (.invokevirtual 100, 3) := dk_182 ((dQ_X5_number_2 9).trans dk_j9) ((dQ_X5_number_2 10).trans dk_j10) ((dQ_X5_number_2 11).trans dk_j11) dk_vu2_0_100
theorem dX5_number_44 : decode cX5_number 44 = .ok (.aload_n 0, 1) := dk_42 ((dQ_X5_number_2 12).trans dk_j12)
theorem dX5_number_45 : decode cX5_number 45 = .ok (.invokevirtual 37, 3) := dk_182 ((dQ_X5_number_2 13).trans dk_j13) ((dQ_X5_number_2 14).trans dk_j14) ((dQ_X5_number_2 15).trans dk_j15) dk_vu2_0_37
theorem dX5_number_48 : decode cX5_number 48 = .ok (.iload 4, 2) := dk_21 ((dQ_X5_number_3 0).trans dk_j0) ((dQ_X5_number_3 1).trans dk_j1) dk_vu1_4
theorem dX5_number_50 : decode cX5_number 50 = .ok (.ireturn, 1) := dk_172 ((dQ_X5_number_3 2).trans dk_j2)
def dT_X5_value_2 : List UInt8 := (0x00 : UInt8) :: (0x86 : UInt8) :: (0x3c : UInt8) :: (0x84 : UInt8) :: (0x02 : UInt8) :: (0x01 : UInt8) :: (0xa7 : UInt8) :: (0xff : UInt8) :: (0xe1 : UInt8) :: (0x1b : UInt8) :: (0xac : UInt8) :: []
def dT_X5_value_1 : List UInt8 := (0x85 : UInt8) :: (0x10 : UInt8) :: (0x0a : UInt8) :: (0x1b : UInt8) :: (0x68 : UInt8) :: (0x2a : UInt8) :: (0xb4 : UInt8) :: (0x00 : UInt8) :: (0x09 : UInt8) :: (0x1c : UInt8) :: (0x2e : UInt8) :: (0x60 : UInt8) :: (0x10 : UInt8) :: (0x30 : UInt8) :: (0x64 : UInt8) :: (0xb8 : UInt8) :: dT_X5_value_2
def dT_X5_value_0 : List UInt8 := (0x03 : UInt8) :: (0x3c : UInt8) :: (0x2a : UInt8) :: (0xb4 : UInt8) :: (0x00 : UInt8) :: (0x83 : UInt8) :: (0x3d : UInt8) :: (0x1c : UInt8) :: (0x2a : UInt8) :: (0xb4 : UInt8) :: (0x00 : UInt8) :: (0x22 : UInt8) :: (0xa2 : UInt8) :: (0x00 : UInt8) :: (0x1d : UInt8) :: (0x12 : UInt8) :: dT_X5_value_1
theorem dT_X5_value : cX5_value.data.toList = dT_X5_value_0 := eq_of_beq (show (cX5_value.data.toList == dT_X5_value_0) = true by decide +kernel)
theorem dQ_X5_value_0 : dQ_P cX5_value 0 dT_X5_value_0 := fun i => by rw [dT_X5_value]; rfl
theorem dQ_X5_value_1 : dQ_P cX5_value 16 dT_X5_value_1 := fun i => (dQ_X5_value_0 (i + 16)).trans dk_t
theorem dQ_X5_value_2 : dQ_P cX5_value 32 dT_X5_value_2 := fun i => (dQ_X5_value_1 (i + 16)).trans dk_t
theorem dX5_value_0 : decode cX5_value 0 = .ok (.iconst 0, 1) := dk_3 ((dQ_X5_value_0 0).trans dk_j0)
theorem dX5_value_1 : decode cX5_value 1 = .ok (.istore_n 1, 1) := dk_60 ((dQ_X5_value_0 1).trans dk_j1)
theorem dX5_value_2 : decode cX5_value 2 = .ok (.aload_n 0, 1) := dk_42 ((dQ_X5_value_0 2).trans dk_j2)
theorem dX5_value_3 : decode cX5_value 3 = .ok (.getfield 131, 3) := dk_180 ((dQ_X5_value_0 3).trans dk_j3) ((dQ_X5_value_0 4).trans dk_j4) ((dQ_X5_value_0 5).trans dk_j5) dk_vu2_0_131
theorem dX5_value_6 : decode cX5_value 6 = .ok (.istore_n 2, 1) := dk_61 ((dQ_X5_value_0 6).trans dk_j6)
theorem dX5_value_7 : decode cX5_value 7 = .ok (.iload_n 2, 1) := dk_28 ((dQ_X5_value_0 7).trans dk_j7)
theorem dX5_value_8 : decode cX5_value 8 = .ok (.aload_n 0, 1) := dk_42 ((dQ_X5_value_0 8).trans dk_j8)
theorem dX5_value_9 : decode cX5_value 9 = .ok (.getfield 34, 3) := dk_180 ((dQ_X5_value_0 9).trans dk_j9) ((dQ_X5_value_0 10).trans dk_j10) ((dQ_X5_value_0 11).trans dk_j11) dk_vu2_0_34
theorem dX5_value_12 : decode cX5_value 12 = .ok (.if_icmp .ge 29, 3) := dk_162 ((dQ_X5_value_0 12).trans dk_j12) ((dQ_X5_value_0 13).trans dk_j13) ((dQ_X5_value_0 14).trans dk_j14) dk_vs2_0_29
theorem dk_vu1_133 : (0x85 : UInt8).toNat = (133 : Nat) := by decide +kernel
theorem dX5_value_15 : decode cX5_value 15 = .ok (.ldc 133, 2) := dk_18 ((dQ_X5_value_0 15).trans dk_j15) ((dQ_X5_value_1 0).trans dk_j0) dk_vu1_133
theorem dX5_value_17 : decode cX5_value 17 = .ok (.bipush 10, 2) := dk_16 ((dQ_X5_value_1 1).trans dk_j1) ((dQ_X5_value_1 2).trans dk_j2) dk_vs1_10
theorem dX5_value_19 : decode cX5_value 19 = .ok (.iload_n 1, 1) := dk_27 ((dQ_X5_value_1 3).trans dk_j3)
theorem dX5_value_20 : decode cX5_value 20 = .ok (.imul, 1) := dk_104 ((dQ_X5_value_1 4).trans dk_j4)
theorem dX5_value_21 : decode cX5_value 21 = .ok (.aload_n 0, 1) := dk_42 ((dQ_X5_value_1 5).trans dk_j5)
theorem dX5_value_22 : decode cX5_value 22 = .ok (.getfield 9, 3) := dk_180 ((dQ_X5_value_1 6).trans dk_j6) ((dQ_X5_value_1 7).trans dk_j7) ((dQ_X5_value_1 8).trans dk_j8) dk_vu2_0_9
theorem dX5_value_25 : decode cX5_value 25 = .ok (.iload_n 2, 1) := dk_28 ((dQ_X5_value_1 9).trans dk_j9)
theorem dX5_value_26 : decode cX5_value 26 = .ok (.iaload, 1) := dk_46 ((dQ_X5_value_1 10).trans dk_j10)
theorem dX5_value_27 : decode cX5_value 27 = .ok (.iadd, 1) := dk_96 ((dQ_X5_value_1 11).trans dk_j11)
theorem dX5_value_28 : decode cX5_value 28 = .ok (.bipush 48, 2) := dk_16 ((dQ_X5_value_1 12).trans dk_j12) ((dQ_X5_value_1 13).trans dk_j13) dk_vs1_48
theorem dX5_value_30 : decode cX5_value 30 = .ok (.isub, 1) := dk_100 ((dQ_X5_value_1 14).trans dk_j14)
theorem dX5_value_31 : decode cX5_value 31 = .ok (.invokestatic 134, 3) := dk_184 ((dQ_X5_value_1 15).trans dk_j15) ((dQ_X5_value_2 0).trans dk_j0) ((dQ_X5_value_2 1).trans dk_j1) dk_vu2_0_134
theorem dX5_value_34 : decode cX5_value 34 = .ok (.istore_n 1, 1) := dk_60 ((dQ_X5_value_2 2).trans dk_j2)
theorem dX5_value_35 : decode cX5_value 35 = .ok (.iinc 2 1, 3) := dk_132 ((dQ_X5_value_2 3).trans dk_j3) ((dQ_X5_value_2 4).trans dk_j4) ((dQ_X5_value_2 5).trans dk_j5) dk_vu1_2 dk_vs1_1
theorem dX5_value_38 : decode cX5_value 38 = .ok (.goto (-31), 3) := dk_167 ((dQ_X5_value_2 6).trans dk_j6) ((dQ_X5_value_2 7).trans dk_j7) ((dQ_X5_value_2 8).trans dk_j8) dk_vs2_255_225
theorem dX5_value_41 : decode cX5_value 41 = .ok (.iload_n 1, 1) := dk_27 ((dQ_X5_value_2 9).trans dk_j9)
theorem dX5_value_42 : decode cX5_value 42 = .ok (.ireturn, 1) := dk_172 ((dQ_X5_value_2 10).trans dk_j10)
def dT_X5_isWord_4 : List UInt8 := (0xff : UInt8) :: (0xe0 : UInt8) :: (0x04 : UInt8) :: (0xac : UInt8) :: []
def dT_X5_isWord_3 : List UInt8 := (0xb4 : UInt8) :: (0x00 : UInt8) :: (0x83 : UInt8) :: (0x64 : UInt8) :: (0xb6 : UInt8) :: (0x00 : UInt8) :: (0x90 : UInt8) :: (0x9f : UInt8) :: (0x00 : UInt8) :: (0x05 : UInt8) :: (0x03 : UInt8) :: (0xac : UInt8) :: (0x84 : UInt8) :: (0x02 : UInt8) :: (0x01 : UInt8) :: (0xa7 : UInt8) :: dT_X5_isWord_4
def dT_X5_isWord_2 : List UInt8 := (0x2a : UInt8) :: (0xb4 : UInt8) :: (0x00 : UInt8) :: (0x22 : UInt8) :: (0xa2 : UInt8) :: (0x00 : UInt8) :: (0x1e : UInt8) :: (0x2a : UInt8) :: (0xb4 : UInt8) :: (0x00 : UInt8) :: (0x09 : UInt8) :: (0x1c : UInt8) :: (0x2e : UInt8) :: (0x2b : UInt8) :: (0x1c : UInt8) :: (0x2a : UInt8) :: dT_X5_isWord_3
def dT_X5_isWord_1 : List UInt8 := (0x64 : UInt8) :: (0x2b : UInt8) :: (0xb6 : UInt8) :: (0x00 : UInt8) :: (0x8c : UInt8) :: (0x9f : UInt8) :: (0x00 : UInt8) :: (0x05 : UInt8) :: (0x03 : UInt8) :: (0xac : UInt8) :: (0x2a : UInt8) :: (0xb4 : UInt8) :: (0x00 : UInt8) :: (0x83 : UInt8) :: (0x3d : UInt8) :: (0x1c : UInt8) :: dT_X5_isWord_2
def dT_X5_isWord_0 : List UInt8 := (0x2a : UInt8) :: (0xb4 : UInt8) :: (0x00 : UInt8) :: (0x28 : UInt8) :: (0x04 : UInt8) :: (0xa0 : UInt8) :: (0x00 : UInt8) :: (0x13 : UInt8) :: (0x2a : UInt8) :: (0xb4 : UInt8) :: (0x00 : UInt8) :: (0x22 : UInt8) :: (0x2a : UInt8) :: (0xb4 : UInt8) :: (0x00 : UInt8) :: (0x83 : UInt8) :: dT_X5_isWord_1
theorem dT_X5_isWord : cX5_isWord.data.toList = dT_X5_isWord_0 := eq_of_beq (show (cX5_isWord.data.toList == dT_X5_isWord_0) = true by decide +kernel)
theorem dQ_X5_isWord_0 : dQ_P cX5_isWord 0 dT_X5_isWord_0 := fun i => by rw [dT_X5_isWord]; rfl
theorem dQ_X5_isWord_1 : dQ_P cX5_isWord 16 dT_X5_isWord_1 := fun i => (dQ_X5_isWord_0 (i + 16)).trans dk_t
theorem dQ_X5_isWord_2 : dQ_P cX5_isWord 32 dT_X5_isWord_2 := fun i => (dQ_X5_isWord_1 (i + 16)).trans dk_t
theorem dQ_X5_isWord_3 : dQ_P cX5_isWord 48 dT_X5_isWord_3 := fun i => (dQ_X5_isWord_2 (i + 16)).trans dk_t
theorem dQ_X5_isWord_4 : dQ_P cX5_isWord 64 dT_X5_isWord_4 := fun i => (dQ_X5_isWord_3 (i + 16)).trans dk_t
theorem dX5_isWord_0 : decode cX5_isWord 0 = .ok (.aload_n 0, 1) := dk_42 ((dQ_X5_isWord_0 0).trans dk_j0)
theorem dX5_isWord_1 : decode cX5_isWord 1 = .ok (.getfield 40, 3) := dk_180 ((dQ_X5_isWord_0 1).trans dk_j1) ((dQ_X5_isWord_0 2).trans dk_j2) ((dQ_X5_isWord_0 3).trans dk_j3) dk_vu2_0_40
theorem dX5_isWord_4 : decode cX5_isWord 4 = .ok (.iconst 1, 1) := dk_4 ((dQ_X5_isWord_0 4).trans dk_j4)
theorem dX5_isWord_5 : decode cX5_isWord 5 = .ok (.if_icmp .ne 19, 3) := dk_160 ((dQ_X5_isWord_0 5).trans dk_j5) ((dQ_X5_isWord_0 6).trans dk_j6) ((dQ_X5_isWord_0 7).trans dk_j7) dk_vs2_0_19
theorem dX5_isWord_8 : decode cX5_isWord 8 = .ok (.aload_n 0, 1) := dk_42 ((dQ_X5_isWord_0 8).trans dk_j8)
theorem dX5_isWord_9 : decode cX5_isWord 9 = .ok (.getfield 34, 3) := dk_180 ((dQ_X5_isWord_0 9).trans dk_j9) ((dQ_X5_isWord_0 10).trans dk_j10) ((dQ_X5_isWord_0 11).trans dk_j11) dk_vu2_0_34
theorem dX5_isWord_12 : decode cX5_isWord 12 = .ok (.aload_n 0, 1) := dk_42 ((dQ_X5_isWord_0 12).trans dk_j12)
theorem dX5_isWord_13 : decode cX5_isWord 13 = .ok (.getfield 131, 3) := dk_180 ((dQ_X5_isWord_0 13).trans dk_j13) ((dQ_X5_isWord_0 14).trans dk_j14) ((dQ_X5_isWord_0 15).trans dk_j15) dk_vu2_0_131
theorem dX5_isWord_16 : decode cX5_isWord 16 = .ok (.isub, 1) := dk_100 ((dQ_X5_isWord_1 0).trans dk_j0)
theorem dX5_isWord_17 : decode cX5_isWord 17 = .ok (.aload_n 1, 1) := dk_43 ((dQ_X5_isWord_1 1).trans dk_j1)
theorem dX5_isWord_18 : decode cX5_isWord 18 = .ok (.invokevirtual 140, 3) := dk_182 ((dQ_X5_isWord_1 2).trans dk_j2) ((dQ_X5_isWord_1 3).trans dk_j3) ((dQ_X5_isWord_1 4).trans dk_j4) dk_vu2_0_140
theorem dX5_isWord_21 : decode cX5_isWord 21 = .ok (.if_icmp .eq 5, 3) := dk_159 ((dQ_X5_isWord_1 5).trans dk_j5) ((dQ_X5_isWord_1 6).trans dk_j6) ((dQ_X5_isWord_1 7).trans dk_j7) dk_vs2_0_5
theorem dX5_isWord_24 : decode cX5_isWord 24 = .ok (.iconst 0, 1) := dk_3 ((dQ_X5_isWord_1 8).trans dk_j8)
theorem dX5_isWord_25 : decode cX5_isWord 25 = .ok (.ireturn, 1) := dk_172 ((dQ_X5_isWord_1 9).trans dk_j9)
theorem dX5_isWord_26 : decode cX5_isWord 26 = .ok (.aload_n 0, 1) := dk_42 ((dQ_X5_isWord_1 10).trans dk_j10)
theorem dX5_isWord_27 : decode cX5_isWord 27 = .ok (.getfield 131, 3) := dk_180 ((dQ_X5_isWord_1 11).trans dk_j11) ((dQ_X5_isWord_1 12).trans dk_j12) ((dQ_X5_isWord_1 13).trans dk_j13) dk_vu2_0_131
theorem dX5_isWord_30 : decode cX5_isWord 30 = .ok (.istore_n 2, 1) := dk_61 ((dQ_X5_isWord_1 14).trans dk_j14)
theorem dX5_isWord_31 : decode cX5_isWord 31 = .ok (.iload_n 2, 1) := dk_28 ((dQ_X5_isWord_1 15).trans dk_j15)
theorem dX5_isWord_32 : decode cX5_isWord 32 = .ok (.aload_n 0, 1) := dk_42 ((dQ_X5_isWord_2 0).trans dk_j0)
theorem dX5_isWord_33 : decode cX5_isWord 33 = .ok (.getfield 34, 3) := dk_180 ((dQ_X5_isWord_2 1).trans dk_j1) ((dQ_X5_isWord_2 2).trans dk_j2) ((dQ_X5_isWord_2 3).trans dk_j3) dk_vu2_0_34
theorem dX5_isWord_36 : decode cX5_isWord 36 = .ok (.if_icmp .ge 30, 3) := dk_162 ((dQ_X5_isWord_2 4).trans dk_j4) ((dQ_X5_isWord_2 5).trans dk_j5) ((dQ_X5_isWord_2 6).trans dk_j6) dk_vs2_0_30
theorem dX5_isWord_39 : decode cX5_isWord 39 = .ok (.aload_n 0, 1) := dk_42 ((dQ_X5_isWord_2 7).trans dk_j7)
theorem dX5_isWord_40 : decode cX5_isWord 40 = .ok (.getfield 9, 3) := dk_180 ((dQ_X5_isWord_2 8).trans dk_j8) ((dQ_X5_isWord_2 9).trans dk_j9) ((dQ_X5_isWord_2 10).trans dk_j10) dk_vu2_0_9
theorem dX5_isWord_43 : decode cX5_isWord 43 = .ok (.iload_n 2, 1) := dk_28 ((dQ_X5_isWord_2 11).trans dk_j11)
theorem dX5_isWord_44 : decode cX5_isWord 44 = .ok (.iaload, 1) := dk_46 ((dQ_X5_isWord_2 12).trans dk_j12)
theorem dX5_isWord_45 : decode cX5_isWord 45 = .ok (.aload_n 1, 1) := dk_43 ((dQ_X5_isWord_2 13).trans dk_j13)
theorem dX5_isWord_46 : decode cX5_isWord 46 = .ok (.iload_n 2, 1) := dk_28 ((dQ_X5_isWord_2 14).trans dk_j14)
theorem dX5_isWord_47 : decode cX5_isWord 47 = .ok (.aload_n 0, 1) := dk_42 ((dQ_X5_isWord_2 15).trans dk_j15)
theorem dX5_isWord_48 : decode cX5_isWord 48 = .ok (.getfield 131, 3) := dk_180 ((dQ_X5_isWord_3 0).trans dk_j0) ((dQ_X5_isWord_3 1).trans dk_j1) ((dQ_X5_isWord_3 2).trans dk_j2) dk_vu2_0_131
theorem dX5_isWord_51 : decode cX5_isWord 51 = .ok (.isub, 1) := dk_100 ((dQ_X5_isWord_3 3).trans dk_j3)
theorem dX5_isWord_52 : decode cX5_isWord 52 = .ok (.invokevirtual 144, 3) := dk_182 ((dQ_X5_isWord_3 4).trans dk_j4) ((dQ_X5_isWord_3 5).trans dk_j5) ((dQ_X5_isWord_3 6).trans dk_j6) dk_vu2_0_144
theorem dX5_isWord_55 : decode cX5_isWord 55 = .ok (.if_icmp .eq 5, 3) := dk_159 ((dQ_X5_isWord_3 7).trans dk_j7) ((dQ_X5_isWord_3 8).trans dk_j8) ((dQ_X5_isWord_3 9).trans dk_j9) dk_vs2_0_5
theorem dX5_isWord_58 : decode cX5_isWord 58 = .ok (.iconst 0, 1) := dk_3 ((dQ_X5_isWord_3 10).trans dk_j10)
theorem dX5_isWord_59 : decode cX5_isWord 59 = .ok (.ireturn, 1) := dk_172 ((dQ_X5_isWord_3 11).trans dk_j11)
theorem dX5_isWord_60 : decode cX5_isWord 60 = .ok (.iinc 2 1, 3) := dk_132 ((dQ_X5_isWord_3 12).trans dk_j12) ((dQ_X5_isWord_3 13).trans dk_j13) ((dQ_X5_isWord_3 14).trans dk_j14) dk_vu1_2 dk_vs1_1
theorem dX5_isWord_63 : decode cX5_isWord 63 = .ok (.goto (-32), 3) := dk_167 ((dQ_X5_isWord_3 15).trans dk_j15) ((dQ_X5_isWord_4 0).trans dk_j0) ((dQ_X5_isWord_4 1).trans dk_j1) dk_vs2_255_224
theorem dX5_isWord_66 : decode cX5_isWord 66 = .ok (.iconst 1, 1) := dk_4 ((dQ_X5_isWord_4 2).trans dk_j2)
theorem dX5_isWord_67 : decode cX5_isWord 67 = .ok (.ireturn, 1) := dk_172 ((dQ_X5_isWord_4 3).trans dk_j3)
def dT_X5_blame_1 : List UInt8 := (0x83 : UInt8) :: (0xb5 : UInt8) :: (0x00 : UInt8) :: (0x0f : UInt8) :: (0xb1 : UInt8) :: []
def dT_X5_blame_0 : List UInt8 := (0x2a : UInt8) :: (0xb4 : UInt8) :: (0x00 : UInt8) :: (0x1f : UInt8) :: (0x9a : UInt8) :: (0x00 : UInt8) :: (0x10 : UInt8) :: (0x2a : UInt8) :: (0x1b : UInt8) :: (0xb5 : UInt8) :: (0x00 : UInt8) :: (0x1f : UInt8) :: (0x2a : UInt8) :: (0x2a : UInt8) :: (0xb4 : UInt8) :: (0x00 : UInt8) :: dT_X5_blame_1
theorem dT_X5_blame : cX5_blame.data.toList = dT_X5_blame_0 := eq_of_beq (show (cX5_blame.data.toList == dT_X5_blame_0) = true by decide +kernel)
theorem dQ_X5_blame_0 : dQ_P cX5_blame 0 dT_X5_blame_0 := fun i => by rw [dT_X5_blame]; rfl
theorem dQ_X5_blame_1 : dQ_P cX5_blame 16 dT_X5_blame_1 := fun i => (dQ_X5_blame_0 (i + 16)).trans dk_t
theorem dX5_blame_0 : decode cX5_blame 0 = .ok (.aload_n 0, 1) := dk_42 ((dQ_X5_blame_0 0).trans dk_j0)
theorem dX5_blame_1 : decode cX5_blame 1 = .ok (.getfield 31, 3) := dk_180 ((dQ_X5_blame_0 1).trans dk_j1) ((dQ_X5_blame_0 2).trans dk_j2) ((dQ_X5_blame_0 3).trans dk_j3) dk_vu2_0_31
theorem dX5_blame_4 : decode cX5_blame 4 = .ok (.ifCond .ne 16, 3) := dk_154 ((dQ_X5_blame_0 4).trans dk_j4) ((dQ_X5_blame_0 5).trans dk_j5) ((dQ_X5_blame_0 6).trans dk_j6) dk_vs2_0_16
theorem dX5_blame_7 : decode cX5_blame 7 = .ok (.aload_n 0, 1) := dk_42 ((dQ_X5_blame_0 7).trans dk_j7)
theorem dX5_blame_8 : decode cX5_blame 8 = .ok (.iload_n 1, 1) := dk_27 ((dQ_X5_blame_0 8).trans dk_j8)
theorem dX5_blame_9 : decode cX5_blame 9 = .ok (.putfield 31, 3) := dk_181 ((dQ_X5_blame_0 9).trans dk_j9) ((dQ_X5_blame_0 10).trans dk_j10) ((dQ_X5_blame_0 11).trans dk_j11) dk_vu2_0_31
theorem dX5_blame_12 : decode cX5_blame 12 = .ok (.aload_n 0, 1) := dk_42 ((dQ_X5_blame_0 12).trans dk_j12)
theorem dX5_blame_13 : decode cX5_blame 13 = .ok (.aload_n 0, 1) := dk_42 ((dQ_X5_blame_0 13).trans dk_j13)
theorem dX5_blame_14 : decode cX5_blame 14 = .ok (.getfield 131, 3) := dk_180 ((dQ_X5_blame_0 14).trans dk_j14) ((dQ_X5_blame_0 15).trans dk_j15) ((dQ_X5_blame_1 0).trans dk_j0) dk_vu2_0_131
theorem dX5_blame_17 : decode cX5_blame 17 = .ok (.putfield 15, 3) := dk_181 ((dQ_X5_blame_1 1).trans dk_j1) ((dQ_X5_blame_1 2).trans dk_j2) ((dQ_X5_blame_1 3).trans dk_j3) dk_vu2_0_15
theorem dX5_blame_20 : decode cX5_blame 20 = .ok (.return_, 1) := dk_177 ((dQ_X5_blame_1 4).trans dk_j4)
def dT_X5_step_8 : List UInt8 := (0xb1 : UInt8) :: []
def dT_X5_step_7 : List UInt8 := (0xa0 : UInt8) :: (0x00 : UInt8) :: (0x10 : UInt8) :: (0x2a : UInt8) :: (0x59 : UInt8) :: (0xb4 : UInt8) :: (0x00 : UInt8) :: (0x22 : UInt8) :: (0x04 : UInt8) :: (0x60 : UInt8) :: (0xb5 : UInt8) :: (0x00 : UInt8) :: (0x22 : UInt8) :: (0xa7 : UInt8) :: (0xff : UInt8) :: (0xcc : UInt8) :: dT_X5_step_8
def dT_X5_step_6 : List UInt8 := (0x13 : UInt8) :: (0xa2 : UInt8) :: (0x00 : UInt8) :: (0x1f : UInt8) :: (0x2a : UInt8) :: (0x2a : UInt8) :: (0xb4 : UInt8) :: (0x00 : UInt8) :: (0x22 : UInt8) :: (0xb6 : UInt8) :: (0x00 : UInt8) :: (0x94 : UInt8) :: (0x2a : UInt8) :: (0xb4 : UInt8) :: (0x00 : UInt8) :: (0x28 : UInt8) :: dT_X5_step_7
def dT_X5_step_5 : List UInt8 := (0x0b : UInt8) :: (0x2a : UInt8) :: (0xb4 : UInt8) :: (0x00 : UInt8) :: (0x28 : UInt8) :: (0x05 : UInt8) :: (0xa0 : UInt8) :: (0x00 : UInt8) :: (0x2a : UInt8) :: (0x2a : UInt8) :: (0xb4 : UInt8) :: (0x00 : UInt8) :: (0x22 : UInt8) :: (0x2a : UInt8) :: (0xb4 : UInt8) :: (0x00 : UInt8) :: dT_X5_step_6
def dT_X5_step_4 : List UInt8 := (0xb4 : UInt8) :: (0x00 : UInt8) :: (0x13 : UInt8) :: (0xb8 : UInt8) :: (0x00 : UInt8) :: (0x86 : UInt8) :: (0xb5 : UInt8) :: (0x00 : UInt8) :: (0x22 : UInt8) :: (0x2a : UInt8) :: (0xb4 : UInt8) :: (0x00 : UInt8) :: (0x28 : UInt8) :: (0x04 : UInt8) :: (0x9f : UInt8) :: (0x00 : UInt8) :: dT_X5_step_5
def dT_X5_step_3 : List UInt8 := (0x00 : UInt8) :: (0x83 : UInt8) :: (0xb6 : UInt8) :: (0x00 : UInt8) :: (0x94 : UInt8) :: (0xb5 : UInt8) :: (0x00 : UInt8) :: (0x28 : UInt8) :: (0x2a : UInt8) :: (0x2a : UInt8) :: (0xb4 : UInt8) :: (0x00 : UInt8) :: (0x83 : UInt8) :: (0x04 : UInt8) :: (0x60 : UInt8) :: (0x2a : UInt8) :: dT_X5_step_4
def dT_X5_step_2 : List UInt8 := (0x59 : UInt8) :: (0xb4 : UInt8) :: (0x00 : UInt8) :: (0x83 : UInt8) :: (0x04 : UInt8) :: (0x60 : UInt8) :: (0xb5 : UInt8) :: (0x00 : UInt8) :: (0x83 : UInt8) :: (0xa7 : UInt8) :: (0xff : UInt8) :: (0xdf : UInt8) :: (0x2a : UInt8) :: (0x2a : UInt8) :: (0x2a : UInt8) :: (0xb4 : UInt8) :: dT_X5_step_3
def dT_X5_step_1 : List UInt8 := (0xa2 : UInt8) :: (0x00 : UInt8) :: (0x1c : UInt8) :: (0x2a : UInt8) :: (0x2a : UInt8) :: (0xb4 : UInt8) :: (0x00 : UInt8) :: (0x83 : UInt8) :: (0xb6 : UInt8) :: (0x00 : UInt8) :: (0x94 : UInt8) :: (0x07 : UInt8) :: (0xa0 : UInt8) :: (0x00 : UInt8) :: (0x10 : UInt8) :: (0x2a : UInt8) :: dT_X5_step_2
def dT_X5_step_0 : List UInt8 := (0x2a : UInt8) :: (0x2a : UInt8) :: (0xb4 : UInt8) :: (0x00 : UInt8) :: (0x22 : UInt8) :: (0xb5 : UInt8) :: (0x00 : UInt8) :: (0x83 : UInt8) :: (0x2a : UInt8) :: (0xb4 : UInt8) :: (0x00 : UInt8) :: (0x83 : UInt8) :: (0x2a : UInt8) :: (0xb4 : UInt8) :: (0x00 : UInt8) :: (0x13 : UInt8) :: dT_X5_step_1
theorem dT_X5_step : cX5_step.data.toList = dT_X5_step_0 := eq_of_beq (show (cX5_step.data.toList == dT_X5_step_0) = true by decide +kernel)
theorem dQ_X5_step_0 : dQ_P cX5_step 0 dT_X5_step_0 := fun i => by rw [dT_X5_step]; rfl
theorem dQ_X5_step_1 : dQ_P cX5_step 16 dT_X5_step_1 := fun i => (dQ_X5_step_0 (i + 16)).trans dk_t
theorem dQ_X5_step_2 : dQ_P cX5_step 32 dT_X5_step_2 := fun i => (dQ_X5_step_1 (i + 16)).trans dk_t
theorem dQ_X5_step_3 : dQ_P cX5_step 48 dT_X5_step_3 := fun i => (dQ_X5_step_2 (i + 16)).trans dk_t
theorem dQ_X5_step_4 : dQ_P cX5_step 64 dT_X5_step_4 := fun i => (dQ_X5_step_3 (i + 16)).trans dk_t
theorem dQ_X5_step_5 : dQ_P cX5_step 80 dT_X5_step_5 := fun i => (dQ_X5_step_4 (i + 16)).trans dk_t
theorem dQ_X5_step_6 : dQ_P cX5_step 96 dT_X5_step_6 := fun i => (dQ_X5_step_5 (i + 16)).trans dk_t
theorem dQ_X5_step_7 : dQ_P cX5_step 112 dT_X5_step_7 := fun i => (dQ_X5_step_6 (i + 16)).trans dk_t
theorem dQ_X5_step_8 : dQ_P cX5_step 128 dT_X5_step_8 := fun i => (dQ_X5_step_7 (i + 16)).trans dk_t
theorem dX5_step_0 : decode cX5_step 0 = .ok (.aload_n 0, 1) := dk_42 ((dQ_X5_step_0 0).trans dk_j0)
theorem dX5_step_1 : decode cX5_step 1 = .ok (.aload_n 0, 1) := dk_42 ((dQ_X5_step_0 1).trans dk_j1)
theorem dX5_step_2 : decode cX5_step 2 = .ok (.getfield 34, 3) := dk_180 ((dQ_X5_step_0 2).trans dk_j2) ((dQ_X5_step_0 3).trans dk_j3) ((dQ_X5_step_0 4).trans dk_j4) dk_vu2_0_34
theorem dX5_step_5 : decode cX5_step 5 = .ok (.putfield 131, 3) := dk_181 ((dQ_X5_step_0 5).trans dk_j5) ((dQ_X5_step_0 6).trans dk_j6) ((dQ_X5_step_0 7).trans dk_j7) dk_vu2_0_131
theorem dX5_step_8 : decode cX5_step 8 = .ok (.aload_n 0, 1) := dk_42 ((dQ_X5_step_0 8).trans dk_j8)
theorem dX5_step_9 : decode cX5_step 9 = .ok (.getfield 131, 3) := dk_180 ((dQ_X5_step_0 9).trans dk_j9) ((dQ_X5_step_0 10).trans dk_j10) ((dQ_X5_step_0 11).trans dk_j11) dk_vu2_0_131
theorem dX5_step_12 : decode cX5_step 12 = .ok (.aload_n 0, 1) := dk_42 ((dQ_X5_step_0 12).trans dk_j12)
theorem dX5_step_13 : decode cX5_step 13 = .ok (.getfield 19, 3) := dk_180 ((dQ_X5_step_0 13).trans dk_j13) ((dQ_X5_step_0 14).trans dk_j14) ((dQ_X5_step_0 15).trans dk_j15) dk_vu2_0_19
theorem dX5_step_16 : decode cX5_step 16 = .ok (.if_icmp .ge 28, 3) := dk_162 ((dQ_X5_step_1 0).trans dk_j0) ((dQ_X5_step_1 1).trans dk_j1) ((dQ_X5_step_1 2).trans dk_j2) dk_vs2_0_28
theorem dX5_step_19 : decode cX5_step 19 = .ok (.aload_n 0, 1) := dk_42 ((dQ_X5_step_1 3).trans dk_j3)
theorem dX5_step_20 : decode cX5_step 20 = .ok (.aload_n 0, 1) := dk_42 ((dQ_X5_step_1 4).trans dk_j4)
theorem dX5_step_21 : decode cX5_step 21 = .ok (.getfield 131, 3) := dk_180 ((dQ_X5_step_1 5).trans dk_j5) ((dQ_X5_step_1 6).trans dk_j6) ((dQ_X5_step_1 7).trans dk_j7) dk_vu2_0_131
theorem dX5_step_24 : decode cX5_step 24 = .ok (.invokevirtual 148, 3) := dk_182 ((dQ_X5_step_1 8).trans dk_j8) ((dQ_X5_step_1 9).trans dk_j9) ((dQ_X5_step_1 10).trans dk_j10) dk_vu2_0_148
theorem dX5_step_27 : decode cX5_step 27 = .ok (.iconst 4, 1) := dk_7 ((dQ_X5_step_1 11).trans dk_j11)
theorem dX5_step_28 : decode cX5_step 28 = .ok (.if_icmp .ne 16, 3) := dk_160 ((dQ_X5_step_1 12).trans dk_j12) ((dQ_X5_step_1 13).trans dk_j13) ((dQ_X5_step_1 14).trans dk_j14) dk_vs2_0_16
theorem dX5_step_31 : decode cX5_step 31 = .ok (.aload_n 0, 1) := dk_42 ((dQ_X5_step_1 15).trans dk_j15)
theorem dX5_step_32 : decode cX5_step 32 = .ok (.dup, 1) := dk_89 ((dQ_X5_step_2 0).trans dk_j0)
theorem dX5_step_33 : decode cX5_step 33 = .ok (.getfield 131, 3) := dk_180 ((dQ_X5_step_2 1).trans dk_j1) ((dQ_X5_step_2 2).trans dk_j2) ((dQ_X5_step_2 3).trans dk_j3) dk_vu2_0_131
theorem dX5_step_36 : decode cX5_step 36 = .ok (.iconst 1, 1) := dk_4 ((dQ_X5_step_2 4).trans dk_j4)
theorem dX5_step_37 : decode cX5_step 37 = .ok (.iadd, 1) := dk_96 ((dQ_X5_step_2 5).trans dk_j5)
theorem dX5_step_38 : decode cX5_step 38 = .ok (.putfield 131, 3) := dk_181 ((dQ_X5_step_2 6).trans dk_j6) ((dQ_X5_step_2 7).trans dk_j7) ((dQ_X5_step_2 8).trans dk_j8) dk_vu2_0_131
theorem dk_vs2_255_223 : Reader.signed 16 ((0xff : UInt8).toNat * 256 + (0xdf : UInt8).toNat) = (-33 : Int) := by decide +kernel
theorem dX5_step_41 : decode cX5_step 41 = .ok (.goto (-33), 3) := dk_167 ((dQ_X5_step_2 9).trans dk_j9) ((dQ_X5_step_2 10).trans dk_j10) ((dQ_X5_step_2 11).trans dk_j11) dk_vs2_255_223
theorem dX5_step_44 : decode cX5_step 44 = .ok (.aload_n 0, 1) := dk_42 ((dQ_X5_step_2 12).trans dk_j12)
theorem dX5_step_45 : decode cX5_step 45 = .ok (.aload_n 0, 1) := dk_42 ((dQ_X5_step_2 13).trans dk_j13)
theorem dX5_step_46 : decode cX5_step 46 = .ok (.aload_n 0, 1) := dk_42 ((dQ_X5_step_2 14).trans dk_j14)
theorem dX5_step_47 : decode cX5_step 47 = .ok (.getfield 131, 3) := dk_180 ((dQ_X5_step_2 15).trans dk_j15) ((dQ_X5_step_3 0).trans dk_j0) ((dQ_X5_step_3 1).trans dk_j1) dk_vu2_0_131
theorem dX5_step_50 : decode cX5_step 50 = .ok (.invokevirtual 148, 3) := dk_182 ((dQ_X5_step_3 2).trans dk_j2) ((dQ_X5_step_3 3).trans dk_j3) ((dQ_X5_step_3 4).trans dk_j4) dk_vu2_0_148
theorem dX5_step_53 : decode cX5_step 53 = .ok (.putfield 40, 3) := dk_181 ((dQ_X5_step_3 5).trans dk_j5) ((dQ_X5_step_3 6).trans dk_j6) ((dQ_X5_step_3 7).trans dk_j7) dk_vu2_0_40
theorem dX5_step_56 : decode cX5_step 56 = .ok (.aload_n 0, 1) := dk_42 ((dQ_X5_step_3 8).trans dk_j8)
theorem dX5_step_57 : decode cX5_step 57 = .ok (.aload_n 0, 1) := dk_42 ((dQ_X5_step_3 9).trans dk_j9)
theorem dX5_step_58 : decode cX5_step 58 = .ok (.getfield 131, 3) := dk_180 ((dQ_X5_step_3 10).trans dk_j10) ((dQ_X5_step_3 11).trans dk_j11) ((dQ_X5_step_3 12).trans dk_j12) dk_vu2_0_131
theorem dX5_step_61 : decode cX5_step 61 = .ok (.iconst 1, 1) := dk_4 ((dQ_X5_step_3 13).trans dk_j13)
theorem dX5_step_62 : decode cX5_step 62 = .ok (.iadd, 1) := dk_96 ((dQ_X5_step_3 14).trans dk_j14)
theorem dX5_step_63 : decode cX5_step 63 = .ok (.aload_n 0, 1) := dk_42 ((dQ_X5_step_3 15).trans dk_j15)
theorem dX5_step_64 : decode cX5_step 64 = .ok (.getfield 19, 3) := dk_180 ((dQ_X5_step_4 0).trans dk_j0) ((dQ_X5_step_4 1).trans dk_j1) ((dQ_X5_step_4 2).trans dk_j2) dk_vu2_0_19
theorem dX5_step_67 : decode cX5_step 67 = .ok (.invokestatic 134, 3) := dk_184 ((dQ_X5_step_4 3).trans dk_j3) ((dQ_X5_step_4 4).trans dk_j4) ((dQ_X5_step_4 5).trans dk_j5) dk_vu2_0_134
theorem dX5_step_70 : decode cX5_step 70 = .ok (.putfield 34, 3) := dk_181 ((dQ_X5_step_4 6).trans dk_j6) ((dQ_X5_step_4 7).trans dk_j7) ((dQ_X5_step_4 8).trans dk_j8) dk_vu2_0_34
theorem dX5_step_73 : decode cX5_step 73 = .ok (.aload_n 0, 1) := dk_42 ((dQ_X5_step_4 9).trans dk_j9)
theorem dX5_step_74 : decode cX5_step 74 = .ok (.getfield 40, 3) := dk_180 ((dQ_X5_step_4 10).trans dk_j10) ((dQ_X5_step_4 11).trans dk_j11) ((dQ_X5_step_4 12).trans dk_j12) dk_vu2_0_40
theorem dX5_step_77 : decode cX5_step 77 = .ok (.iconst 1, 1) := dk_4 ((dQ_X5_step_4 13).trans dk_j13)
theorem dX5_step_78 : decode cX5_step 78 = .ok (.if_icmp .eq 11, 3) := dk_159 ((dQ_X5_step_4 14).trans dk_j14) ((dQ_X5_step_4 15).trans dk_j15) ((dQ_X5_step_5 0).trans dk_j0) dk_vs2_0_11
theorem dX5_step_81 : decode cX5_step 81 = .ok (.aload_n 0, 1) := dk_42 ((dQ_X5_step_5 1).trans dk_j1)
theorem dX5_step_82 : decode cX5_step 82 = .ok (.getfield 40, 3) := dk_180 ((dQ_X5_step_5 2).trans dk_j2) ((dQ_X5_step_5 3).trans dk_j3) ((dQ_X5_step_5 4).trans dk_j4) dk_vu2_0_40
theorem dX5_step_85 : decode cX5_step 85 = .ok (.iconst 2, 1) := dk_5 ((dQ_X5_step_5 5).trans dk_j5)
theorem dX5_step_86 : decode cX5_step 86 = .ok (.if_icmp .ne 42, 3) := dk_160 ((dQ_X5_step_5 6).trans dk_j6) ((dQ_X5_step_5 7).trans dk_j7) ((dQ_X5_step_5 8).trans dk_j8) dk_vs2_0_42
theorem dX5_step_89 : decode cX5_step 89 = .ok (.aload_n 0, 1) := dk_42 ((dQ_X5_step_5 9).trans dk_j9)
theorem dX5_step_90 : decode cX5_step 90 = .ok (.getfield 34, 3) := dk_180 ((dQ_X5_step_5 10).trans dk_j10) ((dQ_X5_step_5 11).trans dk_j11) ((dQ_X5_step_5 12).trans dk_j12) dk_vu2_0_34
theorem dX5_step_93 : decode cX5_step 93 = .ok (.aload_n 0, 1) := dk_42 ((dQ_X5_step_5 13).trans dk_j13)
theorem dX5_step_94 : decode cX5_step 94 = .ok (.getfield 19, 3) := dk_180 ((dQ_X5_step_5 14).trans dk_j14) ((dQ_X5_step_5 15).trans dk_j15) ((dQ_X5_step_6 0).trans dk_j0) dk_vu2_0_19
theorem dX5_step_97 : decode cX5_step 97 = .ok (.if_icmp .ge 31, 3) := dk_162 ((dQ_X5_step_6 1).trans dk_j1) ((dQ_X5_step_6 2).trans dk_j2) ((dQ_X5_step_6 3).trans dk_j3) dk_vs2_0_31
theorem dX5_step_100 : decode cX5_step 100 = .ok (.aload_n 0, 1) := dk_42 ((dQ_X5_step_6 4).trans dk_j4)
theorem dX5_step_101 : decode cX5_step 101 = .ok (.aload_n 0, 1) := dk_42 ((dQ_X5_step_6 5).trans dk_j5)
theorem dX5_step_102 : decode cX5_step 102 = .ok (.getfield 34, 3) := dk_180 ((dQ_X5_step_6 6).trans dk_j6) ((dQ_X5_step_6 7).trans dk_j7) ((dQ_X5_step_6 8).trans dk_j8) dk_vu2_0_34
theorem dX5_step_105 : decode cX5_step 105 = .ok (.invokevirtual 148, 3) := dk_182 ((dQ_X5_step_6 9).trans dk_j9) ((dQ_X5_step_6 10).trans dk_j10) ((dQ_X5_step_6 11).trans dk_j11) dk_vu2_0_148
theorem dX5_step_108 : decode cX5_step 108 = .ok (.aload_n 0, 1) := dk_42 ((dQ_X5_step_6 12).trans dk_j12)
theorem dX5_step_109 : decode cX5_step 109 = .ok (.getfield 40, 3) := dk_180 ((dQ_X5_step_6 13).trans dk_j13) ((dQ_X5_step_6 14).trans dk_j14) ((dQ_X5_step_6 15).trans dk_j15) dk_vu2_0_40
theorem dX5_step_112 : decode cX5_step 112 = .ok (.if_icmp .ne 16, 3) := dk_160 ((dQ_X5_step_7 0).trans dk_j0) ((dQ_X5_step_7 1).trans dk_j1) ((dQ_X5_step_7 2).trans dk_j2) dk_vs2_0_16
theorem dX5_step_115 : decode cX5_step 115 = .ok (.aload_n 0, 1) := dk_42 ((dQ_X5_step_7 3).trans dk_j3)
theorem dX5_step_116 : decode cX5_step 116 = .ok (.dup, 1) := dk_89 ((dQ_X5_step_7 4).trans dk_j4)
theorem dX5_step_117 : decode cX5_step 117 = .ok (.getfield 34, 3) := dk_180 ((dQ_X5_step_7 5).trans dk_j5) ((dQ_X5_step_7 6).trans dk_j6) ((dQ_X5_step_7 7).trans dk_j7) dk_vu2_0_34
theorem dX5_step_120 : decode cX5_step 120 = .ok (.iconst 1, 1) := dk_4 ((dQ_X5_step_7 8).trans dk_j8)
theorem dX5_step_121 : decode cX5_step 121 = .ok (.iadd, 1) := dk_96 ((dQ_X5_step_7 9).trans dk_j9)
theorem dX5_step_122 : decode cX5_step 122 = .ok (.putfield 34, 3) := dk_181 ((dQ_X5_step_7 10).trans dk_j10) ((dQ_X5_step_7 11).trans dk_j11) ((dQ_X5_step_7 12).trans dk_j12) dk_vu2_0_34
theorem dX5_step_125 : decode cX5_step 125 = .ok (.goto (-52), 3) := dk_167 ((dQ_X5_step_7 13).trans dk_j13) ((dQ_X5_step_7 14).trans dk_j14) ((dQ_X5_step_7 15).trans dk_j15) dk_vs2_255_204
theorem dX5_step_128 : decode cX5_step 128 = .ok (.return_, 1) := dk_177 ((dQ_X5_step_8 0).trans dk_j0)
def dT_X5_kindAt_4 : List UInt8 := (0x07 : UInt8) :: (0x06 : UInt8) :: (0xa7 : UInt8) :: (0x00 : UInt8) :: (0x04 : UInt8) :: (0x08 : UInt8) :: (0xac : UInt8) :: []
def dT_X5_kindAt_3 : List UInt8 := (0xa1 : UInt8) :: (0x00 : UInt8) :: (0x0b : UInt8) :: (0x1c : UInt8) :: (0x10 : UInt8) :: (0x39 : UInt8) :: (0xa3 : UInt8) :: (0x00 : UInt8) :: (0x05 : UInt8) :: (0x05 : UInt8) :: (0xac : UInt8) :: (0x1c : UInt8) :: (0x10 : UInt8) :: (0x3b : UInt8) :: (0xa0 : UInt8) :: (0x00 : UInt8) :: dT_X5_kindAt_4
def dT_X5_kindAt_2 : List UInt8 := (0x10 : UInt8) :: (0x61 : UInt8) :: (0xa1 : UInt8) :: (0x00 : UInt8) :: (0x0b : UInt8) :: (0x1c : UInt8) :: (0x10 : UInt8) :: (0x7a : UInt8) :: (0xa3 : UInt8) :: (0x00 : UInt8) :: (0x05 : UInt8) :: (0x04 : UInt8) :: (0xac : UInt8) :: (0x1c : UInt8) :: (0x10 : UInt8) :: (0x30 : UInt8) :: dT_X5_kindAt_3
def dT_X5_kindAt_1 : List UInt8 := (0x3d : UInt8) :: (0x1c : UInt8) :: (0x10 : UInt8) :: (0x20 : UInt8) :: (0x9f : UInt8) :: (0x00 : UInt8) :: (0x09 : UInt8) :: (0x1c : UInt8) :: (0x10 : UInt8) :: (0x0a : UInt8) :: (0xa0 : UInt8) :: (0x00 : UInt8) :: (0x05 : UInt8) :: (0x07 : UInt8) :: (0xac : UInt8) :: (0x1c : UInt8) :: dT_X5_kindAt_2
def dT_X5_kindAt_0 : List UInt8 := (0x1b : UInt8) :: (0x2a : UInt8) :: (0xb4 : UInt8) :: (0x00 : UInt8) :: (0x13 : UInt8) :: (0xa1 : UInt8) :: (0x00 : UInt8) :: (0x05 : UInt8) :: (0x03 : UInt8) :: (0xac : UInt8) :: (0x2a : UInt8) :: (0xb4 : UInt8) :: (0x00 : UInt8) :: (0x09 : UInt8) :: (0x1b : UInt8) :: (0x2e : UInt8) :: dT_X5_kindAt_1
theorem dT_X5_kindAt : cX5_kindAt.data.toList = dT_X5_kindAt_0 := eq_of_beq (show (cX5_kindAt.data.toList == dT_X5_kindAt_0) = true by decide +kernel)
theorem dQ_X5_kindAt_0 : dQ_P cX5_kindAt 0 dT_X5_kindAt_0 := fun i => by rw [dT_X5_kindAt]; rfl
theorem dQ_X5_kindAt_1 : dQ_P cX5_kindAt 16 dT_X5_kindAt_1 := fun i => (dQ_X5_kindAt_0 (i + 16)).trans dk_t
theorem dQ_X5_kindAt_2 : dQ_P cX5_kindAt 32 dT_X5_kindAt_2 := fun i => (dQ_X5_kindAt_1 (i + 16)).trans dk_t
theorem dQ_X5_kindAt_3 : dQ_P cX5_kindAt 48 dT_X5_kindAt_3 := fun i => (dQ_X5_kindAt_2 (i + 16)).trans dk_t
theorem dQ_X5_kindAt_4 : dQ_P cX5_kindAt 64 dT_X5_kindAt_4 := fun i => (dQ_X5_kindAt_3 (i + 16)).trans dk_t
theorem dX5_kindAt_0 : decode cX5_kindAt 0 = .ok (.iload_n 1, 1) := dk_27 ((dQ_X5_kindAt_0 0).trans dk_j0)
theorem dX5_kindAt_1 : decode cX5_kindAt 1 = .ok (.aload_n 0, 1) := dk_42 ((dQ_X5_kindAt_0 1).trans dk_j1)
theorem dX5_kindAt_2 : decode cX5_kindAt 2 = .ok (.getfield 19, 3) := dk_180 ((dQ_X5_kindAt_0 2).trans dk_j2) ((dQ_X5_kindAt_0 3).trans dk_j3) ((dQ_X5_kindAt_0 4).trans dk_j4) dk_vu2_0_19
theorem dX5_kindAt_5 : decode cX5_kindAt 5 = .ok (.if_icmp .lt 5, 3) := dk_161 ((dQ_X5_kindAt_0 5).trans dk_j5) ((dQ_X5_kindAt_0 6).trans dk_j6) ((dQ_X5_kindAt_0 7).trans dk_j7) dk_vs2_0_5
theorem dX5_kindAt_8 : decode cX5_kindAt 8 = .ok (.iconst 0, 1) := dk_3 ((dQ_X5_kindAt_0 8).trans dk_j8)
theorem dX5_kindAt_9 : decode cX5_kindAt 9 = .ok (.ireturn, 1) := dk_172 ((dQ_X5_kindAt_0 9).trans dk_j9)
theorem dX5_kindAt_10 : decode cX5_kindAt 10 = .ok (.aload_n 0, 1) := dk_42 ((dQ_X5_kindAt_0 10).trans dk_j10)
theorem dX5_kindAt_11 : decode cX5_kindAt 11 = .ok (.getfield 9, 3) := dk_180 ((dQ_X5_kindAt_0 11).trans dk_j11) ((dQ_X5_kindAt_0 12).trans dk_j12) ((dQ_X5_kindAt_0 13).trans dk_j13) dk_vu2_0_9
theorem dX5_kindAt_14 : decode cX5_kindAt 14 = .ok (.iload_n 1, 1) := dk_27 ((dQ_X5_kindAt_0 14).trans dk_j14)
theorem dX5_kindAt_15 : decode cX5_kindAt 15 = .ok (.iaload, 1) := dk_46 ((dQ_X5_kindAt_0 15).trans dk_j15)
theorem dX5_kindAt_16 : decode cX5_kindAt 16 = .ok (.istore_n 2, 1) := dk_61 ((dQ_X5_kindAt_1 0).trans dk_j0)
theorem dX5_kindAt_17 : decode cX5_kindAt 17 = .ok (.iload_n 2, 1) := dk_28 ((dQ_X5_kindAt_1 1).trans dk_j1)
theorem dX5_kindAt_18 : decode cX5_kindAt 18 = .ok (.bipush 32, 2) := dk_16 ((dQ_X5_kindAt_1 2).trans dk_j2) ((dQ_X5_kindAt_1 3).trans dk_j3) dk_vs1_32
theorem dX5_kindAt_20 : decode cX5_kindAt 20 = .ok (.if_icmp .eq 9, 3) := dk_159 ((dQ_X5_kindAt_1 4).trans dk_j4) ((dQ_X5_kindAt_1 5).trans dk_j5) ((dQ_X5_kindAt_1 6).trans dk_j6) dk_vs2_0_9
theorem dX5_kindAt_23 : decode cX5_kindAt 23 = .ok (.iload_n 2, 1) := dk_28 ((dQ_X5_kindAt_1 7).trans dk_j7)
theorem dX5_kindAt_24 : decode cX5_kindAt 24 = .ok (.bipush 10, 2) := dk_16 ((dQ_X5_kindAt_1 8).trans dk_j8) ((dQ_X5_kindAt_1 9).trans dk_j9) dk_vs1_10
theorem dX5_kindAt_26 : decode cX5_kindAt 26 = .ok (.if_icmp .ne 5, 3) := dk_160 ((dQ_X5_kindAt_1 10).trans dk_j10) ((dQ_X5_kindAt_1 11).trans dk_j11) ((dQ_X5_kindAt_1 12).trans dk_j12) dk_vs2_0_5
theorem dX5_kindAt_29 : decode cX5_kindAt 29 = .ok (.iconst 4, 1) := dk_7 ((dQ_X5_kindAt_1 13).trans dk_j13)
theorem dX5_kindAt_30 : decode cX5_kindAt 30 = .ok (.ireturn, 1) := dk_172 ((dQ_X5_kindAt_1 14).trans dk_j14)
theorem dX5_kindAt_31 : decode cX5_kindAt 31 = .ok (.iload_n 2, 1) := dk_28 ((dQ_X5_kindAt_1 15).trans dk_j15)
theorem dk_vs1_97 : Reader.signed 8 (0x61 : UInt8).toNat = (97 : Int) := by decide +kernel
theorem dX5_kindAt_32 : decode cX5_kindAt 32 = .ok (.bipush 97, 2) := dk_16 ((dQ_X5_kindAt_2 0).trans dk_j0) ((dQ_X5_kindAt_2 1).trans dk_j1) dk_vs1_97
theorem dX5_kindAt_34 : decode cX5_kindAt 34 = .ok (.if_icmp .lt 11, 3) := dk_161 ((dQ_X5_kindAt_2 2).trans dk_j2) ((dQ_X5_kindAt_2 3).trans dk_j3) ((dQ_X5_kindAt_2 4).trans dk_j4) dk_vs2_0_11
theorem dX5_kindAt_37 : decode cX5_kindAt 37 = .ok (.iload_n 2, 1) := dk_28 ((dQ_X5_kindAt_2 5).trans dk_j5)
theorem dk_vs1_122 : Reader.signed 8 (0x7a : UInt8).toNat = (122 : Int) := by decide +kernel
theorem dX5_kindAt_38 : decode cX5_kindAt 38 = .ok (.bipush 122, 2) := dk_16 ((dQ_X5_kindAt_2 6).trans dk_j6) ((dQ_X5_kindAt_2 7).trans dk_j7) dk_vs1_122
theorem dX5_kindAt_40 : decode cX5_kindAt 40 = .ok (.if_icmp .gt 5, 3) := dk_163 ((dQ_X5_kindAt_2 8).trans dk_j8) ((dQ_X5_kindAt_2 9).trans dk_j9) ((dQ_X5_kindAt_2 10).trans dk_j10) dk_vs2_0_5
theorem dX5_kindAt_43 : decode cX5_kindAt 43 = .ok (.iconst 1, 1) := dk_4 ((dQ_X5_kindAt_2 11).trans dk_j11)
theorem dX5_kindAt_44 : decode cX5_kindAt 44 = .ok (.ireturn, 1) := dk_172 ((dQ_X5_kindAt_2 12).trans dk_j12)
theorem dX5_kindAt_45 : decode cX5_kindAt 45 = .ok (.iload_n 2, 1) := dk_28 ((dQ_X5_kindAt_2 13).trans dk_j13)
theorem dX5_kindAt_46 : decode cX5_kindAt 46 = .ok (.bipush 48, 2) := dk_16 ((dQ_X5_kindAt_2 14).trans dk_j14) ((dQ_X5_kindAt_2 15).trans dk_j15) dk_vs1_48
theorem dX5_kindAt_48 : decode cX5_kindAt 48 = .ok (.if_icmp .lt 11, 3) := dk_161 ((dQ_X5_kindAt_3 0).trans dk_j0) ((dQ_X5_kindAt_3 1).trans dk_j1) ((dQ_X5_kindAt_3 2).trans dk_j2) dk_vs2_0_11
theorem dX5_kindAt_51 : decode cX5_kindAt 51 = .ok (.iload_n 2, 1) := dk_28 ((dQ_X5_kindAt_3 3).trans dk_j3)
theorem dk_vs1_57 : Reader.signed 8 (0x39 : UInt8).toNat = (57 : Int) := by decide +kernel
theorem dX5_kindAt_52 : decode cX5_kindAt 52 = .ok (.bipush 57, 2) := dk_16 ((dQ_X5_kindAt_3 4).trans dk_j4) ((dQ_X5_kindAt_3 5).trans dk_j5) dk_vs1_57
theorem dX5_kindAt_54 : decode cX5_kindAt 54 = .ok (.if_icmp .gt 5, 3) := dk_163 ((dQ_X5_kindAt_3 6).trans dk_j6) ((dQ_X5_kindAt_3 7).trans dk_j7) ((dQ_X5_kindAt_3 8).trans dk_j8) dk_vs2_0_5
theorem dX5_kindAt_57 : decode cX5_kindAt 57 = .ok (.iconst 2, 1) := dk_5 ((dQ_X5_kindAt_3 9).trans dk_j9)
theorem dX5_kindAt_58 : decode cX5_kindAt 58 = .ok (.ireturn, 1) := dk_172 ((dQ_X5_kindAt_3 10).trans dk_j10)
theorem dX5_kindAt_59 : decode cX5_kindAt 59 = .ok (.iload_n 2, 1) := dk_28 ((dQ_X5_kindAt_3 11).trans dk_j11)
theorem dX5_kindAt_60 : decode cX5_kindAt 60 = .ok (.bipush 59, 2) := dk_16 ((dQ_X5_kindAt_3 12).trans dk_j12) ((dQ_X5_kindAt_3 13).trans dk_j13) dk_vs1_59
theorem dX5_kindAt_62 : decode cX5_kindAt 62 = .ok (.if_icmp .ne 7, 3) := dk_160 ((dQ_X5_kindAt_3 14).trans dk_j14) ((dQ_X5_kindAt_3 15).trans dk_j15) ((dQ_X5_kindAt_4 0).trans dk_j0) dk_vs2_0_7
theorem dX5_kindAt_65 : decode cX5_kindAt 65 = .ok (.iconst 3, 1) := dk_6 ((dQ_X5_kindAt_4 1).trans dk_j1)
theorem dX5_kindAt_66 : decode cX5_kindAt 66 = .ok (.goto 4, 3) := dk_167 ((dQ_X5_kindAt_4 2).trans dk_j2) ((dQ_X5_kindAt_4 3).trans dk_j3) ((dQ_X5_kindAt_4 4).trans dk_j4) dk_vs2_0_4
theorem dX5_kindAt_69 : decode cX5_kindAt 69 = .ok (.iconst 5, 1) := dk_8 ((dQ_X5_kindAt_4 5).trans dk_j5)
theorem dX5_kindAt_70 : decode cX5_kindAt 70 = .ok (.ireturn, 1) := dk_172 ((dQ_X5_kindAt_4 6).trans dk_j6)
def dT_X6_init_2 : List UInt8 := (0x14 : UInt8) :: (0x02 : UInt8) :: (0xb8 : UInt8) :: (0x00 : UInt8) :: (0x17 : UInt8) :: (0xb1 : UInt8) :: []
def dT_X6_init_1 : List UInt8 := (0x07 : UInt8) :: (0xbc : UInt8) :: (0x0a : UInt8) :: (0xb5 : UInt8) :: (0x00 : UInt8) :: (0x10 : UInt8) :: (0x2a : UInt8) :: (0x07 : UInt8) :: (0xbc : UInt8) :: (0x0a : UInt8) :: (0xb5 : UInt8) :: (0x00 : UInt8) :: (0x14 : UInt8) :: (0x2a : UInt8) :: (0xb4 : UInt8) :: (0x00 : UInt8) :: dT_X6_init_2
def dT_X6_init_0 : List UInt8 := (0x2a : UInt8) :: (0xb7 : UInt8) :: (0x00 : UInt8) :: (0x03 : UInt8) :: (0x2a : UInt8) :: (0x07 : UInt8) :: (0x10 : UInt8) :: (0x3c : UInt8) :: (0xc5 : UInt8) :: (0x00 : UInt8) :: (0x09 : UInt8) :: (0x02 : UInt8) :: (0xb5 : UInt8) :: (0x00 : UInt8) :: (0x0b : UInt8) :: (0x2a : UInt8) :: dT_X6_init_1
theorem dT_X6_init : cX6_init.data.toList = dT_X6_init_0 := eq_of_beq (show (cX6_init.data.toList == dT_X6_init_0) = true by decide +kernel)
theorem dQ_X6_init_0 : dQ_P cX6_init 0 dT_X6_init_0 := fun i => by rw [dT_X6_init]; rfl
theorem dQ_X6_init_1 : dQ_P cX6_init 16 dT_X6_init_1 := fun i => (dQ_X6_init_0 (i + 16)).trans dk_t
theorem dQ_X6_init_2 : dQ_P cX6_init 32 dT_X6_init_2 := fun i => (dQ_X6_init_1 (i + 16)).trans dk_t
theorem dX6_init_0 : decode cX6_init 0 = .ok (.aload_n 0, 1) := dk_42 ((dQ_X6_init_0 0).trans dk_j0)
theorem dX6_init_1 : decode cX6_init 1 = .ok (.invokespecial 3, 3) := dk_183 ((dQ_X6_init_0 1).trans dk_j1) ((dQ_X6_init_0 2).trans dk_j2) ((dQ_X6_init_0 3).trans dk_j3) dk_vu2_0_3
theorem dX6_init_4 : decode cX6_init 4 = .ok (.aload_n 0, 1) := dk_42 ((dQ_X6_init_0 4).trans dk_j4)
theorem dX6_init_5 : decode cX6_init 5 = .ok (.iconst 4, 1) := dk_7 ((dQ_X6_init_0 5).trans dk_j5)
theorem dX6_init_6 : decode cX6_init 6 = .ok (.bipush 60, 2) := dk_16 ((dQ_X6_init_0 6).trans dk_j6) ((dQ_X6_init_0 7).trans dk_j7) dk_vs1_60
theorem dX6_init_8 : decode cX6_init 8 = .ok (.multianewarray 9 2, 4) := by decide +kernel
theorem dk_vu2_0_11 : (0x00 : UInt8).toNat * 256 + (0x0b : UInt8).toNat = (11 : Nat) := by decide +kernel
theorem dX6_init_12 : decode cX6_init 12 = .ok (.putfield 11, 3) := dk_181 ((dQ_X6_init_0 12).trans dk_j12) ((dQ_X6_init_0 13).trans dk_j13) ((dQ_X6_init_0 14).trans dk_j14) dk_vu2_0_11
theorem dX6_init_15 : decode cX6_init 15 = .ok (.aload_n 0, 1) := dk_42 ((dQ_X6_init_0 15).trans dk_j15)
theorem dX6_init_16 : decode cX6_init 16 = .ok (.iconst 4, 1) := dk_7 ((dQ_X6_init_1 0).trans dk_j0)
theorem dX6_init_17 : decode cX6_init 17 = .ok (.newarray .int, 2) := by decide +kernel
theorem dX6_init_19 : decode cX6_init 19 = .ok (.putfield 16, 3) := dk_181 ((dQ_X6_init_1 3).trans dk_j3) ((dQ_X6_init_1 4).trans dk_j4) ((dQ_X6_init_1 5).trans dk_j5) dk_vu2_0_16
theorem dX6_init_22 : decode cX6_init 22 = .ok (.aload_n 0, 1) := dk_42 ((dQ_X6_init_1 6).trans dk_j6)
theorem dX6_init_23 : decode cX6_init 23 = .ok (.iconst 4, 1) := dk_7 ((dQ_X6_init_1 7).trans dk_j7)
theorem dX6_init_24 : decode cX6_init 24 = .ok (.newarray .int, 2) := by decide +kernel
theorem dX6_init_26 : decode cX6_init 26 = .ok (.putfield 20, 3) := dk_181 ((dQ_X6_init_1 10).trans dk_j10) ((dQ_X6_init_1 11).trans dk_j11) ((dQ_X6_init_1 12).trans dk_j12) dk_vu2_0_20
theorem dX6_init_29 : decode cX6_init 29 = .ok (.aload_n 0, 1) := dk_42 ((dQ_X6_init_1 13).trans dk_j13)
theorem dX6_init_30 : decode cX6_init 30 = .ok (.getfield 20, 3) := dk_180 ((dQ_X6_init_1 14).trans dk_j14) ((dQ_X6_init_1 15).trans dk_j15) ((dQ_X6_init_2 0).trans dk_j0) dk_vu2_0_20
theorem dX6_init_33 : decode cX6_init 33 = .ok (.iconst (-1), 1) := dk_2 ((dQ_X6_init_2 1).trans dk_j1)
theorem dX6_init_34 : decode cX6_init 34 = .ok (.invokestatic 23, 3) := dk_184 ((dQ_X6_init_2 2).trans dk_j2) ((dQ_X6_init_2 3).trans dk_j3) ((dQ_X6_init_2 4).trans dk_j4) dk_vu2_0_23
theorem dX6_init_37 : decode cX6_init 37 = .ok (.return_, 1) := dk_177 ((dQ_X6_init_2 5).trans dk_j5)
def dT_X6_isSlot_0 : List UInt8 := (0x1a : UInt8) :: (0x9b : UInt8) :: (0x00 : UInt8) :: (0x0c : UInt8) :: (0x1a : UInt8) :: (0x07 : UInt8) :: (0xa2 : UInt8) :: (0x00 : UInt8) :: (0x07 : UInt8) :: (0x04 : UInt8) :: (0xa7 : UInt8) :: (0x00 : UInt8) :: (0x04 : UInt8) :: (0x03 : UInt8) :: (0xac : UInt8) :: []
theorem dT_X6_isSlot : cX6_isSlot.data.toList = dT_X6_isSlot_0 := eq_of_beq (show (cX6_isSlot.data.toList == dT_X6_isSlot_0) = true by decide +kernel)
theorem dQ_X6_isSlot_0 : dQ_P cX6_isSlot 0 dT_X6_isSlot_0 := fun i => by rw [dT_X6_isSlot]; rfl
theorem dX6_isSlot_0 : decode cX6_isSlot 0 = .ok (.iload_n 0, 1) := dk_26 ((dQ_X6_isSlot_0 0).trans dk_j0)
theorem dX6_isSlot_1 : decode cX6_isSlot 1 = .ok (.ifCond .lt 12, 3) := dk_155 ((dQ_X6_isSlot_0 1).trans dk_j1) ((dQ_X6_isSlot_0 2).trans dk_j2) ((dQ_X6_isSlot_0 3).trans dk_j3) dk_vs2_0_12
theorem dX6_isSlot_4 : decode cX6_isSlot 4 = .ok (.iload_n 0, 1) := dk_26 ((dQ_X6_isSlot_0 4).trans dk_j4)
theorem dX6_isSlot_5 : decode cX6_isSlot 5 = .ok (.iconst 4, 1) := dk_7 ((dQ_X6_isSlot_0 5).trans dk_j5)
theorem dX6_isSlot_6 : decode cX6_isSlot 6 = .ok (.if_icmp .ge 7, 3) := dk_162 ((dQ_X6_isSlot_0 6).trans dk_j6) ((dQ_X6_isSlot_0 7).trans dk_j7) ((dQ_X6_isSlot_0 8).trans dk_j8) dk_vs2_0_7
theorem dX6_isSlot_9 : decode cX6_isSlot 9 = .ok (.iconst 1, 1) := dk_4 ((dQ_X6_isSlot_0 9).trans dk_j9)
theorem dX6_isSlot_10 : decode cX6_isSlot 10 = .ok (.goto 4, 3) := dk_167 ((dQ_X6_isSlot_0 10).trans dk_j10) ((dQ_X6_isSlot_0 11).trans dk_j11) ((dQ_X6_isSlot_0 12).trans dk_j12) dk_vs2_0_4
theorem dX6_isSlot_13 : decode cX6_isSlot 13 = .ok (.iconst 0, 1) := dk_3 ((dQ_X6_isSlot_0 13).trans dk_j13)
theorem dX6_isSlot_14 : decode cX6_isSlot 14 = .ok (.ireturn, 1) := dk_172 ((dQ_X6_isSlot_0 14).trans dk_j14)
def dT_X6_has_0 : List UInt8 := (0x2a : UInt8) :: (0xb4 : UInt8) :: (0x00 : UInt8) :: (0x14 : UInt8) :: (0x1b : UInt8) :: (0x2e : UInt8) :: (0x02 : UInt8) :: (0x9f : UInt8) :: (0x00 : UInt8) :: (0x07 : UInt8) :: (0x04 : UInt8) :: (0xa7 : UInt8) :: (0x00 : UInt8) :: (0x04 : UInt8) :: (0x03 : UInt8) :: (0xac : UInt8) :: []
theorem dT_X6_has : cX6_has.data.toList = dT_X6_has_0 := eq_of_beq (show (cX6_has.data.toList == dT_X6_has_0) = true by decide +kernel)
theorem dQ_X6_has_0 : dQ_P cX6_has 0 dT_X6_has_0 := fun i => by rw [dT_X6_has]; rfl
theorem dX6_has_0 : decode cX6_has 0 = .ok (.aload_n 0, 1) := dk_42 ((dQ_X6_has_0 0).trans dk_j0)
theorem dX6_has_1 : decode cX6_has 1 = .ok (.getfield 20, 3) := dk_180 ((dQ_X6_has_0 1).trans dk_j1) ((dQ_X6_has_0 2).trans dk_j2) ((dQ_X6_has_0 3).trans dk_j3) dk_vu2_0_20
theorem dX6_has_4 : decode cX6_has 4 = .ok (.iload_n 1, 1) := dk_27 ((dQ_X6_has_0 4).trans dk_j4)
theorem dX6_has_5 : decode cX6_has 5 = .ok (.iaload, 1) := dk_46 ((dQ_X6_has_0 5).trans dk_j5)
theorem dX6_has_6 : decode cX6_has 6 = .ok (.iconst (-1), 1) := dk_2 ((dQ_X6_has_0 6).trans dk_j6)
theorem dX6_has_7 : decode cX6_has 7 = .ok (.if_icmp .eq 7, 3) := dk_159 ((dQ_X6_has_0 7).trans dk_j7) ((dQ_X6_has_0 8).trans dk_j8) ((dQ_X6_has_0 9).trans dk_j9) dk_vs2_0_7
theorem dX6_has_10 : decode cX6_has 10 = .ok (.iconst 1, 1) := dk_4 ((dQ_X6_has_0 10).trans dk_j10)
theorem dX6_has_11 : decode cX6_has 11 = .ok (.goto 4, 3) := dk_167 ((dQ_X6_has_0 11).trans dk_j11) ((dQ_X6_has_0 12).trans dk_j12) ((dQ_X6_has_0 13).trans dk_j13) dk_vs2_0_4
theorem dX6_has_14 : decode cX6_has 14 = .ok (.iconst 0, 1) := dk_3 ((dQ_X6_has_0 14).trans dk_j14)
theorem dX6_has_15 : decode cX6_has 15 = .ok (.ireturn, 1) := dk_172 ((dQ_X6_has_0 15).trans dk_j15)
def dT_X6_howMany_2 : List UInt8 := (0xac : UInt8) :: []
def dT_X6_howMany_1 : List UInt8 := (0x00 : UInt8) :: (0x07 : UInt8) :: (0x04 : UInt8) :: (0xa7 : UInt8) :: (0x00 : UInt8) :: (0x04 : UInt8) :: (0x03 : UInt8) :: (0x60 : UInt8) :: (0x3c : UInt8) :: (0x84 : UInt8) :: (0x02 : UInt8) :: (0x01 : UInt8) :: (0xa7 : UInt8) :: (0xff : UInt8) :: (0xe8 : UInt8) :: (0x1b : UInt8) :: dT_X6_howMany_2
def dT_X6_howMany_0 : List UInt8 := (0x03 : UInt8) :: (0x3c : UInt8) :: (0x03 : UInt8) :: (0x3d : UInt8) :: (0x1c : UInt8) :: (0x07 : UInt8) :: (0xa2 : UInt8) :: (0x00 : UInt8) :: (0x19 : UInt8) :: (0x1b : UInt8) :: (0x2a : UInt8) :: (0x1c : UInt8) :: (0xb6 : UInt8) :: (0x00 : UInt8) :: (0x1d : UInt8) :: (0x99 : UInt8) :: dT_X6_howMany_1
theorem dT_X6_howMany : cX6_howMany.data.toList = dT_X6_howMany_0 := eq_of_beq (show (cX6_howMany.data.toList == dT_X6_howMany_0) = true by decide +kernel)
theorem dQ_X6_howMany_0 : dQ_P cX6_howMany 0 dT_X6_howMany_0 := fun i => by rw [dT_X6_howMany]; rfl
theorem dQ_X6_howMany_1 : dQ_P cX6_howMany 16 dT_X6_howMany_1 := fun i => (dQ_X6_howMany_0 (i + 16)).trans dk_t
theorem dQ_X6_howMany_2 : dQ_P cX6_howMany 32 dT_X6_howMany_2 := fun i => (dQ_X6_howMany_1 (i + 16)).trans dk_t
theorem dX6_howMany_0 : decode cX6_howMany 0 = .ok (.iconst 0, 1) := dk_3 ((dQ_X6_howMany_0 0).trans dk_j0)
theorem dX6_howMany_1 : decode cX6_howMany 1 = .ok (.istore_n 1, 1) := dk_60 ((dQ_X6_howMany_0 1).trans dk_j1)
theorem dX6_howMany_2 : decode cX6_howMany 2 = .ok (.iconst 0, 1) := dk_3 ((dQ_X6_howMany_0 2).trans dk_j2)
theorem dX6_howMany_3 : decode cX6_howMany 3 = .ok (.istore_n 2, 1) := dk_61 ((dQ_X6_howMany_0 3).trans dk_j3)
theorem dX6_howMany_4 : decode cX6_howMany 4 = .ok (.iload_n 2, 1) := dk_28 ((dQ_X6_howMany_0 4).trans dk_j4)
theorem dX6_howMany_5 : decode cX6_howMany 5 = .ok (.iconst 4, 1) := dk_7 ((dQ_X6_howMany_0 5).trans dk_j5)
theorem dX6_howMany_6 : decode cX6_howMany 6 = .ok (.if_icmp .ge 25, 3) := dk_162 ((dQ_X6_howMany_0 6).trans dk_j6) ((dQ_X6_howMany_0 7).trans dk_j7) ((dQ_X6_howMany_0 8).trans dk_j8) dk_vs2_0_25
theorem dX6_howMany_9 : decode cX6_howMany 9 = .ok (.iload_n 1, 1) := dk_27 ((dQ_X6_howMany_0 9).trans dk_j9)
theorem dX6_howMany_10 : decode cX6_howMany 10 = .ok (.aload_n 0, 1) := dk_42 ((dQ_X6_howMany_0 10).trans dk_j10)
theorem dX6_howMany_11 : decode cX6_howMany 11 = .ok (.iload_n 2, 1) := dk_28 ((dQ_X6_howMany_0 11).trans dk_j11)
theorem dX6_howMany_12 : decode cX6_howMany 12 = .ok (.invokevirtual 29, 3) := dk_182 ((dQ_X6_howMany_0 12).trans dk_j12) ((dQ_X6_howMany_0 13).trans dk_j13) ((dQ_X6_howMany_0 14).trans dk_j14) dk_vu2_0_29
theorem dX6_howMany_15 : decode cX6_howMany 15 = .ok (.ifCond .eq 7, 3) := dk_153 ((dQ_X6_howMany_0 15).trans dk_j15) ((dQ_X6_howMany_1 0).trans dk_j0) ((dQ_X6_howMany_1 1).trans dk_j1) dk_vs2_0_7
theorem dX6_howMany_18 : decode cX6_howMany 18 = .ok (.iconst 1, 1) := dk_4 ((dQ_X6_howMany_1 2).trans dk_j2)
theorem dX6_howMany_19 : decode cX6_howMany 19 = .ok (.goto 4, 3) := dk_167 ((dQ_X6_howMany_1 3).trans dk_j3) ((dQ_X6_howMany_1 4).trans dk_j4) ((dQ_X6_howMany_1 5).trans dk_j5) dk_vs2_0_4
theorem dX6_howMany_22 : decode cX6_howMany 22 = .ok (.iconst 0, 1) := dk_3 ((dQ_X6_howMany_1 6).trans dk_j6)
theorem dX6_howMany_23 : decode cX6_howMany 23 = .ok (.iadd, 1) := dk_96 ((dQ_X6_howMany_1 7).trans dk_j7)
theorem dX6_howMany_24 : decode cX6_howMany 24 = .ok (.istore_n 1, 1) := dk_60 ((dQ_X6_howMany_1 8).trans dk_j8)
theorem dX6_howMany_25 : decode cX6_howMany 25 = .ok (.iinc 2 1, 3) := dk_132 ((dQ_X6_howMany_1 9).trans dk_j9) ((dQ_X6_howMany_1 10).trans dk_j10) ((dQ_X6_howMany_1 11).trans dk_j11) dk_vu1_2 dk_vs1_1
theorem dX6_howMany_28 : decode cX6_howMany 28 = .ok (.goto (-24), 3) := dk_167 ((dQ_X6_howMany_1 12).trans dk_j12) ((dQ_X6_howMany_1 13).trans dk_j13) ((dQ_X6_howMany_1 14).trans dk_j14) dk_vs2_255_232
theorem dX6_howMany_31 : decode cX6_howMany 31 = .ok (.iload_n 1, 1) := dk_27 ((dQ_X6_howMany_1 15).trans dk_j15)
theorem dX6_howMany_32 : decode cX6_howMany 32 = .ok (.ireturn, 1) := dk_172 ((dQ_X6_howMany_2 0).trans dk_j0)
def dT_X6_make_1 : List UInt8 := (0x00 : UInt8) :: (0x0b : UInt8) :: (0x1b : UInt8) :: (0x32 : UInt8) :: (0x09 : UInt8) :: (0xb8 : UInt8) :: (0x00 : UInt8) :: (0x21 : UInt8) :: (0xb1 : UInt8) :: []
def dT_X6_make_0 : List UInt8 := (0x2a : UInt8) :: (0xb4 : UInt8) :: (0x00 : UInt8) :: (0x10 : UInt8) :: (0x1b : UInt8) :: (0x1c : UInt8) :: (0x4f : UInt8) :: (0x2a : UInt8) :: (0xb4 : UInt8) :: (0x00 : UInt8) :: (0x14 : UInt8) :: (0x1b : UInt8) :: (0x1d : UInt8) :: (0x4f : UInt8) :: (0x2a : UInt8) :: (0xb4 : UInt8) :: dT_X6_make_1
theorem dT_X6_make : cX6_make.data.toList = dT_X6_make_0 := eq_of_beq (show (cX6_make.data.toList == dT_X6_make_0) = true by decide +kernel)
theorem dQ_X6_make_0 : dQ_P cX6_make 0 dT_X6_make_0 := fun i => by rw [dT_X6_make]; rfl
theorem dQ_X6_make_1 : dQ_P cX6_make 16 dT_X6_make_1 := fun i => (dQ_X6_make_0 (i + 16)).trans dk_t
theorem dX6_make_0 : decode cX6_make 0 = .ok (.aload_n 0, 1) := dk_42 ((dQ_X6_make_0 0).trans dk_j0)
theorem dX6_make_1 : decode cX6_make 1 = .ok (.getfield 16, 3) := dk_180 ((dQ_X6_make_0 1).trans dk_j1) ((dQ_X6_make_0 2).trans dk_j2) ((dQ_X6_make_0 3).trans dk_j3) dk_vu2_0_16
theorem dX6_make_4 : decode cX6_make 4 = .ok (.iload_n 1, 1) := dk_27 ((dQ_X6_make_0 4).trans dk_j4)
theorem dX6_make_5 : decode cX6_make 5 = .ok (.iload_n 2, 1) := dk_28 ((dQ_X6_make_0 5).trans dk_j5)
theorem dX6_make_6 : decode cX6_make 6 = .ok (.iastore, 1) := dk_79 ((dQ_X6_make_0 6).trans dk_j6)
theorem dX6_make_7 : decode cX6_make 7 = .ok (.aload_n 0, 1) := dk_42 ((dQ_X6_make_0 7).trans dk_j7)
theorem dX6_make_8 : decode cX6_make 8 = .ok (.getfield 20, 3) := dk_180 ((dQ_X6_make_0 8).trans dk_j8) ((dQ_X6_make_0 9).trans dk_j9) ((dQ_X6_make_0 10).trans dk_j10) dk_vu2_0_20
theorem dX6_make_11 : decode cX6_make 11 = .ok (.iload_n 1, 1) := dk_27 ((dQ_X6_make_0 11).trans dk_j11)
theorem dX6_make_12 : decode cX6_make 12 = .ok (.iload_n 3, 1) := dk_29 ((dQ_X6_make_0 12).trans dk_j12)
theorem dX6_make_13 : decode cX6_make 13 = .ok (.iastore, 1) := dk_79 ((dQ_X6_make_0 13).trans dk_j13)
theorem dX6_make_14 : decode cX6_make 14 = .ok (.aload_n 0, 1) := dk_42 ((dQ_X6_make_0 14).trans dk_j14)
theorem dX6_make_15 : decode cX6_make 15 = .ok (.getfield 11, 3) := dk_180 ((dQ_X6_make_0 15).trans dk_j15) ((dQ_X6_make_1 0).trans dk_j0) ((dQ_X6_make_1 1).trans dk_j1) dk_vu2_0_11
theorem dX6_make_18 : decode cX6_make 18 = .ok (.iload_n 1, 1) := dk_27 ((dQ_X6_make_1 2).trans dk_j2)
theorem dX6_make_19 : decode cX6_make 19 = .ok (.aaload, 1) := dk_50 ((dQ_X6_make_1 3).trans dk_j3)
theorem dX6_make_20 : decode cX6_make 20 = .ok (.lconst 0, 1) := dk_9 ((dQ_X6_make_1 4).trans dk_j4)
theorem dk_vu2_0_33 : (0x00 : UInt8).toNat * 256 + (0x21 : UInt8).toNat = (33 : Nat) := by decide +kernel
theorem dX6_make_21 : decode cX6_make 21 = .ok (.invokestatic 33, 3) := dk_184 ((dQ_X6_make_1 5).trans dk_j5) ((dQ_X6_make_1 6).trans dk_j6) ((dQ_X6_make_1 7).trans dk_j7) dk_vu2_0_33
theorem dX6_make_24 : decode cX6_make 24 = .ok (.return_, 1) := dk_177 ((dQ_X6_make_1 8).trans dk_j8)
def dT_X6_put_5 : List UInt8 := (0x1b : UInt8) :: (0x32 : UInt8) :: (0x1c : UInt8) :: (0x21 : UInt8) :: (0x50 : UInt8) :: (0xb1 : UInt8) :: []
def dT_X6_put_4 : List UInt8 := (0x00 : UInt8) :: (0x0b : UInt8) :: (0x1b : UInt8) :: (0x32 : UInt8) :: (0x1c : UInt8) :: (0x21 : UInt8) :: (0x88 : UInt8) :: (0x85 : UInt8) :: (0x50 : UInt8) :: (0xa7 : UInt8) :: (0x00 : UInt8) :: (0x0c : UInt8) :: (0x2a : UInt8) :: (0xb4 : UInt8) :: (0x00 : UInt8) :: (0x0b : UInt8) :: dT_X6_put_5
def dT_X6_put_3 : List UInt8 := (0xb4 : UInt8) :: (0x00 : UInt8) :: (0x0b : UInt8) :: (0x1b : UInt8) :: (0x32 : UInt8) :: (0x1c : UInt8) :: (0x21 : UInt8) :: (0x88 : UInt8) :: (0x93 : UInt8) :: (0x85 : UInt8) :: (0x50 : UInt8) :: (0xa7 : UInt8) :: (0x00 : UInt8) :: (0x1a : UInt8) :: (0x2a : UInt8) :: (0xb4 : UInt8) :: dT_X6_put_4
def dT_X6_put_2 : List UInt8 := (0x2a : UInt8) :: (0xb4 : UInt8) :: (0x00 : UInt8) :: (0x0b : UInt8) :: (0x1b : UInt8) :: (0x32 : UInt8) :: (0x1c : UInt8) :: (0x21 : UInt8) :: (0x88 : UInt8) :: (0x91 : UInt8) :: (0x85 : UInt8) :: (0x50 : UInt8) :: (0xa7 : UInt8) :: (0x00 : UInt8) :: (0x29 : UInt8) :: (0x2a : UInt8) :: dT_X6_put_3
def dT_X6_put_1 : List UInt8 := (0x00 : UInt8) :: (0x00 : UInt8) :: (0x00 : UInt8) :: (0x02 : UInt8) :: (0x00 : UInt8) :: (0x00 : UInt8) :: (0x00 : UInt8) :: (0x1a : UInt8) :: (0x00 : UInt8) :: (0x00 : UInt8) :: (0x00 : UInt8) :: (0x29 : UInt8) :: (0x00 : UInt8) :: (0x00 : UInt8) :: (0x00 : UInt8) :: (0x38 : UInt8) :: dT_X6_put_2
def dT_X6_put_0 : List UInt8 := (0x2a : UInt8) :: (0xb4 : UInt8) :: (0x00 : UInt8) :: (0x10 : UInt8) :: (0x1b : UInt8) :: (0x2e : UInt8) :: (0xaa : UInt8) :: (0x00 : UInt8) :: (0x00 : UInt8) :: (0x00 : UInt8) :: (0x00 : UInt8) :: (0x46 : UInt8) :: (0x00 : UInt8) :: (0x00 : UInt8) :: (0x00 : UInt8) :: (0x00 : UInt8) :: dT_X6_put_1
theorem dT_X6_put : cX6_put.data.toList = dT_X6_put_0 := eq_of_beq (show (cX6_put.data.toList == dT_X6_put_0) = true by decide +kernel)
theorem dQ_X6_put_0 : dQ_P cX6_put 0 dT_X6_put_0 := fun i => by rw [dT_X6_put]; rfl
theorem dQ_X6_put_1 : dQ_P cX6_put 16 dT_X6_put_1 := fun i => (dQ_X6_put_0 (i + 16)).trans dk_t
theorem dQ_X6_put_2 : dQ_P cX6_put 32 dT_X6_put_2 := fun i => (dQ_X6_put_1 (i + 16)).trans dk_t
theorem dQ_X6_put_3 : dQ_P cX6_put 48 dT_X6_put_3 := fun i => (dQ_X6_put_2 (i + 16)).trans dk_t
theorem dQ_X6_put_4 : dQ_P cX6_put 64 dT_X6_put_4 := fun i => (dQ_X6_put_3 (i + 16)).trans dk_t
theorem dQ_X6_put_5 : dQ_P cX6_put 80 dT_X6_put_5 := fun i => (dQ_X6_put_4 (i + 16)).trans dk_t
theorem dX6_put_0 : decode cX6_put 0 = .ok (.aload_n 0, 1) := dk_42 ((dQ_X6_put_0 0).trans dk_j0)
theorem dX6_put_1 : decode cX6_put 1 = .ok (.getfield 16, 3) := dk_180 ((dQ_X6_put_0 1).trans dk_j1) ((dQ_X6_put_0 2).trans dk_j2) ((dQ_X6_put_0 3).trans dk_j3) dk_vu2_0_16
theorem dX6_put_4 : decode cX6_put 4 = .ok (.iload_n 1, 1) := dk_27 ((dQ_X6_put_0 4).trans dk_j4)
theorem dX6_put_5 : decode cX6_put 5 = .ok (.iaload, 1) := dk_46 ((dQ_X6_put_0 5).trans dk_j5)
theorem dX6_put_6 : decode cX6_put 6 = .ok (.tableswitch 70 0 2 #[26, 41, 56], 26) := by decide +kernel
theorem dX6_put_32 : decode cX6_put 32 = .ok (.aload_n 0, 1) := dk_42 ((dQ_X6_put_2 0).trans dk_j0)
theorem dX6_put_33 : decode cX6_put 33 = .ok (.getfield 11, 3) := dk_180 ((dQ_X6_put_2 1).trans dk_j1) ((dQ_X6_put_2 2).trans dk_j2) ((dQ_X6_put_2 3).trans dk_j3) dk_vu2_0_11
theorem dX6_put_36 : decode cX6_put 36 = .ok (.iload_n 1, 1) := dk_27 ((dQ_X6_put_2 4).trans dk_j4)
theorem dX6_put_37 : decode cX6_put 37 = .ok (.aaload, 1) := dk_50 ((dQ_X6_put_2 5).trans dk_j5)
theorem dX6_put_38 : decode cX6_put 38 = .ok (.iload_n 2, 1) := dk_28 ((dQ_X6_put_2 6).trans dk_j6)
theorem dX6_put_39 : decode cX6_put 39 = .ok (.lload_n 3, 1) := dk_33 ((dQ_X6_put_2 7).trans dk_j7)
theorem dX6_put_40 : decode cX6_put 40 = .ok (.l2i, 1) := dk_136 ((dQ_X6_put_2 8).trans dk_j8)
theorem dX6_put_41 : decode cX6_put 41 = .ok (.i2b, 1) := dk_145 ((dQ_X6_put_2 9).trans dk_j9)
theorem dX6_put_42 : decode cX6_put 42 = .ok (.i2l, 1) := dk_133 ((dQ_X6_put_2 10).trans dk_j10)
theorem dX6_put_43 : decode cX6_put 43 = .ok (.lastore, 1) := dk_80 ((dQ_X6_put_2 11).trans dk_j11)
theorem dX6_put_44 : decode cX6_put 44 = .ok (.goto 41, 3) := dk_167 ((dQ_X6_put_2 12).trans dk_j12) ((dQ_X6_put_2 13).trans dk_j13) ((dQ_X6_put_2 14).trans dk_j14) dk_vs2_0_41
theorem dX6_put_47 : decode cX6_put 47 = .ok (.aload_n 0, 1) := dk_42 ((dQ_X6_put_2 15).trans dk_j15)
theorem dX6_put_48 : decode cX6_put 48 = .ok (.getfield 11, 3) := dk_180 ((dQ_X6_put_3 0).trans dk_j0) ((dQ_X6_put_3 1).trans dk_j1) ((dQ_X6_put_3 2).trans dk_j2) dk_vu2_0_11
theorem dX6_put_51 : decode cX6_put 51 = .ok (.iload_n 1, 1) := dk_27 ((dQ_X6_put_3 3).trans dk_j3)
theorem dX6_put_52 : decode cX6_put 52 = .ok (.aaload, 1) := dk_50 ((dQ_X6_put_3 4).trans dk_j4)
theorem dX6_put_53 : decode cX6_put 53 = .ok (.iload_n 2, 1) := dk_28 ((dQ_X6_put_3 5).trans dk_j5)
theorem dX6_put_54 : decode cX6_put 54 = .ok (.lload_n 3, 1) := dk_33 ((dQ_X6_put_3 6).trans dk_j6)
theorem dX6_put_55 : decode cX6_put 55 = .ok (.l2i, 1) := dk_136 ((dQ_X6_put_3 7).trans dk_j7)
theorem dX6_put_56 : decode cX6_put 56 = .ok (.i2s, 1) := dk_147 ((dQ_X6_put_3 8).trans dk_j8)
theorem dX6_put_57 : decode cX6_put 57 = .ok (.i2l, 1) := dk_133 ((dQ_X6_put_3 9).trans dk_j9)
theorem dX6_put_58 : decode cX6_put 58 = .ok (.lastore, 1) := dk_80 ((dQ_X6_put_3 10).trans dk_j10)
theorem dX6_put_59 : decode cX6_put 59 = .ok (.goto 26, 3) := dk_167 ((dQ_X6_put_3 11).trans dk_j11) ((dQ_X6_put_3 12).trans dk_j12) ((dQ_X6_put_3 13).trans dk_j13) dk_vs2_0_26
theorem dX6_put_62 : decode cX6_put 62 = .ok (.aload_n 0, 1) := dk_42 ((dQ_X6_put_3 14).trans dk_j14)
theorem dX6_put_63 : decode cX6_put 63 = .ok (.getfield 11, 3) := dk_180 ((dQ_X6_put_3 15).trans dk_j15) ((dQ_X6_put_4 0).trans dk_j0) ((dQ_X6_put_4 1).trans dk_j1) dk_vu2_0_11
theorem dX6_put_66 : decode cX6_put 66 = .ok (.iload_n 1, 1) := dk_27 ((dQ_X6_put_4 2).trans dk_j2)
theorem dX6_put_67 : decode cX6_put 67 = .ok (.aaload, 1) := dk_50 ((dQ_X6_put_4 3).trans dk_j3)
theorem dX6_put_68 : decode cX6_put 68 = .ok (.iload_n 2, 1) := dk_28 ((dQ_X6_put_4 4).trans dk_j4)
theorem dX6_put_69 : decode cX6_put 69 = .ok (.lload_n 3, 1) := dk_33 ((dQ_X6_put_4 5).trans dk_j5)
theorem dX6_put_70 : decode cX6_put 70 = .ok (.l2i, 1) := dk_136 ((dQ_X6_put_4 6).trans dk_j6)
theorem dX6_put_71 : decode cX6_put 71 = .ok (.i2l, 1) := dk_133 ((dQ_X6_put_4 7).trans dk_j7)
theorem dX6_put_72 : decode cX6_put 72 = .ok (.lastore, 1) := dk_80 ((dQ_X6_put_4 8).trans dk_j8)
theorem dX6_put_73 : decode cX6_put 73 = .ok (.goto 12, 3) := dk_167 ((dQ_X6_put_4 9).trans dk_j9) ((dQ_X6_put_4 10).trans dk_j10) ((dQ_X6_put_4 11).trans dk_j11) dk_vs2_0_12
theorem dX6_put_76 : decode cX6_put 76 = .ok (.aload_n 0, 1) := dk_42 ((dQ_X6_put_4 12).trans dk_j12)
theorem dX6_put_77 : decode cX6_put 77 = .ok (.getfield 11, 3) := dk_180 ((dQ_X6_put_4 13).trans dk_j13) ((dQ_X6_put_4 14).trans dk_j14) ((dQ_X6_put_4 15).trans dk_j15) dk_vu2_0_11
theorem dX6_put_80 : decode cX6_put 80 = .ok (.iload_n 1, 1) := dk_27 ((dQ_X6_put_5 0).trans dk_j0)
theorem dX6_put_81 : decode cX6_put 81 = .ok (.aaload, 1) := dk_50 ((dQ_X6_put_5 1).trans dk_j1)
theorem dX6_put_82 : decode cX6_put 82 = .ok (.iload_n 2, 1) := dk_28 ((dQ_X6_put_5 2).trans dk_j2)
theorem dX6_put_83 : decode cX6_put 83 = .ok (.lload_n 3, 1) := dk_33 ((dQ_X6_put_5 3).trans dk_j3)
theorem dX6_put_84 : decode cX6_put 84 = .ok (.lastore, 1) := dk_80 ((dQ_X6_put_5 4).trans dk_j4)
theorem dX6_put_85 : decode cX6_put 85 = .ok (.return_, 1) := dk_177 ((dQ_X6_put_5 5).trans dk_j5)
def dT_X6_spans_2 : List UInt8 := (0x00 : UInt8) :: (0x04 : UInt8) :: (0x03 : UInt8) :: (0xac : UInt8) :: []
def dT_X6_spans_1 : List UInt8 := (0x00 : UInt8) :: (0x13 : UInt8) :: (0x1d : UInt8) :: (0x2a : UInt8) :: (0xb4 : UInt8) :: (0x00 : UInt8) :: (0x14 : UInt8) :: (0x1b : UInt8) :: (0x2e : UInt8) :: (0x1c : UInt8) :: (0x64 : UInt8) :: (0xa3 : UInt8) :: (0x00 : UInt8) :: (0x07 : UInt8) :: (0x04 : UInt8) :: (0xa7 : UInt8) :: dT_X6_spans_2
def dT_X6_spans_0 : List UInt8 := (0x1c : UInt8) :: (0x9b : UInt8) :: (0x00 : UInt8) :: (0x21 : UInt8) :: (0x1d : UInt8) :: (0x9b : UInt8) :: (0x00 : UInt8) :: (0x1d : UInt8) :: (0x1c : UInt8) :: (0x2a : UInt8) :: (0xb4 : UInt8) :: (0x00 : UInt8) :: (0x14 : UInt8) :: (0x1b : UInt8) :: (0x2e : UInt8) :: (0xa3 : UInt8) :: dT_X6_spans_1
theorem dT_X6_spans : cX6_spans.data.toList = dT_X6_spans_0 := eq_of_beq (show (cX6_spans.data.toList == dT_X6_spans_0) = true by decide +kernel)
theorem dQ_X6_spans_0 : dQ_P cX6_spans 0 dT_X6_spans_0 := fun i => by rw [dT_X6_spans]; rfl
theorem dQ_X6_spans_1 : dQ_P cX6_spans 16 dT_X6_spans_1 := fun i => (dQ_X6_spans_0 (i + 16)).trans dk_t
theorem dQ_X6_spans_2 : dQ_P cX6_spans 32 dT_X6_spans_2 := fun i => (dQ_X6_spans_1 (i + 16)).trans dk_t
theorem dX6_spans_0 : decode cX6_spans 0 = .ok (.iload_n 2, 1) := dk_28 ((dQ_X6_spans_0 0).trans dk_j0)
theorem dX6_spans_1 : decode cX6_spans 1 = .ok (.ifCond .lt 33, 3) := dk_155 ((dQ_X6_spans_0 1).trans dk_j1) ((dQ_X6_spans_0 2).trans dk_j2) ((dQ_X6_spans_0 3).trans dk_j3) dk_vs2_0_33
theorem dX6_spans_4 : decode cX6_spans 4 = .ok (.iload_n 3, 1) := dk_29 ((dQ_X6_spans_0 4).trans dk_j4)
theorem dX6_spans_5 : decode cX6_spans 5 = .ok (.ifCond .lt 29, 3) := dk_155 ((dQ_X6_spans_0 5).trans dk_j5) ((dQ_X6_spans_0 6).trans dk_j6) ((dQ_X6_spans_0 7).trans dk_j7) dk_vs2_0_29
theorem dX6_spans_8 : decode cX6_spans 8 = .ok (.iload_n 2, 1) := dk_28 ((dQ_X6_spans_0 8).trans dk_j8)
theorem dX6_spans_9 : decode cX6_spans 9 = .ok (.aload_n 0, 1) := dk_42 ((dQ_X6_spans_0 9).trans dk_j9)
theorem dX6_spans_10 : decode cX6_spans 10 = .ok (.getfield 20, 3) := dk_180 ((dQ_X6_spans_0 10).trans dk_j10) ((dQ_X6_spans_0 11).trans dk_j11) ((dQ_X6_spans_0 12).trans dk_j12) dk_vu2_0_20
theorem dX6_spans_13 : decode cX6_spans 13 = .ok (.iload_n 1, 1) := dk_27 ((dQ_X6_spans_0 13).trans dk_j13)
theorem dX6_spans_14 : decode cX6_spans 14 = .ok (.iaload, 1) := dk_46 ((dQ_X6_spans_0 14).trans dk_j14)
theorem dX6_spans_15 : decode cX6_spans 15 = .ok (.if_icmp .gt 19, 3) := dk_163 ((dQ_X6_spans_0 15).trans dk_j15) ((dQ_X6_spans_1 0).trans dk_j0) ((dQ_X6_spans_1 1).trans dk_j1) dk_vs2_0_19
theorem dX6_spans_18 : decode cX6_spans 18 = .ok (.iload_n 3, 1) := dk_29 ((dQ_X6_spans_1 2).trans dk_j2)
theorem dX6_spans_19 : decode cX6_spans 19 = .ok (.aload_n 0, 1) := dk_42 ((dQ_X6_spans_1 3).trans dk_j3)
theorem dX6_spans_20 : decode cX6_spans 20 = .ok (.getfield 20, 3) := dk_180 ((dQ_X6_spans_1 4).trans dk_j4) ((dQ_X6_spans_1 5).trans dk_j5) ((dQ_X6_spans_1 6).trans dk_j6) dk_vu2_0_20
theorem dX6_spans_23 : decode cX6_spans 23 = .ok (.iload_n 1, 1) := dk_27 ((dQ_X6_spans_1 7).trans dk_j7)
theorem dX6_spans_24 : decode cX6_spans 24 = .ok (.iaload, 1) := dk_46 ((dQ_X6_spans_1 8).trans dk_j8)
theorem dX6_spans_25 : decode cX6_spans 25 = .ok (.iload_n 2, 1) := dk_28 ((dQ_X6_spans_1 9).trans dk_j9)
theorem dX6_spans_26 : decode cX6_spans 26 = .ok (.isub, 1) := dk_100 ((dQ_X6_spans_1 10).trans dk_j10)
theorem dX6_spans_27 : decode cX6_spans 27 = .ok (.if_icmp .gt 7, 3) := dk_163 ((dQ_X6_spans_1 11).trans dk_j11) ((dQ_X6_spans_1 12).trans dk_j12) ((dQ_X6_spans_1 13).trans dk_j13) dk_vs2_0_7
theorem dX6_spans_30 : decode cX6_spans 30 = .ok (.iconst 1, 1) := dk_4 ((dQ_X6_spans_1 14).trans dk_j14)
theorem dX6_spans_31 : decode cX6_spans 31 = .ok (.goto 4, 3) := dk_167 ((dQ_X6_spans_1 15).trans dk_j15) ((dQ_X6_spans_2 0).trans dk_j0) ((dQ_X6_spans_2 1).trans dk_j1) dk_vs2_0_4
theorem dX6_spans_34 : decode cX6_spans 34 = .ok (.iconst 0, 1) := dk_3 ((dQ_X6_spans_2 2).trans dk_j2)
theorem dX6_spans_35 : decode cX6_spans 35 = .ok (.ireturn, 1) := dk_172 ((dQ_X6_spans_2 3).trans dk_j3)
def dT_X7_init_1 : List UInt8 := (0xbc : UInt8) :: (0x0a : UInt8) :: (0xb5 : UInt8) :: (0x00 : UInt8) :: (0x0f : UInt8) :: (0xb1 : UInt8) :: []
def dT_X7_init_0 : List UInt8 := (0x2a : UInt8) :: (0xb7 : UInt8) :: (0x00 : UInt8) :: (0x03 : UInt8) :: (0x2a : UInt8) :: (0x10 : UInt8) :: (0x06 : UInt8) :: (0xbc : UInt8) :: (0x0a : UInt8) :: (0xb5 : UInt8) :: (0x00 : UInt8) :: (0x09 : UInt8) :: (0x2a : UInt8) :: (0x11 : UInt8) :: (0x00 : UInt8) :: (0xba : UInt8) :: dT_X7_init_1
theorem dT_X7_init : cX7_init.data.toList = dT_X7_init_0 := eq_of_beq (show (cX7_init.data.toList == dT_X7_init_0) = true by decide +kernel)
theorem dQ_X7_init_0 : dQ_P cX7_init 0 dT_X7_init_0 := fun i => by rw [dT_X7_init]; rfl
theorem dQ_X7_init_1 : dQ_P cX7_init 16 dT_X7_init_1 := fun i => (dQ_X7_init_0 (i + 16)).trans dk_t
theorem dX7_init_0 : decode cX7_init 0 = .ok (.aload_n 0, 1) := dk_42 ((dQ_X7_init_0 0).trans dk_j0)
theorem dX7_init_1 : decode cX7_init 1 = .ok (.invokespecial 3, 3) := dk_183 ((dQ_X7_init_0 1).trans dk_j1) ((dQ_X7_init_0 2).trans dk_j2) ((dQ_X7_init_0 3).trans dk_j3) dk_vu2_0_3
theorem dX7_init_4 : decode cX7_init 4 = .ok (.aload_n 0, 1) := dk_42 ((dQ_X7_init_0 4).trans dk_j4)
theorem dX7_init_5 : decode cX7_init 5 = .ok (.bipush 6, 2) := dk_16 ((dQ_X7_init_0 5).trans dk_j5) ((dQ_X7_init_0 6).trans dk_j6) dk_vs1_6
theorem dX7_init_7 : decode cX7_init 7 = .ok (.newarray .int, 2) := by decide +kernel
theorem dX7_init_9 : decode cX7_init 9 = .ok (.putfield 9, 3) := dk_181 ((dQ_X7_init_0 9).trans dk_j9) ((dQ_X7_init_0 10).trans dk_j10) ((dQ_X7_init_0 11).trans dk_j11) dk_vu2_0_9
theorem dX7_init_12 : decode cX7_init 12 = .ok (.aload_n 0, 1) := dk_42 ((dQ_X7_init_0 12).trans dk_j12)
theorem dX7_init_13 : decode cX7_init 13 = .ok (.sipush 186, 3) := dk_17 ((dQ_X7_init_0 13).trans dk_j13) ((dQ_X7_init_0 14).trans dk_j14) ((dQ_X7_init_0 15).trans dk_j15) dk_vs2_0_186
theorem dX7_init_16 : decode cX7_init 16 = .ok (.newarray .int, 2) := by decide +kernel
theorem dX7_init_18 : decode cX7_init 18 = .ok (.putfield 15, 3) := dk_181 ((dQ_X7_init_1 2).trans dk_j2) ((dQ_X7_init_1 3).trans dk_j3) ((dQ_X7_init_1 4).trans dk_j4) dk_vu2_0_15
theorem dX7_init_21 : decode cX7_init 21 = .ok (.return_, 1) := dk_177 ((dQ_X7_init_1 5).trans dk_j5)
def dT_X7_forget_1 : List UInt8 := (0x2a : UInt8) :: (0x03 : UInt8) :: (0xb5 : UInt8) :: (0x00 : UInt8) :: (0x18 : UInt8) :: (0x2a : UInt8) :: (0x03 : UInt8) :: (0xb5 : UInt8) :: (0x00 : UInt8) :: (0x1c : UInt8) :: (0x2a : UInt8) :: (0x02 : UInt8) :: (0xb5 : UInt8) :: (0x00 : UInt8) :: (0x1f : UInt8) :: (0xb1 : UInt8) :: []
def dT_X7_forget_0 : List UInt8 := (0x2a : UInt8) :: (0xb4 : UInt8) :: (0x00 : UInt8) :: (0x09 : UInt8) :: (0x03 : UInt8) :: (0xb8 : UInt8) :: (0x00 : UInt8) :: (0x12 : UInt8) :: (0x2a : UInt8) :: (0xb4 : UInt8) :: (0x00 : UInt8) :: (0x0f : UInt8) :: (0x03 : UInt8) :: (0xb8 : UInt8) :: (0x00 : UInt8) :: (0x12 : UInt8) :: dT_X7_forget_1
theorem dT_X7_forget : cX7_forget.data.toList = dT_X7_forget_0 := eq_of_beq (show (cX7_forget.data.toList == dT_X7_forget_0) = true by decide +kernel)
theorem dQ_X7_forget_0 : dQ_P cX7_forget 0 dT_X7_forget_0 := fun i => by rw [dT_X7_forget]; rfl
theorem dQ_X7_forget_1 : dQ_P cX7_forget 16 dT_X7_forget_1 := fun i => (dQ_X7_forget_0 (i + 16)).trans dk_t
theorem dX7_forget_0 : decode cX7_forget 0 = .ok (.aload_n 0, 1) := dk_42 ((dQ_X7_forget_0 0).trans dk_j0)
theorem dX7_forget_1 : decode cX7_forget 1 = .ok (.getfield 9, 3) := dk_180 ((dQ_X7_forget_0 1).trans dk_j1) ((dQ_X7_forget_0 2).trans dk_j2) ((dQ_X7_forget_0 3).trans dk_j3) dk_vu2_0_9
theorem dX7_forget_4 : decode cX7_forget 4 = .ok (.iconst 0, 1) := dk_3 ((dQ_X7_forget_0 4).trans dk_j4)
theorem dX7_forget_5 : decode cX7_forget 5 = .ok (.invokestatic 18, 3) := dk_184 ((dQ_X7_forget_0 5).trans dk_j5) ((dQ_X7_forget_0 6).trans dk_j6) ((dQ_X7_forget_0 7).trans dk_j7) dk_vu2_0_18
theorem dX7_forget_8 : decode cX7_forget 8 = .ok (.aload_n 0, 1) := dk_42 ((dQ_X7_forget_0 8).trans dk_j8)
theorem dX7_forget_9 : decode cX7_forget 9 = .ok (.getfield 15, 3) := dk_180 ((dQ_X7_forget_0 9).trans dk_j9) ((dQ_X7_forget_0 10).trans dk_j10) ((dQ_X7_forget_0 11).trans dk_j11) dk_vu2_0_15
theorem dX7_forget_12 : decode cX7_forget 12 = .ok (.iconst 0, 1) := dk_3 ((dQ_X7_forget_0 12).trans dk_j12)
theorem dX7_forget_13 : decode cX7_forget 13 = .ok (.invokestatic 18, 3) := dk_184 ((dQ_X7_forget_0 13).trans dk_j13) ((dQ_X7_forget_0 14).trans dk_j14) ((dQ_X7_forget_0 15).trans dk_j15) dk_vu2_0_18
theorem dX7_forget_16 : decode cX7_forget 16 = .ok (.aload_n 0, 1) := dk_42 ((dQ_X7_forget_1 0).trans dk_j0)
theorem dX7_forget_17 : decode cX7_forget 17 = .ok (.iconst 0, 1) := dk_3 ((dQ_X7_forget_1 1).trans dk_j1)
theorem dX7_forget_18 : decode cX7_forget 18 = .ok (.putfield 24, 3) := dk_181 ((dQ_X7_forget_1 2).trans dk_j2) ((dQ_X7_forget_1 3).trans dk_j3) ((dQ_X7_forget_1 4).trans dk_j4) dk_vu2_0_24
theorem dX7_forget_21 : decode cX7_forget 21 = .ok (.aload_n 0, 1) := dk_42 ((dQ_X7_forget_1 5).trans dk_j5)
theorem dX7_forget_22 : decode cX7_forget 22 = .ok (.iconst 0, 1) := dk_3 ((dQ_X7_forget_1 6).trans dk_j6)
theorem dX7_forget_23 : decode cX7_forget 23 = .ok (.putfield 28, 3) := dk_181 ((dQ_X7_forget_1 7).trans dk_j7) ((dQ_X7_forget_1 8).trans dk_j8) ((dQ_X7_forget_1 9).trans dk_j9) dk_vu2_0_28
theorem dX7_forget_26 : decode cX7_forget 26 = .ok (.aload_n 0, 1) := dk_42 ((dQ_X7_forget_1 10).trans dk_j10)
theorem dX7_forget_27 : decode cX7_forget 27 = .ok (.iconst (-1), 1) := dk_2 ((dQ_X7_forget_1 11).trans dk_j11)
theorem dX7_forget_28 : decode cX7_forget 28 = .ok (.putfield 31, 3) := dk_181 ((dQ_X7_forget_1 12).trans dk_j12) ((dQ_X7_forget_1 13).trans dk_j13) ((dQ_X7_forget_1 14).trans dk_j14) dk_vu2_0_31
theorem dX7_forget_31 : decode cX7_forget 31 = .ok (.return_, 1) := dk_177 ((dQ_X7_forget_1 15).trans dk_j15)
def dT_X7_seekIn_7 : List UInt8 := (0x03 : UInt8) :: (0x01 : UInt8) :: (0xa7 : UInt8) :: (0xff : UInt8) :: (0x95 : UInt8) :: (0xb1 : UInt8) :: []
def dT_X7_seekIn_6 : List UInt8 := (0x2b : UInt8) :: (0xb4 : UInt8) :: (0x00 : UInt8) :: (0x31 : UInt8) :: (0x1d : UInt8) :: (0x2e : UInt8) :: (0x4f : UInt8) :: (0x2c : UInt8) :: (0x1d : UInt8) :: (0x1d : UInt8) :: (0x04 : UInt8) :: (0x60 : UInt8) :: (0xb6 : UInt8) :: (0x00 : UInt8) :: (0x34 : UInt8) :: (0x84 : UInt8) :: dT_X7_seekIn_7
def dT_X7_seekIn_5 : List UInt8 := (0x15 : UInt8) :: (0x04 : UInt8) :: (0xb6 : UInt8) :: (0x00 : UInt8) :: (0x38 : UInt8) :: (0x84 : UInt8) :: (0x04 : UInt8) :: (0x01 : UInt8) :: (0xa7 : UInt8) :: (0xff : UInt8) :: (0xc7 : UInt8) :: (0x2c : UInt8) :: (0xb4 : UInt8) :: (0x00 : UInt8) :: (0x31 : UInt8) :: (0x1d : UInt8) :: dT_X7_seekIn_6
def dT_X7_seekIn_4 : List UInt8 := (0x2b : UInt8) :: (0xb4 : UInt8) :: (0x00 : UInt8) :: (0x28 : UInt8) :: (0xb8 : UInt8) :: (0x00 : UInt8) :: (0x29 : UInt8) :: (0xb6 : UInt8) :: (0x00 : UInt8) :: (0x2d : UInt8) :: (0x99 : UInt8) :: (0x00 : UInt8) :: (0x0b : UInt8) :: (0x2a : UInt8) :: (0x2c : UInt8) :: (0x1d : UInt8) :: dT_X7_seekIn_5
def dT_X7_seekIn_3 : List UInt8 := (0x2e : UInt8) :: (0x15 : UInt8) :: (0x04 : UInt8) :: (0x60 : UInt8) :: (0x4f : UInt8) :: (0x2c : UInt8) :: (0x1d : UInt8) :: (0x2b : UInt8) :: (0xb4 : UInt8) :: (0x00 : UInt8) :: (0x28 : UInt8) :: (0xb6 : UInt8) :: (0x00 : UInt8) :: (0x34 : UInt8) :: (0x2a : UInt8) :: (0x2c : UInt8) :: dT_X7_seekIn_4
def dT_X7_seekIn_2 : List UInt8 := (0x04 : UInt8) :: (0x10 : UInt8) :: (0x09 : UInt8) :: (0xa3 : UInt8) :: (0x00 : UInt8) :: (0x38 : UInt8) :: (0x2c : UInt8) :: (0xb4 : UInt8) :: (0x00 : UInt8) :: (0x31 : UInt8) :: (0x1d : UInt8) :: (0x2b : UInt8) :: (0xb4 : UInt8) :: (0x00 : UInt8) :: (0x31 : UInt8) :: (0x1d : UInt8) :: dT_X7_seekIn_3
def dT_X7_seekIn_1 : List UInt8 := (0x2c : UInt8) :: (0x1d : UInt8) :: (0xb8 : UInt8) :: (0x00 : UInt8) :: (0x29 : UInt8) :: (0xb6 : UInt8) :: (0x00 : UInt8) :: (0x2d : UInt8) :: (0x9a : UInt8) :: (0x00 : UInt8) :: (0x04 : UInt8) :: (0xb1 : UInt8) :: (0x04 : UInt8) :: (0x36 : UInt8) :: (0x04 : UInt8) :: (0x15 : UInt8) :: dT_X7_seekIn_2
def dT_X7_seekIn_0 : List UInt8 := (0x2c : UInt8) :: (0x2b : UInt8) :: (0xb6 : UInt8) :: (0x00 : UInt8) :: (0x22 : UInt8) :: (0x03 : UInt8) :: (0x3e : UInt8) :: (0x1d : UInt8) :: (0x2b : UInt8) :: (0xb4 : UInt8) :: (0x00 : UInt8) :: (0x28 : UInt8) :: (0xa2 : UInt8) :: (0x00 : UInt8) :: (0x69 : UInt8) :: (0x2a : UInt8) :: dT_X7_seekIn_1
theorem dT_X7_seekIn : cX7_seekIn.data.toList = dT_X7_seekIn_0 := eq_of_beq (show (cX7_seekIn.data.toList == dT_X7_seekIn_0) = true by decide +kernel)
theorem dQ_X7_seekIn_0 : dQ_P cX7_seekIn 0 dT_X7_seekIn_0 := fun i => by rw [dT_X7_seekIn]; rfl
theorem dQ_X7_seekIn_1 : dQ_P cX7_seekIn 16 dT_X7_seekIn_1 := fun i => (dQ_X7_seekIn_0 (i + 16)).trans dk_t
theorem dQ_X7_seekIn_2 : dQ_P cX7_seekIn 32 dT_X7_seekIn_2 := fun i => (dQ_X7_seekIn_1 (i + 16)).trans dk_t
theorem dQ_X7_seekIn_3 : dQ_P cX7_seekIn 48 dT_X7_seekIn_3 := fun i => (dQ_X7_seekIn_2 (i + 16)).trans dk_t
theorem dQ_X7_seekIn_4 : dQ_P cX7_seekIn 64 dT_X7_seekIn_4 := fun i => (dQ_X7_seekIn_3 (i + 16)).trans dk_t
theorem dQ_X7_seekIn_5 : dQ_P cX7_seekIn 80 dT_X7_seekIn_5 := fun i => (dQ_X7_seekIn_4 (i + 16)).trans dk_t
theorem dQ_X7_seekIn_6 : dQ_P cX7_seekIn 96 dT_X7_seekIn_6 := fun i => (dQ_X7_seekIn_5 (i + 16)).trans dk_t
theorem dQ_X7_seekIn_7 : dQ_P cX7_seekIn 112 dT_X7_seekIn_7 := fun i => (dQ_X7_seekIn_6 (i + 16)).trans dk_t
theorem dX7_seekIn_0 : decode cX7_seekIn 0 = .ok (.aload_n 2, 1) := dk_44 ((dQ_X7_seekIn_0 0).trans dk_j0)
theorem dX7_seekIn_1 : decode cX7_seekIn 1 = .ok (.aload_n 1, 1) := dk_43 ((dQ_X7_seekIn_0 1).trans dk_j1)
theorem dX7_seekIn_2 : decode cX7_seekIn 2 = .ok (.invokevirtual 34, 3) := dk_182 ((dQ_X7_seekIn_0 2).trans dk_j2) ((dQ_X7_seekIn_0 3).trans dk_j3) ((dQ_X7_seekIn_0 4).trans dk_j4) dk_vu2_0_34
theorem dX7_seekIn_5 : decode cX7_seekIn 5 = .ok (.iconst 0, 1) := dk_3 ((dQ_X7_seekIn_0 5).trans dk_j5)
theorem dX7_seekIn_6 : decode cX7_seekIn 6 = .ok (.istore_n 3, 1) := dk_62 ((dQ_X7_seekIn_0 6).trans dk_j6)
theorem dX7_seekIn_7 : decode cX7_seekIn 7 = .ok (.iload_n 3, 1) := dk_29 ((dQ_X7_seekIn_0 7).trans dk_j7)
theorem dX7_seekIn_8 : decode cX7_seekIn 8 = .ok (.aload_n 1, 1) := dk_43 ((dQ_X7_seekIn_0 8).trans dk_j8)
theorem dX7_seekIn_9 : decode cX7_seekIn 9 = .ok (.getfield 40, 3) := dk_180 ((dQ_X7_seekIn_0 9).trans dk_j9) ((dQ_X7_seekIn_0 10).trans dk_j10) ((dQ_X7_seekIn_0 11).trans dk_j11) dk_vu2_0_40
theorem dk_vs2_0_105 : Reader.signed 16 ((0x00 : UInt8).toNat * 256 + (0x69 : UInt8).toNat) = (105 : Int) := by decide +kernel
theorem dX7_seekIn_12 : decode cX7_seekIn 12 = .ok (.if_icmp .ge 105, 3) := dk_162 ((dQ_X7_seekIn_0 12).trans dk_j12) ((dQ_X7_seekIn_0 13).trans dk_j13) ((dQ_X7_seekIn_0 14).trans dk_j14) dk_vs2_0_105
theorem dX7_seekIn_15 : decode cX7_seekIn 15 = .ok (.aload_n 0, 1) := dk_42 ((dQ_X7_seekIn_0 15).trans dk_j15)
theorem dX7_seekIn_16 : decode cX7_seekIn 16 = .ok (.aload_n 2, 1) := dk_44 ((dQ_X7_seekIn_1 0).trans dk_j0)
theorem dX7_seekIn_17 : decode cX7_seekIn 17 = .ok (.iload_n 3, 1) := dk_29 ((dQ_X7_seekIn_1 1).trans dk_j1)
theorem dX7_seekIn_18 : decode cX7_seekIn 18 = .ok (.invokestatic 41, 3) := dk_184 ((dQ_X7_seekIn_1 2).trans dk_j2) ((dQ_X7_seekIn_1 3).trans dk_j3) ((dQ_X7_seekIn_1 4).trans dk_j4) dk_vu2_0_41
theorem dk_vu2_0_45 : (0x00 : UInt8).toNat * 256 + (0x2d : UInt8).toNat = (45 : Nat) := by decide +kernel
theorem dX7_seekIn_21 : decode cX7_seekIn 21 = .ok (.invokevirtual 45, 3) := dk_182 ((dQ_X7_seekIn_1 5).trans dk_j5) ((dQ_X7_seekIn_1 6).trans dk_j6) ((dQ_X7_seekIn_1 7).trans dk_j7) dk_vu2_0_45
theorem dX7_seekIn_24 : decode cX7_seekIn 24 = .ok (.ifCond .ne 4, 3) := dk_154 ((dQ_X7_seekIn_1 8).trans dk_j8) ((dQ_X7_seekIn_1 9).trans dk_j9) ((dQ_X7_seekIn_1 10).trans dk_j10) dk_vs2_0_4
theorem dX7_seekIn_27 : decode cX7_seekIn 27 = .ok (.return_, 1) := dk_177 ((dQ_X7_seekIn_1 11).trans dk_j11)
theorem dX7_seekIn_28 : decode cX7_seekIn 28 = .ok (.iconst 1, 1) := dk_4 ((dQ_X7_seekIn_1 12).trans dk_j12)
theorem dX7_seekIn_29 : decode cX7_seekIn 29 = .ok (.istore 4, 2) := dk_54 ((dQ_X7_seekIn_1 13).trans dk_j13) ((dQ_X7_seekIn_1 14).trans dk_j14) dk_vu1_4
theorem dX7_seekIn_31 : decode cX7_seekIn 31 = .ok (.iload 4, 2) := dk_21 ((dQ_X7_seekIn_1 15).trans dk_j15) ((dQ_X7_seekIn_2 0).trans dk_j0) dk_vu1_4
theorem dX7_seekIn_33 : decode cX7_seekIn 33 = .ok (.bipush 9, 2) := dk_16 ((dQ_X7_seekIn_2 1).trans dk_j1) ((dQ_X7_seekIn_2 2).trans dk_j2) dk_vs1_9
theorem dX7_seekIn_35 : decode cX7_seekIn 35 = .ok (.if_icmp .gt 56, 3) := dk_163 ((dQ_X7_seekIn_2 3).trans dk_j3) ((dQ_X7_seekIn_2 4).trans dk_j4) ((dQ_X7_seekIn_2 5).trans dk_j5) dk_vs2_0_56
theorem dX7_seekIn_38 : decode cX7_seekIn 38 = .ok (.aload_n 2, 1) := dk_44 ((dQ_X7_seekIn_2 6).trans dk_j6)
theorem dX7_seekIn_39 : decode cX7_seekIn 39 = .ok (.getfield 49, 3) := dk_180 ((dQ_X7_seekIn_2 7).trans dk_j7) ((dQ_X7_seekIn_2 8).trans dk_j8) ((dQ_X7_seekIn_2 9).trans dk_j9) dk_vu2_0_49
theorem dX7_seekIn_42 : decode cX7_seekIn 42 = .ok (.iload_n 3, 1) := dk_29 ((dQ_X7_seekIn_2 10).trans dk_j10)
theorem dX7_seekIn_43 : decode cX7_seekIn 43 = .ok (.aload_n 1, 1) := dk_43 ((dQ_X7_seekIn_2 11).trans dk_j11)
theorem dX7_seekIn_44 : decode cX7_seekIn 44 = .ok (.getfield 49, 3) := dk_180 ((dQ_X7_seekIn_2 12).trans dk_j12) ((dQ_X7_seekIn_2 13).trans dk_j13) ((dQ_X7_seekIn_2 14).trans dk_j14) dk_vu2_0_49
theorem dX7_seekIn_47 : decode cX7_seekIn 47 = .ok (.iload_n 3, 1) := dk_29 ((dQ_X7_seekIn_2 15).trans dk_j15)
theorem dX7_seekIn_48 : decode cX7_seekIn 48 = .ok (.iaload, 1) := dk_46 ((dQ_X7_seekIn_3 0).trans dk_j0)
theorem dX7_seekIn_49 : decode cX7_seekIn 49 = .ok (.iload 4, 2) := dk_21 ((dQ_X7_seekIn_3 1).trans dk_j1) ((dQ_X7_seekIn_3 2).trans dk_j2) dk_vu1_4
theorem dX7_seekIn_51 : decode cX7_seekIn 51 = .ok (.iadd, 1) := dk_96 ((dQ_X7_seekIn_3 3).trans dk_j3)
theorem dX7_seekIn_52 : decode cX7_seekIn 52 = .ok (.iastore, 1) := dk_79 ((dQ_X7_seekIn_3 4).trans dk_j4)
theorem dX7_seekIn_53 : decode cX7_seekIn 53 = .ok (.aload_n 2, 1) := dk_44 ((dQ_X7_seekIn_3 5).trans dk_j5)
theorem dX7_seekIn_54 : decode cX7_seekIn 54 = .ok (.iload_n 3, 1) := dk_29 ((dQ_X7_seekIn_3 6).trans dk_j6)
theorem dX7_seekIn_55 : decode cX7_seekIn 55 = .ok (.aload_n 1, 1) := dk_43 ((dQ_X7_seekIn_3 7).trans dk_j7)
theorem dX7_seekIn_56 : decode cX7_seekIn 56 = .ok (.getfield 40, 3) := dk_180 ((dQ_X7_seekIn_3 8).trans dk_j8) ((dQ_X7_seekIn_3 9).trans dk_j9) ((dQ_X7_seekIn_3 10).trans dk_j10) dk_vu2_0_40
theorem dX7_seekIn_59 : decode cX7_seekIn 59 = .ok (.invokevirtual 52, 3) := dk_182 ((dQ_X7_seekIn_3 11).trans dk_j11) ((dQ_X7_seekIn_3 12).trans dk_j12) ((dQ_X7_seekIn_3 13).trans dk_j13) dk_vu2_0_52
theorem dX7_seekIn_62 : decode cX7_seekIn 62 = .ok (.aload_n 0, 1) := dk_42 ((dQ_X7_seekIn_3 14).trans dk_j14)
theorem dX7_seekIn_63 : decode cX7_seekIn 63 = .ok (.aload_n 2, 1) := dk_44 ((dQ_X7_seekIn_3 15).trans dk_j15)
theorem dX7_seekIn_64 : decode cX7_seekIn 64 = .ok (.aload_n 1, 1) := dk_43 ((dQ_X7_seekIn_4 0).trans dk_j0)
theorem dX7_seekIn_65 : decode cX7_seekIn 65 = .ok (.getfield 40, 3) := dk_180 ((dQ_X7_seekIn_4 1).trans dk_j1) ((dQ_X7_seekIn_4 2).trans dk_j2) ((dQ_X7_seekIn_4 3).trans dk_j3) dk_vu2_0_40
theorem dX7_seekIn_68 : decode cX7_seekIn 68 = .ok (.invokestatic 41, 3) := dk_184 ((dQ_X7_seekIn_4 4).trans dk_j4) ((dQ_X7_seekIn_4 5).trans dk_j5) ((dQ_X7_seekIn_4 6).trans dk_j6) dk_vu2_0_41
theorem dX7_seekIn_71 : decode cX7_seekIn 71 = .ok (.invokevirtual 45, 3) := dk_182 ((dQ_X7_seekIn_4 7).trans dk_j7) ((dQ_X7_seekIn_4 8).trans dk_j8) ((dQ_X7_seekIn_4 9).trans dk_j9) dk_vu2_0_45
theorem dX7_seekIn_74 : decode cX7_seekIn 74 = .ok (.ifCond .eq 11, 3) := dk_153 ((dQ_X7_seekIn_4 10).trans dk_j10) ((dQ_X7_seekIn_4 11).trans dk_j11) ((dQ_X7_seekIn_4 12).trans dk_j12) dk_vs2_0_11
theorem dX7_seekIn_77 : decode cX7_seekIn 77 = .ok (.aload_n 0, 1) := dk_42 ((dQ_X7_seekIn_4 13).trans dk_j13)
theorem dX7_seekIn_78 : decode cX7_seekIn 78 = .ok (.aload_n 2, 1) := dk_44 ((dQ_X7_seekIn_4 14).trans dk_j14)
theorem dX7_seekIn_79 : decode cX7_seekIn 79 = .ok (.iload_n 3, 1) := dk_29 ((dQ_X7_seekIn_4 15).trans dk_j15)
theorem dX7_seekIn_80 : decode cX7_seekIn 80 = .ok (.iload 4, 2) := dk_21 ((dQ_X7_seekIn_5 0).trans dk_j0) ((dQ_X7_seekIn_5 1).trans dk_j1) dk_vu1_4
theorem dk_vu2_0_56 : (0x00 : UInt8).toNat * 256 + (0x38 : UInt8).toNat = (56 : Nat) := by decide +kernel
theorem dX7_seekIn_82 : decode cX7_seekIn 82 = .ok (.invokevirtual 56, 3) := dk_182 ((dQ_X7_seekIn_5 2).trans dk_j2) ((dQ_X7_seekIn_5 3).trans dk_j3) ((dQ_X7_seekIn_5 4).trans dk_j4) dk_vu2_0_56
theorem dX7_seekIn_85 : decode cX7_seekIn 85 = .ok (.iinc 4 1, 3) := dk_132 ((dQ_X7_seekIn_5 5).trans dk_j5) ((dQ_X7_seekIn_5 6).trans dk_j6) ((dQ_X7_seekIn_5 7).trans dk_j7) dk_vu1_4 dk_vs1_1
theorem dX7_seekIn_88 : decode cX7_seekIn 88 = .ok (.goto (-57), 3) := dk_167 ((dQ_X7_seekIn_5 8).trans dk_j8) ((dQ_X7_seekIn_5 9).trans dk_j9) ((dQ_X7_seekIn_5 10).trans dk_j10) dk_vs2_255_199
theorem dX7_seekIn_91 : decode cX7_seekIn 91 = .ok (.aload_n 2, 1) := dk_44 ((dQ_X7_seekIn_5 11).trans dk_j11)
theorem dX7_seekIn_92 : decode cX7_seekIn 92 = .ok (.getfield 49, 3) := dk_180 ((dQ_X7_seekIn_5 12).trans dk_j12) ((dQ_X7_seekIn_5 13).trans dk_j13) ((dQ_X7_seekIn_5 14).trans dk_j14) dk_vu2_0_49
theorem dX7_seekIn_95 : decode cX7_seekIn 95 = .ok (.iload_n 3, 1) := dk_29 ((dQ_X7_seekIn_5 15).trans dk_j15)
theorem dX7_seekIn_96 : decode cX7_seekIn 96 = .ok (.aload_n 1, 1) := dk_43 ((dQ_X7_seekIn_6 0).trans dk_j0)
theorem dX7_seekIn_97 : decode cX7_seekIn 97 = .ok (.getfield 49, 3) := dk_180 ((dQ_X7_seekIn_6 1).trans dk_j1) ((dQ_X7_seekIn_6 2).trans dk_j2) ((dQ_X7_seekIn_6 3).trans dk_j3) dk_vu2_0_49
theorem dX7_seekIn_100 : decode cX7_seekIn 100 = .ok (.iload_n 3, 1) := dk_29 ((dQ_X7_seekIn_6 4).trans dk_j4)
theorem dX7_seekIn_101 : decode cX7_seekIn 101 = .ok (.iaload, 1) := dk_46 ((dQ_X7_seekIn_6 5).trans dk_j5)
theorem dX7_seekIn_102 : decode cX7_seekIn 102 = .ok (.iastore, 1) := dk_79 ((dQ_X7_seekIn_6 6).trans dk_j6)
theorem dX7_seekIn_103 : decode cX7_seekIn 103 = .ok (.aload_n 2, 1) := dk_44 ((dQ_X7_seekIn_6 7).trans dk_j7)
theorem dX7_seekIn_104 : decode cX7_seekIn 104 = .ok (.iload_n 3, 1) := dk_29 ((dQ_X7_seekIn_6 8).trans dk_j8)
theorem dX7_seekIn_105 : decode cX7_seekIn 105 = .ok (.iload_n 3, 1) := dk_29 ((dQ_X7_seekIn_6 9).trans dk_j9)
theorem dX7_seekIn_106 : decode cX7_seekIn 106 = .ok (.iconst 1, 1) := dk_4 ((dQ_X7_seekIn_6 10).trans dk_j10)
theorem dX7_seekIn_107 : decode cX7_seekIn 107 = .ok (.iadd, 1) := dk_96 ((dQ_X7_seekIn_6 11).trans dk_j11)
theorem dX7_seekIn_108 : decode cX7_seekIn 108 = .ok (.invokevirtual 52, 3) := dk_182 ((dQ_X7_seekIn_6 12).trans dk_j12) ((dQ_X7_seekIn_6 13).trans dk_j13) ((dQ_X7_seekIn_6 14).trans dk_j14) dk_vu2_0_52
theorem dX7_seekIn_111 : decode cX7_seekIn 111 = .ok (.iinc 3 1, 3) := dk_132 ((dQ_X7_seekIn_6 15).trans dk_j15) ((dQ_X7_seekIn_7 0).trans dk_j0) ((dQ_X7_seekIn_7 1).trans dk_j1) dk_vu1_3 dk_vs1_1
theorem dk_vs2_255_149 : Reader.signed 16 ((0xff : UInt8).toNat * 256 + (0x95 : UInt8).toNat) = (-107 : Int) := by decide +kernel
theorem dX7_seekIn_114 : decode cX7_seekIn 114 = .ok (.goto (-107), 3) := dk_167 ((dQ_X7_seekIn_7 2).trans dk_j2) ((dQ_X7_seekIn_7 3).trans dk_j3) ((dQ_X7_seekIn_7 4).trans dk_j4) dk_vs2_255_149
theorem dX7_seekIn_117 : decode cX7_seekIn 117 = .ok (.return_, 1) := dk_177 ((dQ_X7_seekIn_7 5).trans dk_j5)
def dT_X7_meets_2 : List UInt8 := (0x84 : UInt8) :: (0x03 : UInt8) :: (0x01 : UInt8) :: (0xa7 : UInt8) :: (0xff : UInt8) :: (0xdf : UInt8) :: (0x04 : UInt8) :: (0xac : UInt8) :: []
def dT_X7_meets_1 : List UInt8 := (0x1c : UInt8) :: (0x7e : UInt8) :: (0x2b : UInt8) :: (0xb4 : UInt8) :: (0x00 : UInt8) :: (0x3f : UInt8) :: (0x1d : UInt8) :: (0x2e : UInt8) :: (0x02 : UInt8) :: (0x82 : UInt8) :: (0x7e : UInt8) :: (0x99 : UInt8) :: (0x00 : UInt8) :: (0x05 : UInt8) :: (0x03 : UInt8) :: (0xac : UInt8) :: dT_X7_meets_2
def dT_X7_meets_0 : List UInt8 := (0x03 : UInt8) :: (0x3e : UInt8) :: (0x1d : UInt8) :: (0x2b : UInt8) :: (0xb4 : UInt8) :: (0x00 : UInt8) :: (0x3c : UInt8) :: (0xa2 : UInt8) :: (0x00 : UInt8) :: (0x1f : UInt8) :: (0x2a : UInt8) :: (0xb4 : UInt8) :: (0x00 : UInt8) :: (0x09 : UInt8) :: (0x1d : UInt8) :: (0x2e : UInt8) :: dT_X7_meets_1
theorem dT_X7_meets : cX7_meets.data.toList = dT_X7_meets_0 := eq_of_beq (show (cX7_meets.data.toList == dT_X7_meets_0) = true by decide +kernel)
theorem dQ_X7_meets_0 : dQ_P cX7_meets 0 dT_X7_meets_0 := fun i => by rw [dT_X7_meets]; rfl
theorem dQ_X7_meets_1 : dQ_P cX7_meets 16 dT_X7_meets_1 := fun i => (dQ_X7_meets_0 (i + 16)).trans dk_t
theorem dQ_X7_meets_2 : dQ_P cX7_meets 32 dT_X7_meets_2 := fun i => (dQ_X7_meets_1 (i + 16)).trans dk_t
theorem dX7_meets_0 : decode cX7_meets 0 = .ok (.iconst 0, 1) := dk_3 ((dQ_X7_meets_0 0).trans dk_j0)
theorem dX7_meets_1 : decode cX7_meets 1 = .ok (.istore_n 3, 1) := dk_62 ((dQ_X7_meets_0 1).trans dk_j1)
theorem dX7_meets_2 : decode cX7_meets 2 = .ok (.iload_n 3, 1) := dk_29 ((dQ_X7_meets_0 2).trans dk_j2)
theorem dX7_meets_3 : decode cX7_meets 3 = .ok (.aload_n 1, 1) := dk_43 ((dQ_X7_meets_0 3).trans dk_j3)
theorem dX7_meets_4 : decode cX7_meets 4 = .ok (.getfield 60, 3) := dk_180 ((dQ_X7_meets_0 4).trans dk_j4) ((dQ_X7_meets_0 5).trans dk_j5) ((dQ_X7_meets_0 6).trans dk_j6) dk_vu2_0_60
theorem dX7_meets_7 : decode cX7_meets 7 = .ok (.if_icmp .ge 31, 3) := dk_162 ((dQ_X7_meets_0 7).trans dk_j7) ((dQ_X7_meets_0 8).trans dk_j8) ((dQ_X7_meets_0 9).trans dk_j9) dk_vs2_0_31
theorem dX7_meets_10 : decode cX7_meets 10 = .ok (.aload_n 0, 1) := dk_42 ((dQ_X7_meets_0 10).trans dk_j10)
theorem dX7_meets_11 : decode cX7_meets 11 = .ok (.getfield 9, 3) := dk_180 ((dQ_X7_meets_0 11).trans dk_j11) ((dQ_X7_meets_0 12).trans dk_j12) ((dQ_X7_meets_0 13).trans dk_j13) dk_vu2_0_9
theorem dX7_meets_14 : decode cX7_meets 14 = .ok (.iload_n 3, 1) := dk_29 ((dQ_X7_meets_0 14).trans dk_j14)
theorem dX7_meets_15 : decode cX7_meets 15 = .ok (.iaload, 1) := dk_46 ((dQ_X7_meets_0 15).trans dk_j15)
theorem dX7_meets_16 : decode cX7_meets 16 = .ok (.iload_n 2, 1) := dk_28 ((dQ_X7_meets_1 0).trans dk_j0)
theorem dX7_meets_17 : decode cX7_meets 17 = .ok (.iand, 1) := dk_126 ((dQ_X7_meets_1 1).trans dk_j1)
theorem dX7_meets_18 : decode cX7_meets 18 = .ok (.aload_n 1, 1) := dk_43 ((dQ_X7_meets_1 2).trans dk_j2)
theorem dk_vu2_0_63 : (0x00 : UInt8).toNat * 256 + (0x3f : UInt8).toNat = (63 : Nat) := by decide +kernel
theorem dX7_meets_19 : decode cX7_meets 19 = .ok (.getfield 63, 3) := dk_180 ((dQ_X7_meets_1 3).trans dk_j3) ((dQ_X7_meets_1 4).trans dk_j4) ((dQ_X7_meets_1 5).trans dk_j5) dk_vu2_0_63
theorem dX7_meets_22 : decode cX7_meets 22 = .ok (.iload_n 3, 1) := dk_29 ((dQ_X7_meets_1 6).trans dk_j6)
theorem dX7_meets_23 : decode cX7_meets 23 = .ok (.iaload, 1) := dk_46 ((dQ_X7_meets_1 7).trans dk_j7)
theorem dX7_meets_24 : decode cX7_meets 24 = .ok (.iconst (-1), 1) := dk_2 ((dQ_X7_meets_1 8).trans dk_j8)
theorem dX7_meets_25 : decode cX7_meets 25 = .ok (.ixor, 1) := dk_130 ((dQ_X7_meets_1 9).trans dk_j9)
theorem dX7_meets_26 : decode cX7_meets 26 = .ok (.iand, 1) := dk_126 ((dQ_X7_meets_1 10).trans dk_j10)
theorem dX7_meets_27 : decode cX7_meets 27 = .ok (.ifCond .eq 5, 3) := dk_153 ((dQ_X7_meets_1 11).trans dk_j11) ((dQ_X7_meets_1 12).trans dk_j12) ((dQ_X7_meets_1 13).trans dk_j13) dk_vs2_0_5
theorem dX7_meets_30 : decode cX7_meets 30 = .ok (.iconst 0, 1) := dk_3 ((dQ_X7_meets_1 14).trans dk_j14)
theorem dX7_meets_31 : decode cX7_meets 31 = .ok (.ireturn, 1) := dk_172 ((dQ_X7_meets_1 15).trans dk_j15)
theorem dX7_meets_32 : decode cX7_meets 32 = .ok (.iinc 3 1, 3) := dk_132 ((dQ_X7_meets_2 0).trans dk_j0) ((dQ_X7_meets_2 1).trans dk_j1) ((dQ_X7_meets_2 2).trans dk_j2) dk_vu1_3 dk_vs1_1
theorem dX7_meets_35 : decode cX7_meets 35 = .ok (.goto (-33), 3) := dk_167 ((dQ_X7_meets_2 3).trans dk_j3) ((dQ_X7_meets_2 4).trans dk_j4) ((dQ_X7_meets_2 5).trans dk_j5) dk_vs2_255_223
theorem dX7_meets_38 : decode cX7_meets 38 = .ok (.iconst 1, 1) := dk_4 ((dQ_X7_meets_2 6).trans dk_j6)
theorem dX7_meets_39 : decode cX7_meets 39 = .ok (.ireturn, 1) := dk_172 ((dQ_X7_meets_2 7).trans dk_j7)
def dT_X7_note_5 : List UInt8 := (0xff : UInt8) :: (0xdb : UInt8) :: (0xb1 : UInt8) :: []
def dT_X7_note_4 : List UInt8 := (0x15 : UInt8) :: (0x04 : UInt8) :: (0x2e : UInt8) :: (0xb8 : UInt8) :: (0x00 : UInt8) :: (0x42 : UInt8) :: (0x60 : UInt8) :: (0x5c : UInt8) :: (0x2e : UInt8) :: (0x04 : UInt8) :: (0x60 : UInt8) :: (0x4f : UInt8) :: (0x84 : UInt8) :: (0x04 : UInt8) :: (0x01 : UInt8) :: (0xa7 : UInt8) :: dT_X7_note_5
def dT_X7_note_3 : List UInt8 := (0xa2 : UInt8) :: (0x00 : UInt8) :: (0x22 : UInt8) :: (0x2a : UInt8) :: (0xb4 : UInt8) :: (0x00 : UInt8) :: (0x0f : UInt8) :: (0x10 : UInt8) :: (0x1f : UInt8) :: (0x15 : UInt8) :: (0x04 : UInt8) :: (0x68 : UInt8) :: (0x2b : UInt8) :: (0xb4 : UInt8) :: (0x00 : UInt8) :: (0x3f : UInt8) :: dT_X7_note_4
def dT_X7_note_2 : List UInt8 := (0x04 : UInt8) :: (0x1c : UInt8) :: (0x78 : UInt8) :: (0x80 : UInt8) :: (0xb5 : UInt8) :: (0x00 : UInt8) :: (0x1c : UInt8) :: (0x03 : UInt8) :: (0x36 : UInt8) :: (0x04 : UInt8) :: (0x15 : UInt8) :: (0x04 : UInt8) :: (0x2b : UInt8) :: (0xb4 : UInt8) :: (0x00 : UInt8) :: (0x3c : UInt8) :: dT_X7_note_3
def dT_X7_note_1 : List UInt8 := (0x1f : UInt8) :: (0x2a : UInt8) :: (0x59 : UInt8) :: (0xb4 : UInt8) :: (0x00 : UInt8) :: (0x18 : UInt8) :: (0x04 : UInt8) :: (0x60 : UInt8) :: (0xb5 : UInt8) :: (0x00 : UInt8) :: (0x18 : UInt8) :: (0x2a : UInt8) :: (0x59 : UInt8) :: (0xb4 : UInt8) :: (0x00 : UInt8) :: (0x1c : UInt8) :: dT_X7_note_2
def dT_X7_note_0 : List UInt8 := (0x2a : UInt8) :: (0xb4 : UInt8) :: (0x00 : UInt8) :: (0x18 : UInt8) :: (0x9a : UInt8) :: (0x00 : UInt8) :: (0x0d : UInt8) :: (0x2a : UInt8) :: (0x10 : UInt8) :: (0x0a : UInt8) :: (0x1c : UInt8) :: (0x68 : UInt8) :: (0x1d : UInt8) :: (0x60 : UInt8) :: (0xb5 : UInt8) :: (0x00 : UInt8) :: dT_X7_note_1
theorem dT_X7_note : cX7_note.data.toList = dT_X7_note_0 := eq_of_beq (show (cX7_note.data.toList == dT_X7_note_0) = true by decide +kernel)
theorem dQ_X7_note_0 : dQ_P cX7_note 0 dT_X7_note_0 := fun i => by rw [dT_X7_note]; rfl
theorem dQ_X7_note_1 : dQ_P cX7_note 16 dT_X7_note_1 := fun i => (dQ_X7_note_0 (i + 16)).trans dk_t
theorem dQ_X7_note_2 : dQ_P cX7_note 32 dT_X7_note_2 := fun i => (dQ_X7_note_1 (i + 16)).trans dk_t
theorem dQ_X7_note_3 : dQ_P cX7_note 48 dT_X7_note_3 := fun i => (dQ_X7_note_2 (i + 16)).trans dk_t
theorem dQ_X7_note_4 : dQ_P cX7_note 64 dT_X7_note_4 := fun i => (dQ_X7_note_3 (i + 16)).trans dk_t
theorem dQ_X7_note_5 : dQ_P cX7_note 80 dT_X7_note_5 := fun i => (dQ_X7_note_4 (i + 16)).trans dk_t
theorem dX7_note_0 : decode cX7_note 0 = .ok (.aload_n 0, 1) := dk_42 ((dQ_X7_note_0 0).trans dk_j0)
theorem dX7_note_1 : decode cX7_note 1 = .ok (.getfield 24, 3) := dk_180 ((dQ_X7_note_0 1).trans dk_j1) ((dQ_X7_note_0 2).trans dk_j2) ((dQ_X7_note_0 3).trans dk_j3) dk_vu2_0_24
theorem dX7_note_4 : decode cX7_note 4 = .ok (.ifCond .ne 13, 3) := dk_154 ((dQ_X7_note_0 4).trans dk_j4) ((dQ_X7_note_0 5).trans dk_j5) ((dQ_X7_note_0 6).trans dk_j6) dk_vs2_0_13
theorem dX7_note_7 : decode cX7_note 7 = .ok (.aload_n 0, 1) := dk_42 ((dQ_X7_note_0 7).trans dk_j7)
theorem dX7_note_8 : decode cX7_note 8 = .ok (.bipush 10, 2) := dk_16 ((dQ_X7_note_0 8).trans dk_j8) ((dQ_X7_note_0 9).trans dk_j9) dk_vs1_10
theorem dX7_note_10 : decode cX7_note 10 = .ok (.iload_n 2, 1) := dk_28 ((dQ_X7_note_0 10).trans dk_j10)
theorem dX7_note_11 : decode cX7_note 11 = .ok (.imul, 1) := dk_104 ((dQ_X7_note_0 11).trans dk_j11)
theorem dX7_note_12 : decode cX7_note 12 = .ok (.iload_n 3, 1) := dk_29 ((dQ_X7_note_0 12).trans dk_j12)
theorem dX7_note_13 : decode cX7_note 13 = .ok (.iadd, 1) := dk_96 ((dQ_X7_note_0 13).trans dk_j13)
theorem dX7_note_14 : decode cX7_note 14 = .ok (.putfield 31, 3) := dk_181 ((dQ_X7_note_0 14).trans dk_j14) ((dQ_X7_note_0 15).trans dk_j15) ((dQ_X7_note_1 0).trans dk_j0) dk_vu2_0_31
theorem dX7_note_17 : decode cX7_note 17 = .ok (.aload_n 0, 1) := dk_42 ((dQ_X7_note_1 1).trans dk_j1)
theorem dX7_note_18 : decode cX7_note 18 = .ok (.dup, 1) := dk_89 ((dQ_X7_note_1 2).trans dk_j2)
theorem dX7_note_19 : decode cX7_note 19 = .ok (.getfield 24, 3) := dk_180 ((dQ_X7_note_1 3).trans dk_j3) ((dQ_X7_note_1 4).trans dk_j4) ((dQ_X7_note_1 5).trans dk_j5) dk_vu2_0_24
theorem dX7_note_22 : decode cX7_note 22 = .ok (.iconst 1, 1) := dk_4 ((dQ_X7_note_1 6).trans dk_j6)
theorem dX7_note_23 : decode cX7_note 23 = .ok (.iadd, 1) := dk_96 ((dQ_X7_note_1 7).trans dk_j7)
theorem dX7_note_24 : decode cX7_note 24 = .ok (.putfield 24, 3) := dk_181 ((dQ_X7_note_1 8).trans dk_j8) ((dQ_X7_note_1 9).trans dk_j9) ((dQ_X7_note_1 10).trans dk_j10) dk_vu2_0_24
theorem dX7_note_27 : decode cX7_note 27 = .ok (.aload_n 0, 1) := dk_42 ((dQ_X7_note_1 11).trans dk_j11)
theorem dX7_note_28 : decode cX7_note 28 = .ok (.dup, 1) := dk_89 ((dQ_X7_note_1 12).trans dk_j12)
theorem dX7_note_29 : decode cX7_note 29 = .ok (.getfield 28, 3) := dk_180 ((dQ_X7_note_1 13).trans dk_j13) ((dQ_X7_note_1 14).trans dk_j14) ((dQ_X7_note_1 15).trans dk_j15) dk_vu2_0_28
theorem dX7_note_32 : decode cX7_note 32 = .ok (.iconst 1, 1) := dk_4 ((dQ_X7_note_2 0).trans dk_j0)
theorem dX7_note_33 : decode cX7_note 33 = .ok (.iload_n 2, 1) := dk_28 ((dQ_X7_note_2 1).trans dk_j1)
theorem dX7_note_34 : decode cX7_note 34 = .ok (.ishl, 1) := dk_120 ((dQ_X7_note_2 2).trans dk_j2)
theorem dX7_note_35 : decode cX7_note 35 = .ok (.ior, 1) := dk_128 ((dQ_X7_note_2 3).trans dk_j3)
theorem dX7_note_36 : decode cX7_note 36 = .ok (.putfield 28, 3) := dk_181 ((dQ_X7_note_2 4).trans dk_j4) ((dQ_X7_note_2 5).trans dk_j5) ((dQ_X7_note_2 6).trans dk_j6) dk_vu2_0_28
theorem dX7_note_39 : decode cX7_note 39 = .ok (.iconst 0, 1) := dk_3 ((dQ_X7_note_2 7).trans dk_j7)
theorem dX7_note_40 : decode cX7_note 40 = .ok (.istore 4, 2) := dk_54 ((dQ_X7_note_2 8).trans dk_j8) ((dQ_X7_note_2 9).trans dk_j9) dk_vu1_4
theorem dX7_note_42 : decode cX7_note 42 = .ok (.iload 4, 2) := dk_21 ((dQ_X7_note_2 10).trans dk_j10) ((dQ_X7_note_2 11).trans dk_j11) dk_vu1_4
theorem dX7_note_44 : decode cX7_note 44 = .ok (.aload_n 1, 1) := dk_43 ((dQ_X7_note_2 12).trans dk_j12)
theorem dX7_note_45 : decode cX7_note 45 = .ok (.getfield 60, 3) := dk_180 ((dQ_X7_note_2 13).trans dk_j13) ((dQ_X7_note_2 14).trans dk_j14) ((dQ_X7_note_2 15).trans dk_j15) dk_vu2_0_60
theorem dX7_note_48 : decode cX7_note 48 = .ok (.if_icmp .ge 34, 3) := dk_162 ((dQ_X7_note_3 0).trans dk_j0) ((dQ_X7_note_3 1).trans dk_j1) ((dQ_X7_note_3 2).trans dk_j2) dk_vs2_0_34
theorem dX7_note_51 : decode cX7_note 51 = .ok (.aload_n 0, 1) := dk_42 ((dQ_X7_note_3 3).trans dk_j3)
theorem dX7_note_52 : decode cX7_note 52 = .ok (.getfield 15, 3) := dk_180 ((dQ_X7_note_3 4).trans dk_j4) ((dQ_X7_note_3 5).trans dk_j5) ((dQ_X7_note_3 6).trans dk_j6) dk_vu2_0_15
theorem dX7_note_55 : decode cX7_note 55 = .ok (.bipush 31, 2) := dk_16 ((dQ_X7_note_3 7).trans dk_j7) ((dQ_X7_note_3 8).trans dk_j8) dk_vs1_31
theorem dX7_note_57 : decode cX7_note 57 = .ok (.iload 4, 2) := dk_21 ((dQ_X7_note_3 9).trans dk_j9) ((dQ_X7_note_3 10).trans dk_j10) dk_vu1_4
theorem dX7_note_59 : decode cX7_note 59 = .ok (.imul, 1) := dk_104 ((dQ_X7_note_3 11).trans dk_j11)
theorem dX7_note_60 : decode cX7_note 60 = .ok (.aload_n 1, 1) := dk_43 ((dQ_X7_note_3 12).trans dk_j12)
theorem dX7_note_61 : decode cX7_note 61 = .ok (.getfield 63, 3) := dk_180 ((dQ_X7_note_3 13).trans dk_j13) ((dQ_X7_note_3 14).trans dk_j14) ((dQ_X7_note_3 15).trans dk_j15) dk_vu2_0_63
theorem dX7_note_64 : decode cX7_note 64 = .ok (.iload 4, 2) := dk_21 ((dQ_X7_note_4 0).trans dk_j0) ((dQ_X7_note_4 1).trans dk_j1) dk_vu1_4
theorem dX7_note_66 : decode cX7_note 66 = .ok (.iaload, 1) := dk_46 ((dQ_X7_note_4 2).trans dk_j2)
theorem dX7_note_67 : decode cX7_note 67 = .ok (.invokestatic 66, 3) := dk_184 ((dQ_X7_note_4 3).trans dk_j3) ((dQ_X7_note_4 4).trans dk_j4) ((dQ_X7_note_4 5).trans dk_j5) dk_vu2_0_66
theorem dX7_note_70 : decode cX7_note 70 = .ok (.iadd, 1) := dk_96 ((dQ_X7_note_4 6).trans dk_j6)
theorem dX7_note_71 : decode cX7_note 71 = .ok (.dup2, 1) := dk_92 ((dQ_X7_note_4 7).trans dk_j7)
theorem dX7_note_72 : decode cX7_note 72 = .ok (.iaload, 1) := dk_46 ((dQ_X7_note_4 8).trans dk_j8)
theorem dX7_note_73 : decode cX7_note 73 = .ok (.iconst 1, 1) := dk_4 ((dQ_X7_note_4 9).trans dk_j9)
theorem dX7_note_74 : decode cX7_note 74 = .ok (.iadd, 1) := dk_96 ((dQ_X7_note_4 10).trans dk_j10)
theorem dX7_note_75 : decode cX7_note 75 = .ok (.iastore, 1) := dk_79 ((dQ_X7_note_4 11).trans dk_j11)
theorem dX7_note_76 : decode cX7_note 76 = .ok (.iinc 4 1, 3) := dk_132 ((dQ_X7_note_4 12).trans dk_j12) ((dQ_X7_note_4 13).trans dk_j13) ((dQ_X7_note_4 14).trans dk_j14) dk_vu1_4 dk_vs1_1
theorem dX7_note_79 : decode cX7_note 79 = .ok (.goto (-37), 3) := dk_167 ((dQ_X7_note_4 15).trans dk_j15) ((dQ_X7_note_5 0).trans dk_j0) ((dQ_X7_note_5 1).trans dk_j1) dk_vs2_255_219
theorem dX7_note_82 : decode cX7_note 82 = .ok (.return_, 1) := dk_177 ((dQ_X7_note_5 2).trans dk_j2)
def dT_X7_atWorst_2 : List UInt8 := (0x1c : UInt8) :: (0xac : UInt8) :: []
def dT_X7_atWorst_1 : List UInt8 := (0x1f : UInt8) :: (0x1b : UInt8) :: (0x68 : UInt8) :: (0x1d : UInt8) :: (0x60 : UInt8) :: (0x2e : UInt8) :: (0xb8 : UInt8) :: (0x00 : UInt8) :: (0x47 : UInt8) :: (0x3d : UInt8) :: (0x84 : UInt8) :: (0x03 : UInt8) :: (0x01 : UInt8) :: (0xa7 : UInt8) :: (0xff : UInt8) :: (0xe7 : UInt8) :: dT_X7_atWorst_2
def dT_X7_atWorst_0 : List UInt8 := (0x03 : UInt8) :: (0x3d : UInt8) :: (0x03 : UInt8) :: (0x3e : UInt8) :: (0x1d : UInt8) :: (0x10 : UInt8) :: (0x1f : UInt8) :: (0xa2 : UInt8) :: (0x00 : UInt8) :: (0x19 : UInt8) :: (0x1c : UInt8) :: (0x2a : UInt8) :: (0xb4 : UInt8) :: (0x00 : UInt8) :: (0x0f : UInt8) :: (0x10 : UInt8) :: dT_X7_atWorst_1
theorem dT_X7_atWorst : cX7_atWorst.data.toList = dT_X7_atWorst_0 := eq_of_beq (show (cX7_atWorst.data.toList == dT_X7_atWorst_0) = true by decide +kernel)
theorem dQ_X7_atWorst_0 : dQ_P cX7_atWorst 0 dT_X7_atWorst_0 := fun i => by rw [dT_X7_atWorst]; rfl
theorem dQ_X7_atWorst_1 : dQ_P cX7_atWorst 16 dT_X7_atWorst_1 := fun i => (dQ_X7_atWorst_0 (i + 16)).trans dk_t
theorem dQ_X7_atWorst_2 : dQ_P cX7_atWorst 32 dT_X7_atWorst_2 := fun i => (dQ_X7_atWorst_1 (i + 16)).trans dk_t
theorem dX7_atWorst_0 : decode cX7_atWorst 0 = .ok (.iconst 0, 1) := dk_3 ((dQ_X7_atWorst_0 0).trans dk_j0)
theorem dX7_atWorst_1 : decode cX7_atWorst 1 = .ok (.istore_n 2, 1) := dk_61 ((dQ_X7_atWorst_0 1).trans dk_j1)
theorem dX7_atWorst_2 : decode cX7_atWorst 2 = .ok (.iconst 0, 1) := dk_3 ((dQ_X7_atWorst_0 2).trans dk_j2)
theorem dX7_atWorst_3 : decode cX7_atWorst 3 = .ok (.istore_n 3, 1) := dk_62 ((dQ_X7_atWorst_0 3).trans dk_j3)
theorem dX7_atWorst_4 : decode cX7_atWorst 4 = .ok (.iload_n 3, 1) := dk_29 ((dQ_X7_atWorst_0 4).trans dk_j4)
theorem dX7_atWorst_5 : decode cX7_atWorst 5 = .ok (.bipush 31, 2) := dk_16 ((dQ_X7_atWorst_0 5).trans dk_j5) ((dQ_X7_atWorst_0 6).trans dk_j6) dk_vs1_31
theorem dX7_atWorst_7 : decode cX7_atWorst 7 = .ok (.if_icmp .ge 25, 3) := dk_162 ((dQ_X7_atWorst_0 7).trans dk_j7) ((dQ_X7_atWorst_0 8).trans dk_j8) ((dQ_X7_atWorst_0 9).trans dk_j9) dk_vs2_0_25
theorem dX7_atWorst_10 : decode cX7_atWorst 10 = .ok (.iload_n 2, 1) := dk_28 ((dQ_X7_atWorst_0 10).trans dk_j10)
theorem dX7_atWorst_11 : decode cX7_atWorst 11 = .ok (.aload_n 0, 1) := dk_42 ((dQ_X7_atWorst_0 11).trans dk_j11)
theorem dX7_atWorst_12 : decode cX7_atWorst 12 = .ok (.getfield 15, 3) := dk_180 ((dQ_X7_atWorst_0 12).trans dk_j12) ((dQ_X7_atWorst_0 13).trans dk_j13) ((dQ_X7_atWorst_0 14).trans dk_j14) dk_vu2_0_15
theorem dX7_atWorst_15 : decode cX7_atWorst 15 = .ok (.bipush 31, 2) := dk_16 ((dQ_X7_atWorst_0 15).trans dk_j15) ((dQ_X7_atWorst_1 0).trans dk_j0) dk_vs1_31
theorem dX7_atWorst_17 : decode cX7_atWorst 17 = .ok (.iload_n 1, 1) := dk_27 ((dQ_X7_atWorst_1 1).trans dk_j1)
theorem dX7_atWorst_18 : decode cX7_atWorst 18 = .ok (.imul, 1) := dk_104 ((dQ_X7_atWorst_1 2).trans dk_j2)
theorem dX7_atWorst_19 : decode cX7_atWorst 19 = .ok (.iload_n 3, 1) := dk_29 ((dQ_X7_atWorst_1 3).trans dk_j3)
theorem dX7_atWorst_20 : decode cX7_atWorst 20 = .ok (.iadd, 1) := dk_96 ((dQ_X7_atWorst_1 4).trans dk_j4)
theorem dX7_atWorst_21 : decode cX7_atWorst 21 = .ok (.iaload, 1) := dk_46 ((dQ_X7_atWorst_1 5).trans dk_j5)
theorem dX7_atWorst_22 : decode cX7_atWorst 22 = .ok (.invokestatic 71, 3) := dk_184 ((dQ_X7_atWorst_1 6).trans dk_j6) ((dQ_X7_atWorst_1 7).trans dk_j7) ((dQ_X7_atWorst_1 8).trans dk_j8) dk_vu2_0_71
theorem dX7_atWorst_25 : decode cX7_atWorst 25 = .ok (.istore_n 2, 1) := dk_61 ((dQ_X7_atWorst_1 9).trans dk_j9)
theorem dX7_atWorst_26 : decode cX7_atWorst 26 = .ok (.iinc 3 1, 3) := dk_132 ((dQ_X7_atWorst_1 10).trans dk_j10) ((dQ_X7_atWorst_1 11).trans dk_j11) ((dQ_X7_atWorst_1 12).trans dk_j12) dk_vu1_3 dk_vs1_1
theorem dX7_atWorst_29 : decode cX7_atWorst 29 = .ok (.goto (-25), 3) := dk_167 ((dQ_X7_atWorst_1 13).trans dk_j13) ((dQ_X7_atWorst_1 14).trans dk_j14) ((dQ_X7_atWorst_1 15).trans dk_j15) dk_vs2_255_231
theorem dX7_atWorst_32 : decode cX7_atWorst 32 = .ok (.iload_n 2, 1) := dk_28 ((dQ_X7_atWorst_2 0).trans dk_j0)
theorem dX7_atWorst_33 : decode cX7_atWorst 33 = .ok (.ireturn, 1) := dk_172 ((dQ_X7_atWorst_2 1).trans dk_j1)
def dT_X7_whomToAsk_2 : List UInt8 := (0x3e : UInt8) :: (0x15 : UInt8) :: (0x04 : UInt8) :: (0x3d : UInt8) :: (0x84 : UInt8) :: (0x04 : UInt8) :: (0x01 : UInt8) :: (0xa7 : UInt8) :: (0xff : UInt8) :: (0xe3 : UInt8) :: (0x1c : UInt8) :: (0xac : UInt8) :: []
def dT_X7_whomToAsk_1 : List UInt8 := (0x2a : UInt8) :: (0x15 : UInt8) :: (0x04 : UInt8) :: (0xb6 : UInt8) :: (0x00 : UInt8) :: (0x4d : UInt8) :: (0x36 : UInt8) :: (0x05 : UInt8) :: (0x15 : UInt8) :: (0x05 : UInt8) :: (0x1d : UInt8) :: (0xa2 : UInt8) :: (0x00 : UInt8) :: (0x09 : UInt8) :: (0x15 : UInt8) :: (0x05 : UInt8) :: dT_X7_whomToAsk_2
def dT_X7_whomToAsk_0 : List UInt8 := (0x02 : UInt8) :: (0x3d : UInt8) :: (0x2a : UInt8) :: (0xb4 : UInt8) :: (0x00 : UInt8) :: (0x18 : UInt8) :: (0x3e : UInt8) :: (0x03 : UInt8) :: (0x36 : UInt8) :: (0x04 : UInt8) :: (0x15 : UInt8) :: (0x04 : UInt8) :: (0x1b : UInt8) :: (0xa2 : UInt8) :: (0x00 : UInt8) :: (0x1d : UInt8) :: dT_X7_whomToAsk_1
theorem dT_X7_whomToAsk : cX7_whomToAsk.data.toList = dT_X7_whomToAsk_0 := eq_of_beq (show (cX7_whomToAsk.data.toList == dT_X7_whomToAsk_0) = true by decide +kernel)
theorem dQ_X7_whomToAsk_0 : dQ_P cX7_whomToAsk 0 dT_X7_whomToAsk_0 := fun i => by rw [dT_X7_whomToAsk]; rfl
theorem dQ_X7_whomToAsk_1 : dQ_P cX7_whomToAsk 16 dT_X7_whomToAsk_1 := fun i => (dQ_X7_whomToAsk_0 (i + 16)).trans dk_t
theorem dQ_X7_whomToAsk_2 : dQ_P cX7_whomToAsk 32 dT_X7_whomToAsk_2 := fun i => (dQ_X7_whomToAsk_1 (i + 16)).trans dk_t
theorem dX7_whomToAsk_0 : decode cX7_whomToAsk 0 = .ok (.iconst (-1), 1) := dk_2 ((dQ_X7_whomToAsk_0 0).trans dk_j0)
theorem dX7_whomToAsk_1 : decode cX7_whomToAsk 1 = .ok (.istore_n 2, 1) := dk_61 ((dQ_X7_whomToAsk_0 1).trans dk_j1)
theorem dX7_whomToAsk_2 : decode cX7_whomToAsk 2 = .ok (.aload_n 0, 1) := dk_42 ((dQ_X7_whomToAsk_0 2).trans dk_j2)
theorem dX7_whomToAsk_3 : decode cX7_whomToAsk 3 = .ok (.getfield 24, 3) := dk_180 ((dQ_X7_whomToAsk_0 3).trans dk_j3) ((dQ_X7_whomToAsk_0 4).trans dk_j4) ((dQ_X7_whomToAsk_0 5).trans dk_j5) dk_vu2_0_24
theorem dX7_whomToAsk_6 : decode cX7_whomToAsk 6 = .ok (.istore_n 3, 1) := dk_62 ((dQ_X7_whomToAsk_0 6).trans dk_j6)
theorem dX7_whomToAsk_7 : decode cX7_whomToAsk 7 = .ok (.iconst 0, 1) := dk_3 ((dQ_X7_whomToAsk_0 7).trans dk_j7)
theorem dX7_whomToAsk_8 : decode cX7_whomToAsk 8 = .ok (.istore 4, 2) := dk_54 ((dQ_X7_whomToAsk_0 8).trans dk_j8) ((dQ_X7_whomToAsk_0 9).trans dk_j9) dk_vu1_4
theorem dX7_whomToAsk_10 : decode cX7_whomToAsk 10 = .ok (.iload 4, 2) := dk_21 ((dQ_X7_whomToAsk_0 10).trans dk_j10) ((dQ_X7_whomToAsk_0 11).trans dk_j11) dk_vu1_4
theorem dX7_whomToAsk_12 : decode cX7_whomToAsk 12 = .ok (.iload_n 1, 1) := dk_27 ((dQ_X7_whomToAsk_0 12).trans dk_j12)
theorem dX7_whomToAsk_13 : decode cX7_whomToAsk 13 = .ok (.if_icmp .ge 29, 3) := dk_162 ((dQ_X7_whomToAsk_0 13).trans dk_j13) ((dQ_X7_whomToAsk_0 14).trans dk_j14) ((dQ_X7_whomToAsk_0 15).trans dk_j15) dk_vs2_0_29
theorem dX7_whomToAsk_16 : decode cX7_whomToAsk 16 = .ok (.aload_n 0, 1) := dk_42 ((dQ_X7_whomToAsk_1 0).trans dk_j0)
theorem dX7_whomToAsk_17 : decode cX7_whomToAsk 17 = .ok (.iload 4, 2) := dk_21 ((dQ_X7_whomToAsk_1 1).trans dk_j1) ((dQ_X7_whomToAsk_1 2).trans dk_j2) dk_vu1_4
theorem dX7_whomToAsk_19 : decode cX7_whomToAsk 19 = .ok (.invokevirtual 77, 3) := dk_182 ((dQ_X7_whomToAsk_1 3).trans dk_j3) ((dQ_X7_whomToAsk_1 4).trans dk_j4) ((dQ_X7_whomToAsk_1 5).trans dk_j5) dk_vu2_0_77
theorem dX7_whomToAsk_22 : decode cX7_whomToAsk 22 = .ok (.istore 5, 2) := dk_54 ((dQ_X7_whomToAsk_1 6).trans dk_j6) ((dQ_X7_whomToAsk_1 7).trans dk_j7) dk_vu1_5
theorem dX7_whomToAsk_24 : decode cX7_whomToAsk 24 = .ok (.iload 5, 2) := dk_21 ((dQ_X7_whomToAsk_1 8).trans dk_j8) ((dQ_X7_whomToAsk_1 9).trans dk_j9) dk_vu1_5
theorem dX7_whomToAsk_26 : decode cX7_whomToAsk 26 = .ok (.iload_n 3, 1) := dk_29 ((dQ_X7_whomToAsk_1 10).trans dk_j10)
theorem dX7_whomToAsk_27 : decode cX7_whomToAsk 27 = .ok (.if_icmp .ge 9, 3) := dk_162 ((dQ_X7_whomToAsk_1 11).trans dk_j11) ((dQ_X7_whomToAsk_1 12).trans dk_j12) ((dQ_X7_whomToAsk_1 13).trans dk_j13) dk_vs2_0_9
theorem dX7_whomToAsk_30 : decode cX7_whomToAsk 30 = .ok (.iload 5, 2) := dk_21 ((dQ_X7_whomToAsk_1 14).trans dk_j14) ((dQ_X7_whomToAsk_1 15).trans dk_j15) dk_vu1_5
theorem dX7_whomToAsk_32 : decode cX7_whomToAsk 32 = .ok (.istore_n 3, 1) := dk_62 ((dQ_X7_whomToAsk_2 0).trans dk_j0)
theorem dX7_whomToAsk_33 : decode cX7_whomToAsk 33 = .ok (.iload 4, 2) := dk_21 ((dQ_X7_whomToAsk_2 1).trans dk_j1) ((dQ_X7_whomToAsk_2 2).trans dk_j2) dk_vu1_4
theorem dX7_whomToAsk_35 : decode cX7_whomToAsk 35 = .ok (.istore_n 2, 1) := dk_61 ((dQ_X7_whomToAsk_2 3).trans dk_j3)
theorem dX7_whomToAsk_36 : decode cX7_whomToAsk 36 = .ok (.iinc 4 1, 3) := dk_132 ((dQ_X7_whomToAsk_2 4).trans dk_j4) ((dQ_X7_whomToAsk_2 5).trans dk_j5) ((dQ_X7_whomToAsk_2 6).trans dk_j6) dk_vu1_4 dk_vs1_1
theorem dX7_whomToAsk_39 : decode cX7_whomToAsk 39 = .ok (.goto (-29), 3) := dk_167 ((dQ_X7_whomToAsk_2 7).trans dk_j7) ((dQ_X7_whomToAsk_2 8).trans dk_j8) ((dQ_X7_whomToAsk_2 9).trans dk_j9) dk_vs2_255_227
theorem dX7_whomToAsk_42 : decode cX7_whomToAsk 42 = .ok (.iload_n 2, 1) := dk_28 ((dQ_X7_whomToAsk_2 10).trans dk_j10)
theorem dX7_whomToAsk_43 : decode cX7_whomToAsk 43 = .ok (.ireturn, 1) := dk_172 ((dQ_X7_whomToAsk_2 11).trans dk_j11)
def dT_J6_bitCount_0f7a4_3 : List UInt8 := (0x1a : UInt8) :: (0x10 : UInt8) :: (0x3f : UInt8) :: (0x7e : UInt8) :: (0xac : UInt8) :: []
def dT_J6_bitCount_0f7a4_2 : List UInt8 := (0x7e : UInt8) :: (0x3b : UInt8) :: (0x1a : UInt8) :: (0x1a : UInt8) :: (0x10 : UInt8) :: (0x08 : UInt8) :: (0x7c : UInt8) :: (0x60 : UInt8) :: (0x3b : UInt8) :: (0x1a : UInt8) :: (0x1a : UInt8) :: (0x10 : UInt8) :: (0x10 : UInt8) :: (0x7c : UInt8) :: (0x60 : UInt8) :: (0x3b : UInt8) :: dT_J6_bitCount_0f7a4_3
def dT_J6_bitCount_0f7a4_1 : List UInt8 := (0x05 : UInt8) :: (0x7c : UInt8) :: (0x13 : UInt8) :: (0x01 : UInt8) :: (0x0a : UInt8) :: (0x7e : UInt8) :: (0x60 : UInt8) :: (0x3b : UInt8) :: (0x1a : UInt8) :: (0x1a : UInt8) :: (0x07 : UInt8) :: (0x7c : UInt8) :: (0x60 : UInt8) :: (0x13 : UInt8) :: (0x01 : UInt8) :: (0x0b : UInt8) :: dT_J6_bitCount_0f7a4_2
def dT_J6_bitCount_0f7a4_0 : List UInt8 := (0x1a : UInt8) :: (0x1a : UInt8) :: (0x04 : UInt8) :: (0x7c : UInt8) :: (0x13 : UInt8) :: (0x01 : UInt8) :: (0x09 : UInt8) :: (0x7e : UInt8) :: (0x64 : UInt8) :: (0x3b : UInt8) :: (0x1a : UInt8) :: (0x13 : UInt8) :: (0x01 : UInt8) :: (0x0a : UInt8) :: (0x7e : UInt8) :: (0x1a : UInt8) :: dT_J6_bitCount_0f7a4_1
theorem dT_J6_bitCount_0f7a4 : cJ6_bitCount_0f7a4.data.toList = dT_J6_bitCount_0f7a4_0 := eq_of_beq (show (cJ6_bitCount_0f7a4.data.toList == dT_J6_bitCount_0f7a4_0) = true by decide +kernel)
theorem dQ_J6_bitCount_0f7a4_0 : dQ_P cJ6_bitCount_0f7a4 0 dT_J6_bitCount_0f7a4_0 := fun i => by rw [dT_J6_bitCount_0f7a4]; rfl
theorem dQ_J6_bitCount_0f7a4_1 : dQ_P cJ6_bitCount_0f7a4 16 dT_J6_bitCount_0f7a4_1 := fun i => (dQ_J6_bitCount_0f7a4_0 (i + 16)).trans dk_t
theorem dQ_J6_bitCount_0f7a4_2 : dQ_P cJ6_bitCount_0f7a4 32 dT_J6_bitCount_0f7a4_2 := fun i => (dQ_J6_bitCount_0f7a4_1 (i + 16)).trans dk_t
theorem dQ_J6_bitCount_0f7a4_3 : dQ_P cJ6_bitCount_0f7a4 48 dT_J6_bitCount_0f7a4_3 := fun i => (dQ_J6_bitCount_0f7a4_2 (i + 16)).trans dk_t
theorem dJ6_bitCount_0f7a4_0 : decode cJ6_bitCount_0f7a4 0 = .ok (.iload_n 0, 1) := dk_26 ((dQ_J6_bitCount_0f7a4_0 0).trans dk_j0)
theorem dJ6_bitCount_0f7a4_1 : decode cJ6_bitCount_0f7a4 1 = .ok (.iload_n 0, 1) := dk_26 ((dQ_J6_bitCount_0f7a4_0 1).trans dk_j1)
theorem dJ6_bitCount_0f7a4_2 : decode cJ6_bitCount_0f7a4 2 = .ok (.iconst 1, 1) := dk_4 ((dQ_J6_bitCount_0f7a4_0 2).trans dk_j2)
theorem dJ6_bitCount_0f7a4_3 : decode cJ6_bitCount_0f7a4 3 = .ok (.iushr, 1) := dk_124 ((dQ_J6_bitCount_0f7a4_0 3).trans dk_j3)
theorem dk_vu2_1_9 : (0x01 : UInt8).toNat * 256 + (0x09 : UInt8).toNat = (265 : Nat) := by decide +kernel
theorem dJ6_bitCount_0f7a4_4 : decode cJ6_bitCount_0f7a4 4 = .ok (.ldc_w 265, 3) := dk_19 ((dQ_J6_bitCount_0f7a4_0 4).trans dk_j4) ((dQ_J6_bitCount_0f7a4_0 5).trans dk_j5) ((dQ_J6_bitCount_0f7a4_0 6).trans dk_j6) dk_vu2_1_9
theorem dJ6_bitCount_0f7a4_7 : decode cJ6_bitCount_0f7a4 7 = .ok (.iand, 1) := dk_126 ((dQ_J6_bitCount_0f7a4_0 7).trans dk_j7)
theorem dJ6_bitCount_0f7a4_8 : decode cJ6_bitCount_0f7a4 8 = .ok (.isub, 1) := dk_100 ((dQ_J6_bitCount_0f7a4_0 8).trans dk_j8)
theorem dJ6_bitCount_0f7a4_9 : decode cJ6_bitCount_0f7a4 9 = .ok (.istore_n 0, 1) := dk_59 ((dQ_J6_bitCount_0f7a4_0 9).trans dk_j9)
theorem dJ6_bitCount_0f7a4_10 : decode cJ6_bitCount_0f7a4 10 = .ok (.iload_n 0, 1) := dk_26 ((dQ_J6_bitCount_0f7a4_0 10).trans dk_j10)
theorem dJ6_bitCount_0f7a4_11 : decode cJ6_bitCount_0f7a4 11 = .ok (.ldc_w 266, 3) := dk_19 ((dQ_J6_bitCount_0f7a4_0 11).trans dk_j11) ((dQ_J6_bitCount_0f7a4_0 12).trans dk_j12) ((dQ_J6_bitCount_0f7a4_0 13).trans dk_j13) dk_vu2_1_10
theorem dJ6_bitCount_0f7a4_14 : decode cJ6_bitCount_0f7a4 14 = .ok (.iand, 1) := dk_126 ((dQ_J6_bitCount_0f7a4_0 14).trans dk_j14)
theorem dJ6_bitCount_0f7a4_15 : decode cJ6_bitCount_0f7a4 15 = .ok (.iload_n 0, 1) := dk_26 ((dQ_J6_bitCount_0f7a4_0 15).trans dk_j15)
theorem dJ6_bitCount_0f7a4_16 : decode cJ6_bitCount_0f7a4 16 = .ok (.iconst 2, 1) := dk_5 ((dQ_J6_bitCount_0f7a4_1 0).trans dk_j0)
theorem dJ6_bitCount_0f7a4_17 : decode cJ6_bitCount_0f7a4 17 = .ok (.iushr, 1) := dk_124 ((dQ_J6_bitCount_0f7a4_1 1).trans dk_j1)
theorem dJ6_bitCount_0f7a4_18 : decode cJ6_bitCount_0f7a4 18 = .ok (.ldc_w 266, 3) := dk_19 ((dQ_J6_bitCount_0f7a4_1 2).trans dk_j2) ((dQ_J6_bitCount_0f7a4_1 3).trans dk_j3) ((dQ_J6_bitCount_0f7a4_1 4).trans dk_j4) dk_vu2_1_10
theorem dJ6_bitCount_0f7a4_21 : decode cJ6_bitCount_0f7a4 21 = .ok (.iand, 1) := dk_126 ((dQ_J6_bitCount_0f7a4_1 5).trans dk_j5)
theorem dJ6_bitCount_0f7a4_22 : decode cJ6_bitCount_0f7a4 22 = .ok (.iadd, 1) := dk_96 ((dQ_J6_bitCount_0f7a4_1 6).trans dk_j6)
theorem dJ6_bitCount_0f7a4_23 : decode cJ6_bitCount_0f7a4 23 = .ok (.istore_n 0, 1) := dk_59 ((dQ_J6_bitCount_0f7a4_1 7).trans dk_j7)
theorem dJ6_bitCount_0f7a4_24 : decode cJ6_bitCount_0f7a4 24 = .ok (.iload_n 0, 1) := dk_26 ((dQ_J6_bitCount_0f7a4_1 8).trans dk_j8)
theorem dJ6_bitCount_0f7a4_25 : decode cJ6_bitCount_0f7a4 25 = .ok (.iload_n 0, 1) := dk_26 ((dQ_J6_bitCount_0f7a4_1 9).trans dk_j9)
theorem dJ6_bitCount_0f7a4_26 : decode cJ6_bitCount_0f7a4 26 = .ok (.iconst 4, 1) := dk_7 ((dQ_J6_bitCount_0f7a4_1 10).trans dk_j10)
theorem dJ6_bitCount_0f7a4_27 : decode cJ6_bitCount_0f7a4 27 = .ok (.iushr, 1) := dk_124 ((dQ_J6_bitCount_0f7a4_1 11).trans dk_j11)
theorem dJ6_bitCount_0f7a4_28 : decode cJ6_bitCount_0f7a4 28 = .ok (.iadd, 1) := dk_96 ((dQ_J6_bitCount_0f7a4_1 12).trans dk_j12)
theorem dJ6_bitCount_0f7a4_29 : decode cJ6_bitCount_0f7a4 29 = .ok (.ldc_w 267, 3) := dk_19 ((dQ_J6_bitCount_0f7a4_1 13).trans dk_j13) ((dQ_J6_bitCount_0f7a4_1 14).trans dk_j14) ((dQ_J6_bitCount_0f7a4_1 15).trans dk_j15) dk_vu2_1_11
theorem dJ6_bitCount_0f7a4_32 : decode cJ6_bitCount_0f7a4 32 = .ok (.iand, 1) := dk_126 ((dQ_J6_bitCount_0f7a4_2 0).trans dk_j0)
theorem dJ6_bitCount_0f7a4_33 : decode cJ6_bitCount_0f7a4 33 = .ok (.istore_n 0, 1) := dk_59 ((dQ_J6_bitCount_0f7a4_2 1).trans dk_j1)
theorem dJ6_bitCount_0f7a4_34 : decode cJ6_bitCount_0f7a4 34 = .ok (.iload_n 0, 1) := dk_26 ((dQ_J6_bitCount_0f7a4_2 2).trans dk_j2)
theorem dJ6_bitCount_0f7a4_35 : decode cJ6_bitCount_0f7a4 35 = .ok (.iload_n 0, 1) := dk_26 ((dQ_J6_bitCount_0f7a4_2 3).trans dk_j3)
theorem dJ6_bitCount_0f7a4_36 : decode cJ6_bitCount_0f7a4 36 = .ok (.bipush 8, 2) := dk_16 ((dQ_J6_bitCount_0f7a4_2 4).trans dk_j4) ((dQ_J6_bitCount_0f7a4_2 5).trans dk_j5) dk_vs1_8
theorem dJ6_bitCount_0f7a4_38 : decode cJ6_bitCount_0f7a4 38 = .ok (.iushr, 1) := dk_124 ((dQ_J6_bitCount_0f7a4_2 6).trans dk_j6)
theorem dJ6_bitCount_0f7a4_39 : decode cJ6_bitCount_0f7a4 39 = .ok (.iadd, 1) := dk_96 ((dQ_J6_bitCount_0f7a4_2 7).trans dk_j7)
theorem dJ6_bitCount_0f7a4_40 : decode cJ6_bitCount_0f7a4 40 = .ok (.istore_n 0, 1) := dk_59 ((dQ_J6_bitCount_0f7a4_2 8).trans dk_j8)
theorem dJ6_bitCount_0f7a4_41 : decode cJ6_bitCount_0f7a4 41 = .ok (.iload_n 0, 1) := dk_26 ((dQ_J6_bitCount_0f7a4_2 9).trans dk_j9)
theorem dJ6_bitCount_0f7a4_42 : decode cJ6_bitCount_0f7a4 42 = .ok (.iload_n 0, 1) := dk_26 ((dQ_J6_bitCount_0f7a4_2 10).trans dk_j10)
theorem dJ6_bitCount_0f7a4_43 : decode cJ6_bitCount_0f7a4 43 = .ok (.bipush 16, 2) := dk_16 ((dQ_J6_bitCount_0f7a4_2 11).trans dk_j11) ((dQ_J6_bitCount_0f7a4_2 12).trans dk_j12) dk_vs1_16
theorem dJ6_bitCount_0f7a4_45 : decode cJ6_bitCount_0f7a4 45 = .ok (.iushr, 1) := dk_124 ((dQ_J6_bitCount_0f7a4_2 13).trans dk_j13)
theorem dJ6_bitCount_0f7a4_46 : decode cJ6_bitCount_0f7a4 46 = .ok (.iadd, 1) := dk_96 ((dQ_J6_bitCount_0f7a4_2 14).trans dk_j14)
theorem dJ6_bitCount_0f7a4_47 : decode cJ6_bitCount_0f7a4 47 = .ok (.istore_n 0, 1) := dk_59 ((dQ_J6_bitCount_0f7a4_2 15).trans dk_j15)
theorem dJ6_bitCount_0f7a4_48 : decode cJ6_bitCount_0f7a4 48 = .ok (.iload_n 0, 1) := dk_26 ((dQ_J6_bitCount_0f7a4_3 0).trans dk_j0)
theorem dk_vs1_63 : Reader.signed 8 (0x3f : UInt8).toNat = (63 : Int) := by decide +kernel
theorem dJ6_bitCount_0f7a4_49 : decode cJ6_bitCount_0f7a4 49 = .ok (.bipush 63, 2) := dk_16 ((dQ_J6_bitCount_0f7a4_3 1).trans dk_j1) ((dQ_J6_bitCount_0f7a4_3 2).trans dk_j2) dk_vs1_63
theorem dJ6_bitCount_0f7a4_51 : decode cJ6_bitCount_0f7a4 51 = .ok (.iand, 1) := dk_126 ((dQ_J6_bitCount_0f7a4_3 3).trans dk_j3)
theorem dJ6_bitCount_0f7a4_52 : decode cJ6_bitCount_0f7a4 52 = .ok (.ireturn, 1) := dk_172 ((dQ_J6_bitCount_0f7a4_3 4).trans dk_j4)
def dT_J9_max_7cf53_0 : List UInt8 := (0x1a : UInt8) :: (0x1b : UInt8) :: (0xa1 : UInt8) :: (0x00 : UInt8) :: (0x07 : UInt8) :: (0x1a : UInt8) :: (0xa7 : UInt8) :: (0x00 : UInt8) :: (0x04 : UInt8) :: (0x1b : UInt8) :: (0xac : UInt8) :: []
theorem dT_J9_max_7cf53 : cJ9_max_7cf53.data.toList = dT_J9_max_7cf53_0 := eq_of_beq (show (cJ9_max_7cf53.data.toList == dT_J9_max_7cf53_0) = true by decide +kernel)
theorem dQ_J9_max_7cf53_0 : dQ_P cJ9_max_7cf53 0 dT_J9_max_7cf53_0 := fun i => by rw [dT_J9_max_7cf53]; rfl
theorem dJ9_max_7cf53_0 : decode cJ9_max_7cf53 0 = .ok (.iload_n 0, 1) := dk_26 ((dQ_J9_max_7cf53_0 0).trans dk_j0)
theorem dJ9_max_7cf53_1 : decode cJ9_max_7cf53 1 = .ok (.iload_n 1, 1) := dk_27 ((dQ_J9_max_7cf53_0 1).trans dk_j1)
theorem dJ9_max_7cf53_2 : decode cJ9_max_7cf53 2 = .ok (.if_icmp .lt 7, 3) := dk_161 ((dQ_J9_max_7cf53_0 2).trans dk_j2) ((dQ_J9_max_7cf53_0 3).trans dk_j3) ((dQ_J9_max_7cf53_0 4).trans dk_j4) dk_vs2_0_7
theorem dJ9_max_7cf53_5 : decode cJ9_max_7cf53 5 = .ok (.iload_n 0, 1) := dk_26 ((dQ_J9_max_7cf53_0 5).trans dk_j5)
theorem dJ9_max_7cf53_6 : decode cJ9_max_7cf53 6 = .ok (.goto 4, 3) := dk_167 ((dQ_J9_max_7cf53_0 6).trans dk_j6) ((dQ_J9_max_7cf53_0 7).trans dk_j7) ((dQ_J9_max_7cf53_0 8).trans dk_j8) dk_vs2_0_4
theorem dJ9_max_7cf53_9 : decode cJ9_max_7cf53 9 = .ok (.iload_n 1, 1) := dk_27 ((dQ_J9_max_7cf53_0 9).trans dk_j9)
theorem dJ9_max_7cf53_10 : decode cJ9_max_7cf53 10 = .ok (.ireturn, 1) := dk_172 ((dQ_J9_max_7cf53_0 10).trans dk_j10)
def dT_J9_min_7cf53_0 : List UInt8 := (0x1a : UInt8) :: (0x1b : UInt8) :: (0xa3 : UInt8) :: (0x00 : UInt8) :: (0x07 : UInt8) :: (0x1a : UInt8) :: (0xa7 : UInt8) :: (0x00 : UInt8) :: (0x04 : UInt8) :: (0x1b : UInt8) :: (0xac : UInt8) :: []
theorem dT_J9_min_7cf53 : cJ9_min_7cf53.data.toList = dT_J9_min_7cf53_0 := eq_of_beq (show (cJ9_min_7cf53.data.toList == dT_J9_min_7cf53_0) = true by decide +kernel)
theorem dQ_J9_min_7cf53_0 : dQ_P cJ9_min_7cf53 0 dT_J9_min_7cf53_0 := fun i => by rw [dT_J9_min_7cf53]; rfl
theorem dJ9_min_7cf53_0 : decode cJ9_min_7cf53 0 = .ok (.iload_n 0, 1) := dk_26 ((dQ_J9_min_7cf53_0 0).trans dk_j0)
theorem dJ9_min_7cf53_1 : decode cJ9_min_7cf53 1 = .ok (.iload_n 1, 1) := dk_27 ((dQ_J9_min_7cf53_0 1).trans dk_j1)
theorem dJ9_min_7cf53_2 : decode cJ9_min_7cf53 2 = .ok (.if_icmp .gt 7, 3) := dk_163 ((dQ_J9_min_7cf53_0 2).trans dk_j2) ((dQ_J9_min_7cf53_0 3).trans dk_j3) ((dQ_J9_min_7cf53_0 4).trans dk_j4) dk_vs2_0_7
theorem dJ9_min_7cf53_5 : decode cJ9_min_7cf53 5 = .ok (.iload_n 0, 1) := dk_26 ((dQ_J9_min_7cf53_0 5).trans dk_j5)
theorem dJ9_min_7cf53_6 : decode cJ9_min_7cf53 6 = .ok (.goto 4, 3) := dk_167 ((dQ_J9_min_7cf53_0 6).trans dk_j6) ((dQ_J9_min_7cf53_0 7).trans dk_j7) ((dQ_J9_min_7cf53_0 8).trans dk_j8) dk_vs2_0_4
theorem dJ9_min_7cf53_9 : decode cJ9_min_7cf53 9 = .ok (.iload_n 1, 1) := dk_27 ((dQ_J9_min_7cf53_0 9).trans dk_j9)
theorem dJ9_min_7cf53_10 : decode cJ9_min_7cf53 10 = .ok (.ireturn, 1) := dk_172 ((dQ_J9_min_7cf53_0 10).trans dk_j10)
def dT_J9_min_f86c9_0 : List UInt8 := (0x1e : UInt8) :: (0x20 : UInt8) :: (0x94 : UInt8) :: (0x9d : UInt8) :: (0x00 : UInt8) :: (0x07 : UInt8) :: (0x1e : UInt8) :: (0xa7 : UInt8) :: (0x00 : UInt8) :: (0x04 : UInt8) :: (0x20 : UInt8) :: (0xad : UInt8) :: []
theorem dT_J9_min_f86c9 : cJ9_min_f86c9.data.toList = dT_J9_min_f86c9_0 := eq_of_beq (show (cJ9_min_f86c9.data.toList == dT_J9_min_f86c9_0) = true by decide +kernel)
theorem dQ_J9_min_f86c9_0 : dQ_P cJ9_min_f86c9 0 dT_J9_min_f86c9_0 := fun i => by rw [dT_J9_min_f86c9]; rfl
theorem dJ9_min_f86c9_0 : decode cJ9_min_f86c9 0 = .ok (.lload_n 0, 1) := dk_30 ((dQ_J9_min_f86c9_0 0).trans dk_j0)
theorem dJ9_min_f86c9_1 : decode cJ9_min_f86c9 1 = .ok (.lload_n 2, 1) := dk_32 ((dQ_J9_min_f86c9_0 1).trans dk_j1)
theorem dJ9_min_f86c9_2 : decode cJ9_min_f86c9 2 = .ok (.lcmp, 1) := dk_148 ((dQ_J9_min_f86c9_0 2).trans dk_j2)
theorem dJ9_min_f86c9_3 : decode cJ9_min_f86c9 3 = .ok (.ifCond .gt 7, 3) := dk_157 ((dQ_J9_min_f86c9_0 3).trans dk_j3) ((dQ_J9_min_f86c9_0 4).trans dk_j4) ((dQ_J9_min_f86c9_0 5).trans dk_j5) dk_vs2_0_7
theorem dJ9_min_f86c9_6 : decode cJ9_min_f86c9 6 = .ok (.lload_n 0, 1) := dk_30 ((dQ_J9_min_f86c9_0 6).trans dk_j6)
theorem dJ9_min_f86c9_7 : decode cJ9_min_f86c9 7 = .ok (.goto 4, 3) := dk_167 ((dQ_J9_min_f86c9_0 7).trans dk_j7) ((dQ_J9_min_f86c9_0 8).trans dk_j8) ((dQ_J9_min_f86c9_0 9).trans dk_j9) dk_vs2_0_4
theorem dJ9_min_f86c9_10 : decode cJ9_min_f86c9 10 = .ok (.lload_n 2, 1) := dk_32 ((dQ_J9_min_f86c9_0 10).trans dk_j10)
theorem dJ9_min_f86c9_11 : decode cJ9_min_f86c9 11 = .ok (.lreturn, 1) := dk_173 ((dQ_J9_min_f86c9_0 11).trans dk_j11)
def dT_J0_length_8abf5_0 : List UInt8 := (0x2a : UInt8) :: (0xb4 : UInt8) :: (0x00 : UInt8) :: (0x09 : UInt8) :: (0xbe : UInt8) :: (0x2a : UInt8) :: (0xb6 : UInt8) :: (0x01 : UInt8) :: (0x4f : UInt8) :: (0x7a : UInt8) :: (0xac : UInt8) :: []
theorem dT_J0_length_8abf5 : cJ0_length_8abf5.data.toList = dT_J0_length_8abf5_0 := eq_of_beq (show (cJ0_length_8abf5.data.toList == dT_J0_length_8abf5_0) = true by decide +kernel)
theorem dQ_J0_length_8abf5_0 : dQ_P cJ0_length_8abf5 0 dT_J0_length_8abf5_0 := fun i => by rw [dT_J0_length_8abf5]; rfl
theorem dJ0_length_8abf5_0 : decode cJ0_length_8abf5 0 = .ok (.aload_n 0, 1) := dk_42 ((dQ_J0_length_8abf5_0 0).trans dk_j0)
theorem dJ0_length_8abf5_1 : decode cJ0_length_8abf5 1 = .ok (.getfield 9, 3) := dk_180 ((dQ_J0_length_8abf5_0 1).trans dk_j1) ((dQ_J0_length_8abf5_0 2).trans dk_j2) ((dQ_J0_length_8abf5_0 3).trans dk_j3) dk_vu2_0_9
theorem dJ0_length_8abf5_4 : decode cJ0_length_8abf5 4 = .ok (.arraylength, 1) := dk_190 ((dQ_J0_length_8abf5_0 4).trans dk_j4)
theorem dJ0_length_8abf5_5 : decode cJ0_length_8abf5 5 = .ok (.aload_n 0, 1) := dk_42 ((dQ_J0_length_8abf5_0 5).trans dk_j5)
theorem dJ0_length_8abf5_6 : decode cJ0_length_8abf5 6 = .ok (.invokevirtual 335, 3) := dk_182 ((dQ_J0_length_8abf5_0 6).trans dk_j6) ((dQ_J0_length_8abf5_0 7).trans dk_j7) ((dQ_J0_length_8abf5_0 8).trans dk_j8) dk_vu2_1_79
theorem dJ0_length_8abf5_9 : decode cJ0_length_8abf5 9 = .ok (.ishr, 1) := dk_122 ((dQ_J0_length_8abf5_0 9).trans dk_j9)
theorem dJ0_length_8abf5_10 : decode cJ0_length_8abf5 10 = .ok (.ireturn, 1) := dk_172 ((dQ_J0_length_8abf5_0 10).trans dk_j10)
def dT_J0_charAt_5068e_1 : List UInt8 := (0x2a : UInt8) :: (0xb4 : UInt8) :: (0x00 : UInt8) :: (0x09 : UInt8) :: (0x1b : UInt8) :: (0xb8 : UInt8) :: (0x01 : UInt8) :: (0xf2 : UInt8) :: (0xac : UInt8) :: []
def dT_J0_charAt_5068e_0 : List UInt8 := (0x2a : UInt8) :: (0xb6 : UInt8) :: (0x01 : UInt8) :: (0xec : UInt8) :: (0x99 : UInt8) :: (0x00 : UInt8) :: (0x0c : UInt8) :: (0x2a : UInt8) :: (0xb4 : UInt8) :: (0x00 : UInt8) :: (0x09 : UInt8) :: (0x1b : UInt8) :: (0xb8 : UInt8) :: (0x01 : UInt8) :: (0xef : UInt8) :: (0xac : UInt8) :: dT_J0_charAt_5068e_1
theorem dT_J0_charAt_5068e : cJ0_charAt_5068e.data.toList = dT_J0_charAt_5068e_0 := eq_of_beq (show (cJ0_charAt_5068e.data.toList == dT_J0_charAt_5068e_0) = true by decide +kernel)
theorem dQ_J0_charAt_5068e_0 : dQ_P cJ0_charAt_5068e 0 dT_J0_charAt_5068e_0 := fun i => by rw [dT_J0_charAt_5068e]; rfl
theorem dQ_J0_charAt_5068e_1 : dQ_P cJ0_charAt_5068e 16 dT_J0_charAt_5068e_1 := fun i => (dQ_J0_charAt_5068e_0 (i + 16)).trans dk_t
theorem dJ0_charAt_5068e_0 : decode cJ0_charAt_5068e 0 = .ok (.aload_n 0, 1) := dk_42 ((dQ_J0_charAt_5068e_0 0).trans dk_j0)
theorem dk_vu2_1_236 : (0x01 : UInt8).toNat * 256 + (0xec : UInt8).toNat = (492 : Nat) := by decide +kernel
theorem dJ0_charAt_5068e_1 : decode cJ0_charAt_5068e 1 = .ok (.invokevirtual 492, 3) := dk_182 ((dQ_J0_charAt_5068e_0 1).trans dk_j1) ((dQ_J0_charAt_5068e_0 2).trans dk_j2) ((dQ_J0_charAt_5068e_0 3).trans dk_j3) dk_vu2_1_236
theorem dJ0_charAt_5068e_4 : decode cJ0_charAt_5068e 4 = .ok (.ifCond .eq 12, 3) := dk_153 ((dQ_J0_charAt_5068e_0 4).trans dk_j4) ((dQ_J0_charAt_5068e_0 5).trans dk_j5) ((dQ_J0_charAt_5068e_0 6).trans dk_j6) dk_vs2_0_12
theorem dJ0_charAt_5068e_7 : decode cJ0_charAt_5068e 7 = .ok (.aload_n 0, 1) := dk_42 ((dQ_J0_charAt_5068e_0 7).trans dk_j7)
theorem dJ0_charAt_5068e_8 : decode cJ0_charAt_5068e 8 = .ok (.getfield 9, 3) := dk_180 ((dQ_J0_charAt_5068e_0 8).trans dk_j8) ((dQ_J0_charAt_5068e_0 9).trans dk_j9) ((dQ_J0_charAt_5068e_0 10).trans dk_j10) dk_vu2_0_9
theorem dJ0_charAt_5068e_11 : decode cJ0_charAt_5068e 11 = .ok (.iload_n 1, 1) := dk_27 ((dQ_J0_charAt_5068e_0 11).trans dk_j11)
theorem dk_vu2_1_239 : (0x01 : UInt8).toNat * 256 + (0xef : UInt8).toNat = (495 : Nat) := by decide +kernel
theorem dJ0_charAt_5068e_12 : decode cJ0_charAt_5068e 12 = .ok (.invokestatic 495, 3) := dk_184 ((dQ_J0_charAt_5068e_0 12).trans dk_j12) ((dQ_J0_charAt_5068e_0 13).trans dk_j13) ((dQ_J0_charAt_5068e_0 14).trans dk_j14) dk_vu2_1_239
theorem dJ0_charAt_5068e_15 : decode cJ0_charAt_5068e 15 = .ok (.ireturn, 1) := dk_172 ((dQ_J0_charAt_5068e_0 15).trans dk_j15)
theorem dJ0_charAt_5068e_16 : decode cJ0_charAt_5068e 16 = .ok (.aload_n 0, 1) := dk_42 ((dQ_J0_charAt_5068e_1 0).trans dk_j0)
theorem dJ0_charAt_5068e_17 : decode cJ0_charAt_5068e 17 = .ok (.getfield 9, 3) := dk_180 ((dQ_J0_charAt_5068e_1 1).trans dk_j1) ((dQ_J0_charAt_5068e_1 2).trans dk_j2) ((dQ_J0_charAt_5068e_1 3).trans dk_j3) dk_vu2_0_9
theorem dJ0_charAt_5068e_20 : decode cJ0_charAt_5068e 20 = .ok (.iload_n 1, 1) := dk_27 ((dQ_J0_charAt_5068e_1 4).trans dk_j4)
theorem dk_vu2_1_242 : (0x01 : UInt8).toNat * 256 + (0xf2 : UInt8).toNat = (498 : Nat) := by decide +kernel
theorem dJ0_charAt_5068e_21 : decode cJ0_charAt_5068e 21 = .ok (.invokestatic 498, 3) := dk_184 ((dQ_J0_charAt_5068e_1 5).trans dk_j5) ((dQ_J0_charAt_5068e_1 6).trans dk_j6) ((dQ_J0_charAt_5068e_1 7).trans dk_j7) dk_vu2_1_242
theorem dJ0_charAt_5068e_24 : decode cJ0_charAt_5068e 24 = .ok (.ireturn, 1) := dk_172 ((dQ_J0_charAt_5068e_1 8).trans dk_j8)
def dT_J0_coder_7d493_0 : List UInt8 := (0xb2 : UInt8) :: (0x00 : UInt8) :: (0x26 : UInt8) :: (0x99 : UInt8) :: (0x00 : UInt8) :: (0x0a : UInt8) :: (0x2a : UInt8) :: (0xb4 : UInt8) :: (0x00 : UInt8) :: (0x0f : UInt8) :: (0xa7 : UInt8) :: (0x00 : UInt8) :: (0x04 : UInt8) :: (0x04 : UInt8) :: (0xac : UInt8) :: []
theorem dT_J0_coder_7d493 : cJ0_coder_7d493.data.toList = dT_J0_coder_7d493_0 := eq_of_beq (show (cJ0_coder_7d493.data.toList == dT_J0_coder_7d493_0) = true by decide +kernel)
theorem dQ_J0_coder_7d493_0 : dQ_P cJ0_coder_7d493 0 dT_J0_coder_7d493_0 := fun i => by rw [dT_J0_coder_7d493]; rfl
theorem dJ0_coder_7d493_0 : decode cJ0_coder_7d493 0 = .ok (.getstatic 38, 3) := dk_178 ((dQ_J0_coder_7d493_0 0).trans dk_j0) ((dQ_J0_coder_7d493_0 1).trans dk_j1) ((dQ_J0_coder_7d493_0 2).trans dk_j2) dk_vu2_0_38
theorem dJ0_coder_7d493_3 : decode cJ0_coder_7d493 3 = .ok (.ifCond .eq 10, 3) := dk_153 ((dQ_J0_coder_7d493_0 3).trans dk_j3) ((dQ_J0_coder_7d493_0 4).trans dk_j4) ((dQ_J0_coder_7d493_0 5).trans dk_j5) dk_vs2_0_10
theorem dJ0_coder_7d493_6 : decode cJ0_coder_7d493 6 = .ok (.aload_n 0, 1) := dk_42 ((dQ_J0_coder_7d493_0 6).trans dk_j6)
theorem dJ0_coder_7d493_7 : decode cJ0_coder_7d493 7 = .ok (.getfield 15, 3) := dk_180 ((dQ_J0_coder_7d493_0 7).trans dk_j7) ((dQ_J0_coder_7d493_0 8).trans dk_j8) ((dQ_J0_coder_7d493_0 9).trans dk_j9) dk_vu2_0_15
theorem dJ0_coder_7d493_10 : decode cJ0_coder_7d493 10 = .ok (.goto 4, 3) := dk_167 ((dQ_J0_coder_7d493_0 10).trans dk_j10) ((dQ_J0_coder_7d493_0 11).trans dk_j11) ((dQ_J0_coder_7d493_0 12).trans dk_j12) dk_vs2_0_4
theorem dJ0_coder_7d493_13 : decode cJ0_coder_7d493 13 = .ok (.iconst 1, 1) := dk_4 ((dQ_J0_coder_7d493_0 13).trans dk_j13)
theorem dJ0_coder_7d493_14 : decode cJ0_coder_7d493 14 = .ok (.ireturn, 1) := dk_172 ((dQ_J0_coder_7d493_0 14).trans dk_j14)
def dT_J0_isLatin1_aae02_1 : List UInt8 := (0x04 : UInt8) :: (0x03 : UInt8) :: (0xac : UInt8) :: []
def dT_J0_isLatin1_aae02_0 : List UInt8 := (0xb2 : UInt8) :: (0x00 : UInt8) :: (0x26 : UInt8) :: (0x99 : UInt8) :: (0x00 : UInt8) :: (0x0e : UInt8) :: (0x2a : UInt8) :: (0xb4 : UInt8) :: (0x00 : UInt8) :: (0x0f : UInt8) :: (0x9a : UInt8) :: (0x00 : UInt8) :: (0x07 : UInt8) :: (0x04 : UInt8) :: (0xa7 : UInt8) :: (0x00 : UInt8) :: dT_J0_isLatin1_aae02_1
theorem dT_J0_isLatin1_aae02 : cJ0_isLatin1_aae02.data.toList = dT_J0_isLatin1_aae02_0 := eq_of_beq (show (cJ0_isLatin1_aae02.data.toList == dT_J0_isLatin1_aae02_0) = true by decide +kernel)
theorem dQ_J0_isLatin1_aae02_0 : dQ_P cJ0_isLatin1_aae02 0 dT_J0_isLatin1_aae02_0 := fun i => by rw [dT_J0_isLatin1_aae02]; rfl
theorem dQ_J0_isLatin1_aae02_1 : dQ_P cJ0_isLatin1_aae02 16 dT_J0_isLatin1_aae02_1 := fun i => (dQ_J0_isLatin1_aae02_0 (i + 16)).trans dk_t
theorem dJ0_isLatin1_aae02_0 : decode cJ0_isLatin1_aae02 0 = .ok (.getstatic 38, 3) := dk_178 ((dQ_J0_isLatin1_aae02_0 0).trans dk_j0) ((dQ_J0_isLatin1_aae02_0 1).trans dk_j1) ((dQ_J0_isLatin1_aae02_0 2).trans dk_j2) dk_vu2_0_38
theorem dJ0_isLatin1_aae02_3 : decode cJ0_isLatin1_aae02 3 = .ok (.ifCond .eq 14, 3) := dk_153 ((dQ_J0_isLatin1_aae02_0 3).trans dk_j3) ((dQ_J0_isLatin1_aae02_0 4).trans dk_j4) ((dQ_J0_isLatin1_aae02_0 5).trans dk_j5) dk_vs2_0_14
theorem dJ0_isLatin1_aae02_6 : decode cJ0_isLatin1_aae02 6 = .ok (.aload_n 0, 1) := dk_42 ((dQ_J0_isLatin1_aae02_0 6).trans dk_j6)
theorem dJ0_isLatin1_aae02_7 : decode cJ0_isLatin1_aae02 7 = .ok (.getfield 15, 3) := dk_180 ((dQ_J0_isLatin1_aae02_0 7).trans dk_j7) ((dQ_J0_isLatin1_aae02_0 8).trans dk_j8) ((dQ_J0_isLatin1_aae02_0 9).trans dk_j9) dk_vu2_0_15
theorem dJ0_isLatin1_aae02_10 : decode cJ0_isLatin1_aae02 10 = .ok (.ifCond .ne 7, 3) := dk_154 ((dQ_J0_isLatin1_aae02_0 10).trans dk_j10) ((dQ_J0_isLatin1_aae02_0 11).trans dk_j11) ((dQ_J0_isLatin1_aae02_0 12).trans dk_j12) dk_vs2_0_7
theorem dJ0_isLatin1_aae02_13 : decode cJ0_isLatin1_aae02 13 = .ok (.iconst 1, 1) := dk_4 ((dQ_J0_isLatin1_aae02_0 13).trans dk_j13)
theorem dJ0_isLatin1_aae02_14 : decode cJ0_isLatin1_aae02 14 = .ok (.goto 4, 3) := dk_167 ((dQ_J0_isLatin1_aae02_0 14).trans dk_j14) ((dQ_J0_isLatin1_aae02_0 15).trans dk_j15) ((dQ_J0_isLatin1_aae02_1 0).trans dk_j0) dk_vs2_0_4
theorem dJ0_isLatin1_aae02_17 : decode cJ0_isLatin1_aae02 17 = .ok (.iconst 0, 1) := dk_3 ((dQ_J0_isLatin1_aae02_1 1).trans dk_j1)
theorem dJ0_isLatin1_aae02_18 : decode cJ0_isLatin1_aae02 18 = .ok (.ireturn, 1) := dk_172 ((dQ_J0_isLatin1_aae02_1 2).trans dk_j2)
def dT_J0_checkIndex_df160_0 : List UInt8 := (0x1a : UInt8) :: (0x1b : UInt8) :: (0xb2 : UInt8) :: (0x04 : UInt8) :: (0x1d : UInt8) :: (0xb8 : UInt8) :: (0x04 : UInt8) :: (0x23 : UInt8) :: (0x57 : UInt8) :: (0xb1 : UInt8) :: []
theorem dT_J0_checkIndex_df160 : cJ0_checkIndex_df160.data.toList = dT_J0_checkIndex_df160_0 := eq_of_beq (show (cJ0_checkIndex_df160.data.toList == dT_J0_checkIndex_df160_0) = true by decide +kernel)
theorem dQ_J0_checkIndex_df160_0 : dQ_P cJ0_checkIndex_df160 0 dT_J0_checkIndex_df160_0 := fun i => by rw [dT_J0_checkIndex_df160]; rfl
theorem dJ0_checkIndex_df160_0 : decode cJ0_checkIndex_df160 0 = .ok (.iload_n 0, 1) := dk_26 ((dQ_J0_checkIndex_df160_0 0).trans dk_j0)
theorem dJ0_checkIndex_df160_1 : decode cJ0_checkIndex_df160 1 = .ok (.iload_n 1, 1) := dk_27 ((dQ_J0_checkIndex_df160_0 1).trans dk_j1)
theorem dk_vu2_4_29 : (0x04 : UInt8).toNat * 256 + (0x1d : UInt8).toNat = (1053 : Nat) := by decide +kernel
theorem dJ0_checkIndex_df160_2 : decode cJ0_checkIndex_df160 2 = .ok (.getstatic 1053, 3) := dk_178 ((dQ_J0_checkIndex_df160_0 2).trans dk_j2) ((dQ_J0_checkIndex_df160_0 3).trans dk_j3) ((dQ_J0_checkIndex_df160_0 4).trans dk_j4) dk_vu2_4_29
theorem dk_vu2_4_35 : (0x04 : UInt8).toNat * 256 + (0x23 : UInt8).toNat = (1059 : Nat) := by decide +kernel
theorem dJ0_checkIndex_df160_5 : decode cJ0_checkIndex_df160 5 = .ok (.invokestatic 1059, 3) := dk_184 ((dQ_J0_checkIndex_df160_0 5).trans dk_j5) ((dQ_J0_checkIndex_df160_0 6).trans dk_j6) ((dQ_J0_checkIndex_df160_0 7).trans dk_j7) dk_vu2_4_35
theorem dJ0_checkIndex_df160_8 : decode cJ0_checkIndex_df160 8 = .ok (.pop, 1) := dk_87 ((dQ_J0_checkIndex_df160_0 8).trans dk_j8)
theorem dJ0_checkIndex_df160_9 : decode cJ0_checkIndex_df160 9 = .ok (.return_, 1) := dk_177 ((dQ_J0_checkIndex_df160_0 9).trans dk_j9)
def dT_J1_charAt_3b067_0 : List UInt8 := (0x1b : UInt8) :: (0x2a : UInt8) :: (0xbe : UInt8) :: (0xb8 : UInt8) :: (0x00 : UInt8) :: (0x09 : UInt8) :: (0x2a : UInt8) :: (0x1b : UInt8) :: (0x33 : UInt8) :: (0x11 : UInt8) :: (0x00 : UInt8) :: (0xff : UInt8) :: (0x7e : UInt8) :: (0x92 : UInt8) :: (0xac : UInt8) :: []
theorem dT_J1_charAt_3b067 : cJ1_charAt_3b067.data.toList = dT_J1_charAt_3b067_0 := eq_of_beq (show (cJ1_charAt_3b067.data.toList == dT_J1_charAt_3b067_0) = true by decide +kernel)
theorem dQ_J1_charAt_3b067_0 : dQ_P cJ1_charAt_3b067 0 dT_J1_charAt_3b067_0 := fun i => by rw [dT_J1_charAt_3b067]; rfl
theorem dJ1_charAt_3b067_0 : decode cJ1_charAt_3b067 0 = .ok (.iload_n 1, 1) := dk_27 ((dQ_J1_charAt_3b067_0 0).trans dk_j0)
theorem dJ1_charAt_3b067_1 : decode cJ1_charAt_3b067 1 = .ok (.aload_n 0, 1) := dk_42 ((dQ_J1_charAt_3b067_0 1).trans dk_j1)
theorem dJ1_charAt_3b067_2 : decode cJ1_charAt_3b067 2 = .ok (.arraylength, 1) := dk_190 ((dQ_J1_charAt_3b067_0 2).trans dk_j2)
theorem dJ1_charAt_3b067_3 : decode cJ1_charAt_3b067 3 = .ok (.invokestatic 9, 3) := dk_184 ((dQ_J1_charAt_3b067_0 3).trans dk_j3) ((dQ_J1_charAt_3b067_0 4).trans dk_j4) ((dQ_J1_charAt_3b067_0 5).trans dk_j5) dk_vu2_0_9
theorem dJ1_charAt_3b067_6 : decode cJ1_charAt_3b067 6 = .ok (.aload_n 0, 1) := dk_42 ((dQ_J1_charAt_3b067_0 6).trans dk_j6)
theorem dJ1_charAt_3b067_7 : decode cJ1_charAt_3b067 7 = .ok (.iload_n 1, 1) := dk_27 ((dQ_J1_charAt_3b067_0 7).trans dk_j7)
theorem dJ1_charAt_3b067_8 : decode cJ1_charAt_3b067 8 = .ok (.baload, 1) := dk_51 ((dQ_J1_charAt_3b067_0 8).trans dk_j8)
theorem dJ1_charAt_3b067_9 : decode cJ1_charAt_3b067 9 = .ok (.sipush 255, 3) := dk_17 ((dQ_J1_charAt_3b067_0 9).trans dk_j9) ((dQ_J1_charAt_3b067_0 10).trans dk_j10) ((dQ_J1_charAt_3b067_0 11).trans dk_j11) dk_vs2_0_255
theorem dJ1_charAt_3b067_12 : decode cJ1_charAt_3b067 12 = .ok (.iand, 1) := dk_126 ((dQ_J1_charAt_3b067_0 12).trans dk_j12)
theorem dJ1_charAt_3b067_13 : decode cJ1_charAt_3b067 13 = .ok (.i2c, 1) := dk_146 ((dQ_J1_charAt_3b067_0 13).trans dk_j13)
theorem dJ1_charAt_3b067_14 : decode cJ1_charAt_3b067 14 = .ok (.ireturn, 1) := dk_172 ((dQ_J1_charAt_3b067_0 14).trans dk_j14)
def dT_J2_getChar_3b067_3 : List UInt8 := (0x33 : UInt8) :: (0x11 : UInt8) :: (0x00 : UInt8) :: (0xff : UInt8) :: (0x7e : UInt8) :: (0xb2 : UInt8) :: (0x00 : UInt8) :: (0x3f : UInt8) :: (0x78 : UInt8) :: (0x80 : UInt8) :: (0x92 : UInt8) :: (0xac : UInt8) :: []
def dT_J2_getChar_3b067_2 : List UInt8 := (0x2a : UInt8) :: (0x1b : UInt8) :: (0x84 : UInt8) :: (0x01 : UInt8) :: (0x01 : UInt8) :: (0x33 : UInt8) :: (0x11 : UInt8) :: (0x00 : UInt8) :: (0xff : UInt8) :: (0x7e : UInt8) :: (0xb2 : UInt8) :: (0x00 : UInt8) :: (0x3b : UInt8) :: (0x78 : UInt8) :: (0x2a : UInt8) :: (0x1b : UInt8) :: dT_J2_getChar_3b067_3
def dT_J2_getChar_3b067_1 : List UInt8 := (0x00 : UInt8) :: (0x0d : UInt8) :: (0xbb : UInt8) :: (0x00 : UInt8) :: (0x34 : UInt8) :: (0x59 : UInt8) :: (0x12 : UInt8) :: (0x36 : UInt8) :: (0xb7 : UInt8) :: (0x00 : UInt8) :: (0x38 : UInt8) :: (0xbf : UInt8) :: (0x1b : UInt8) :: (0x04 : UInt8) :: (0x78 : UInt8) :: (0x3c : UInt8) :: dT_J2_getChar_3b067_2
def dT_J2_getChar_3b067_0 : List UInt8 := (0xb2 : UInt8) :: (0x00 : UInt8) :: (0x2c : UInt8) :: (0x9a : UInt8) :: (0x00 : UInt8) :: (0x19 : UInt8) :: (0x1b : UInt8) :: (0x9b : UInt8) :: (0x00 : UInt8) :: (0x0b : UInt8) :: (0x1b : UInt8) :: (0x2a : UInt8) :: (0xb8 : UInt8) :: (0x00 : UInt8) :: (0x30 : UInt8) :: (0xa1 : UInt8) :: dT_J2_getChar_3b067_1
theorem dT_J2_getChar_3b067 : cJ2_getChar_3b067.data.toList = dT_J2_getChar_3b067_0 := eq_of_beq (show (cJ2_getChar_3b067.data.toList == dT_J2_getChar_3b067_0) = true by decide +kernel)
theorem dQ_J2_getChar_3b067_0 : dQ_P cJ2_getChar_3b067 0 dT_J2_getChar_3b067_0 := fun i => by rw [dT_J2_getChar_3b067]; rfl
theorem dQ_J2_getChar_3b067_1 : dQ_P cJ2_getChar_3b067 16 dT_J2_getChar_3b067_1 := fun i => (dQ_J2_getChar_3b067_0 (i + 16)).trans dk_t
theorem dQ_J2_getChar_3b067_2 : dQ_P cJ2_getChar_3b067 32 dT_J2_getChar_3b067_2 := fun i => (dQ_J2_getChar_3b067_1 (i + 16)).trans dk_t
theorem dQ_J2_getChar_3b067_3 : dQ_P cJ2_getChar_3b067 48 dT_J2_getChar_3b067_3 := fun i => (dQ_J2_getChar_3b067_2 (i + 16)).trans dk_t
theorem dJ2_getChar_3b067_0 : decode cJ2_getChar_3b067 0 = .ok (.getstatic 44, 3) := dk_178 ((dQ_J2_getChar_3b067_0 0).trans dk_j0) ((dQ_J2_getChar_3b067_0 1).trans dk_j1) ((dQ_J2_getChar_3b067_0 2).trans dk_j2) dk_vu2_0_44
theorem dJ2_getChar_3b067_3 : decode cJ2_getChar_3b067 3 = .ok (.ifCond .ne 25, 3) := dk_154 ((dQ_J2_getChar_3b067_0 3).trans dk_j3) ((dQ_J2_getChar_3b067_0 4).trans dk_j4) ((dQ_J2_getChar_3b067_0 5).trans dk_j5) dk_vs2_0_25
theorem dJ2_getChar_3b067_6 : decode cJ2_getChar_3b067 6 = .ok (.iload_n 1, 1) := dk_27 ((dQ_J2_getChar_3b067_0 6).trans dk_j6)
theorem dJ2_getChar_3b067_7 : decode cJ2_getChar_3b067 7 = .ok (.ifCond .lt 11, 3) := dk_155 ((dQ_J2_getChar_3b067_0 7).trans dk_j7) ((dQ_J2_getChar_3b067_0 8).trans dk_j8) ((dQ_J2_getChar_3b067_0 9).trans dk_j9) dk_vs2_0_11
theorem dJ2_getChar_3b067_10 : decode cJ2_getChar_3b067 10 = .ok (.iload_n 1, 1) := dk_27 ((dQ_J2_getChar_3b067_0 10).trans dk_j10)
theorem dJ2_getChar_3b067_11 : decode cJ2_getChar_3b067 11 = .ok (.aload_n 0, 1) := dk_42 ((dQ_J2_getChar_3b067_0 11).trans dk_j11)
theorem dJ2_getChar_3b067_12 : decode cJ2_getChar_3b067 12 = .ok (.invokestatic 48, 3) := dk_184 ((dQ_J2_getChar_3b067_0 12).trans dk_j12) ((dQ_J2_getChar_3b067_0 13).trans dk_j13) ((dQ_J2_getChar_3b067_0 14).trans dk_j14) dk_vu2_0_48
theorem dJ2_getChar_3b067_15 : decode cJ2_getChar_3b067 15 = .ok (.if_icmp .lt 13, 3) := dk_161 ((dQ_J2_getChar_3b067_0 15).trans dk_j15) ((dQ_J2_getChar_3b067_1 0).trans dk_j0) ((dQ_J2_getChar_3b067_1 1).trans dk_j1) dk_vs2_0_13
theorem dJ2_getChar_3b067_18 : decode cJ2_getChar_3b067 18 = .ok (.new 52, 3) := dk_187 ((dQ_J2_getChar_3b067_1 2).trans dk_j2) ((dQ_J2_getChar_3b067_1 3).trans dk_j3) ((dQ_J2_getChar_3b067_1 4).trans dk_j4) dk_vu2_0_52
theorem dJ2_getChar_3b067_21 : decode cJ2_getChar_3b067 21 = .ok (.dup, 1) := dk_89 ((dQ_J2_getChar_3b067_1 5).trans dk_j5)
theorem dk_vu1_54 : (0x36 : UInt8).toNat = (54 : Nat) := by decide +kernel
theorem dJ2_getChar_3b067_22 : decode cJ2_getChar_3b067 22 = .ok (.ldc 54, 2) := dk_18 ((dQ_J2_getChar_3b067_1 6).trans dk_j6) ((dQ_J2_getChar_3b067_1 7).trans dk_j7) dk_vu1_54
theorem dJ2_getChar_3b067_24 : decode cJ2_getChar_3b067 24 = .ok (.invokespecial 56, 3) := dk_183 ((dQ_J2_getChar_3b067_1 8).trans dk_j8) ((dQ_J2_getChar_3b067_1 9).trans dk_j9) ((dQ_J2_getChar_3b067_1 10).trans dk_j10) dk_vu2_0_56
theorem dJ2_getChar_3b067_27 : decode cJ2_getChar_3b067 27 = .ok (.athrow, 1) := dk_191 ((dQ_J2_getChar_3b067_1 11).trans dk_j11)
theorem dJ2_getChar_3b067_28 : decode cJ2_getChar_3b067 28 = .ok (.iload_n 1, 1) := dk_27 ((dQ_J2_getChar_3b067_1 12).trans dk_j12)
theorem dJ2_getChar_3b067_29 : decode cJ2_getChar_3b067 29 = .ok (.iconst 1, 1) := dk_4 ((dQ_J2_getChar_3b067_1 13).trans dk_j13)
theorem dJ2_getChar_3b067_30 : decode cJ2_getChar_3b067 30 = .ok (.ishl, 1) := dk_120 ((dQ_J2_getChar_3b067_1 14).trans dk_j14)
theorem dJ2_getChar_3b067_31 : decode cJ2_getChar_3b067 31 = .ok (.istore_n 1, 1) := dk_60 ((dQ_J2_getChar_3b067_1 15).trans dk_j15)
theorem dJ2_getChar_3b067_32 : decode cJ2_getChar_3b067 32 = .ok (.aload_n 0, 1) := dk_42 ((dQ_J2_getChar_3b067_2 0).trans dk_j0)
theorem dJ2_getChar_3b067_33 : decode cJ2_getChar_3b067 33 = .ok (.iload_n 1, 1) := dk_27 ((dQ_J2_getChar_3b067_2 1).trans dk_j1)
theorem dJ2_getChar_3b067_34 : decode cJ2_getChar_3b067 34 = .ok (.iinc 1 1, 3) := dk_132 ((dQ_J2_getChar_3b067_2 2).trans dk_j2) ((dQ_J2_getChar_3b067_2 3).trans dk_j3) ((dQ_J2_getChar_3b067_2 4).trans dk_j4) dk_vu1_1 dk_vs1_1
theorem dJ2_getChar_3b067_37 : decode cJ2_getChar_3b067 37 = .ok (.baload, 1) := dk_51 ((dQ_J2_getChar_3b067_2 5).trans dk_j5)
theorem dJ2_getChar_3b067_38 : decode cJ2_getChar_3b067 38 = .ok (.sipush 255, 3) := dk_17 ((dQ_J2_getChar_3b067_2 6).trans dk_j6) ((dQ_J2_getChar_3b067_2 7).trans dk_j7) ((dQ_J2_getChar_3b067_2 8).trans dk_j8) dk_vs2_0_255
theorem dJ2_getChar_3b067_41 : decode cJ2_getChar_3b067 41 = .ok (.iand, 1) := dk_126 ((dQ_J2_getChar_3b067_2 9).trans dk_j9)
theorem dk_vu2_0_59 : (0x00 : UInt8).toNat * 256 + (0x3b : UInt8).toNat = (59 : Nat) := by decide +kernel
theorem dJ2_getChar_3b067_42 : decode cJ2_getChar_3b067 42 = .ok (.getstatic 59, 3) := dk_178 ((dQ_J2_getChar_3b067_2 10).trans dk_j10) ((dQ_J2_getChar_3b067_2 11).trans dk_j11) ((dQ_J2_getChar_3b067_2 12).trans dk_j12) dk_vu2_0_59
theorem dJ2_getChar_3b067_45 : decode cJ2_getChar_3b067 45 = .ok (.ishl, 1) := dk_120 ((dQ_J2_getChar_3b067_2 13).trans dk_j13)
theorem dJ2_getChar_3b067_46 : decode cJ2_getChar_3b067 46 = .ok (.aload_n 0, 1) := dk_42 ((dQ_J2_getChar_3b067_2 14).trans dk_j14)
theorem dJ2_getChar_3b067_47 : decode cJ2_getChar_3b067 47 = .ok (.iload_n 1, 1) := dk_27 ((dQ_J2_getChar_3b067_2 15).trans dk_j15)
theorem dJ2_getChar_3b067_48 : decode cJ2_getChar_3b067 48 = .ok (.baload, 1) := dk_51 ((dQ_J2_getChar_3b067_3 0).trans dk_j0)
theorem dJ2_getChar_3b067_49 : decode cJ2_getChar_3b067 49 = .ok (.sipush 255, 3) := dk_17 ((dQ_J2_getChar_3b067_3 1).trans dk_j1) ((dQ_J2_getChar_3b067_3 2).trans dk_j2) ((dQ_J2_getChar_3b067_3 3).trans dk_j3) dk_vs2_0_255
theorem dJ2_getChar_3b067_52 : decode cJ2_getChar_3b067 52 = .ok (.iand, 1) := dk_126 ((dQ_J2_getChar_3b067_3 4).trans dk_j4)
theorem dJ2_getChar_3b067_53 : decode cJ2_getChar_3b067 53 = .ok (.getstatic 63, 3) := dk_178 ((dQ_J2_getChar_3b067_3 5).trans dk_j5) ((dQ_J2_getChar_3b067_3 6).trans dk_j6) ((dQ_J2_getChar_3b067_3 7).trans dk_j7) dk_vu2_0_63
theorem dJ2_getChar_3b067_56 : decode cJ2_getChar_3b067 56 = .ok (.ishl, 1) := dk_120 ((dQ_J2_getChar_3b067_3 8).trans dk_j8)
theorem dJ2_getChar_3b067_57 : decode cJ2_getChar_3b067 57 = .ok (.ior, 1) := dk_128 ((dQ_J2_getChar_3b067_3 9).trans dk_j9)
theorem dJ2_getChar_3b067_58 : decode cJ2_getChar_3b067 58 = .ok (.i2c, 1) := dk_146 ((dQ_J2_getChar_3b067_3 10).trans dk_j10)
theorem dJ2_getChar_3b067_59 : decode cJ2_getChar_3b067 59 = .ok (.ireturn, 1) := dk_172 ((dQ_J2_getChar_3b067_3 11).trans dk_j11)
def dT_J2_length_9d52b_0 : List UInt8 := (0x2a : UInt8) :: (0xbe : UInt8) :: (0x04 : UInt8) :: (0x7a : UInt8) :: (0xac : UInt8) :: []
theorem dT_J2_length_9d52b : cJ2_length_9d52b.data.toList = dT_J2_length_9d52b_0 := eq_of_beq (show (cJ2_length_9d52b.data.toList == dT_J2_length_9d52b_0) = true by decide +kernel)
theorem dQ_J2_length_9d52b_0 : dQ_P cJ2_length_9d52b 0 dT_J2_length_9d52b_0 := fun i => by rw [dT_J2_length_9d52b]; rfl
theorem dJ2_length_9d52b_0 : decode cJ2_length_9d52b 0 = .ok (.aload_n 0, 1) := dk_42 ((dQ_J2_length_9d52b_0 0).trans dk_j0)
theorem dJ2_length_9d52b_1 : decode cJ2_length_9d52b 1 = .ok (.arraylength, 1) := dk_190 ((dQ_J2_length_9d52b_0 1).trans dk_j1)
theorem dJ2_length_9d52b_2 : decode cJ2_length_9d52b 2 = .ok (.iconst 1, 1) := dk_4 ((dQ_J2_length_9d52b_0 2).trans dk_j2)
theorem dJ2_length_9d52b_3 : decode cJ2_length_9d52b 3 = .ok (.ishr, 1) := dk_122 ((dQ_J2_length_9d52b_0 3).trans dk_j3)
theorem dJ2_length_9d52b_4 : decode cJ2_length_9d52b 4 = .ok (.ireturn, 1) := dk_172 ((dQ_J2_length_9d52b_0 4).trans dk_j4)
def dT_J2_charAt_3b067_0 : List UInt8 := (0x1b : UInt8) :: (0x2a : UInt8) :: (0xb8 : UInt8) :: (0x00 : UInt8) :: (0x43 : UInt8) :: (0x2a : UInt8) :: (0x1b : UInt8) :: (0xb8 : UInt8) :: (0x00 : UInt8) :: (0x47 : UInt8) :: (0xac : UInt8) :: []
theorem dT_J2_charAt_3b067 : cJ2_charAt_3b067.data.toList = dT_J2_charAt_3b067_0 := eq_of_beq (show (cJ2_charAt_3b067.data.toList == dT_J2_charAt_3b067_0) = true by decide +kernel)
theorem dQ_J2_charAt_3b067_0 : dQ_P cJ2_charAt_3b067 0 dT_J2_charAt_3b067_0 := fun i => by rw [dT_J2_charAt_3b067]; rfl
theorem dJ2_charAt_3b067_0 : decode cJ2_charAt_3b067 0 = .ok (.iload_n 1, 1) := dk_27 ((dQ_J2_charAt_3b067_0 0).trans dk_j0)
theorem dJ2_charAt_3b067_1 : decode cJ2_charAt_3b067 1 = .ok (.aload_n 0, 1) := dk_42 ((dQ_J2_charAt_3b067_0 1).trans dk_j1)
theorem dJ2_charAt_3b067_2 : decode cJ2_charAt_3b067 2 = .ok (.invokestatic 67, 3) := dk_184 ((dQ_J2_charAt_3b067_0 2).trans dk_j2) ((dQ_J2_charAt_3b067_0 3).trans dk_j3) ((dQ_J2_charAt_3b067_0 4).trans dk_j4) dk_vu2_0_67
theorem dJ2_charAt_3b067_5 : decode cJ2_charAt_3b067 5 = .ok (.aload_n 0, 1) := dk_42 ((dQ_J2_charAt_3b067_0 5).trans dk_j5)
theorem dJ2_charAt_3b067_6 : decode cJ2_charAt_3b067 6 = .ok (.iload_n 1, 1) := dk_27 ((dQ_J2_charAt_3b067_0 6).trans dk_j6)
theorem dJ2_charAt_3b067_7 : decode cJ2_charAt_3b067 7 = .ok (.invokestatic 71, 3) := dk_184 ((dQ_J2_charAt_3b067_0 7).trans dk_j7) ((dQ_J2_charAt_3b067_0 8).trans dk_j8) ((dQ_J2_charAt_3b067_0 9).trans dk_j9) dk_vu2_0_71
theorem dJ2_charAt_3b067_10 : decode cJ2_charAt_3b067 10 = .ok (.ireturn, 1) := dk_172 ((dQ_J2_charAt_3b067_0 10).trans dk_j10)
def dT_J2_checkIndex_2214a_0 : List UInt8 := (0x1a : UInt8) :: (0x2b : UInt8) :: (0xb8 : UInt8) :: (0x00 : UInt8) :: (0x30 : UInt8) :: (0xb8 : UInt8) :: (0x01 : UInt8) :: (0x9e : UInt8) :: (0xb1 : UInt8) :: []
theorem dT_J2_checkIndex_2214a : cJ2_checkIndex_2214a.data.toList = dT_J2_checkIndex_2214a_0 := eq_of_beq (show (cJ2_checkIndex_2214a.data.toList == dT_J2_checkIndex_2214a_0) = true by decide +kernel)
theorem dQ_J2_checkIndex_2214a_0 : dQ_P cJ2_checkIndex_2214a 0 dT_J2_checkIndex_2214a_0 := fun i => by rw [dT_J2_checkIndex_2214a]; rfl
theorem dJ2_checkIndex_2214a_0 : decode cJ2_checkIndex_2214a 0 = .ok (.iload_n 0, 1) := dk_26 ((dQ_J2_checkIndex_2214a_0 0).trans dk_j0)
theorem dJ2_checkIndex_2214a_1 : decode cJ2_checkIndex_2214a 1 = .ok (.aload_n 1, 1) := dk_43 ((dQ_J2_checkIndex_2214a_0 1).trans dk_j1)
theorem dJ2_checkIndex_2214a_2 : decode cJ2_checkIndex_2214a 2 = .ok (.invokestatic 48, 3) := dk_184 ((dQ_J2_checkIndex_2214a_0 2).trans dk_j2) ((dQ_J2_checkIndex_2214a_0 3).trans dk_j3) ((dQ_J2_checkIndex_2214a_0 4).trans dk_j4) dk_vu2_0_48
theorem dk_vu2_1_158 : (0x01 : UInt8).toNat * 256 + (0x9e : UInt8).toNat = (414 : Nat) := by decide +kernel
theorem dJ2_checkIndex_2214a_5 : decode cJ2_checkIndex_2214a 5 = .ok (.invokestatic 414, 3) := dk_184 ((dQ_J2_checkIndex_2214a_0 5).trans dk_j5) ((dQ_J2_checkIndex_2214a_0 6).trans dk_j6) ((dQ_J2_checkIndex_2214a_0 7).trans dk_j7) dk_vu2_1_158
theorem dJ2_checkIndex_2214a_8 : decode cJ2_checkIndex_2214a 8 = .ok (.return_, 1) := dk_177 ((dQ_J2_checkIndex_2214a_0 8).trans dk_j8)
def dT_J7_fill_d0a16_1 : List UInt8 := (0x84 : UInt8) :: (0x03 : UInt8) :: (0x01 : UInt8) :: (0xa7 : UInt8) :: (0xff : UInt8) :: (0xf3 : UInt8) :: (0xb1 : UInt8) :: []
def dT_J7_fill_d0a16_0 : List UInt8 := (0x03 : UInt8) :: (0x3e : UInt8) :: (0x2a : UInt8) :: (0xbe : UInt8) :: (0x36 : UInt8) :: (0x04 : UInt8) :: (0x1d : UInt8) :: (0x15 : UInt8) :: (0x04 : UInt8) :: (0xa2 : UInt8) :: (0x00 : UInt8) :: (0x0d : UInt8) :: (0x2a : UInt8) :: (0x1d : UInt8) :: (0x1f : UInt8) :: (0x50 : UInt8) :: dT_J7_fill_d0a16_1
theorem dT_J7_fill_d0a16 : cJ7_fill_d0a16.data.toList = dT_J7_fill_d0a16_0 := eq_of_beq (show (cJ7_fill_d0a16.data.toList == dT_J7_fill_d0a16_0) = true by decide +kernel)
theorem dQ_J7_fill_d0a16_0 : dQ_P cJ7_fill_d0a16 0 dT_J7_fill_d0a16_0 := fun i => by rw [dT_J7_fill_d0a16]; rfl
theorem dQ_J7_fill_d0a16_1 : dQ_P cJ7_fill_d0a16 16 dT_J7_fill_d0a16_1 := fun i => (dQ_J7_fill_d0a16_0 (i + 16)).trans dk_t
theorem dJ7_fill_d0a16_0 : decode cJ7_fill_d0a16 0 = .ok (.iconst 0, 1) := dk_3 ((dQ_J7_fill_d0a16_0 0).trans dk_j0)
theorem dJ7_fill_d0a16_1 : decode cJ7_fill_d0a16 1 = .ok (.istore_n 3, 1) := dk_62 ((dQ_J7_fill_d0a16_0 1).trans dk_j1)
theorem dJ7_fill_d0a16_2 : decode cJ7_fill_d0a16 2 = .ok (.aload_n 0, 1) := dk_42 ((dQ_J7_fill_d0a16_0 2).trans dk_j2)
theorem dJ7_fill_d0a16_3 : decode cJ7_fill_d0a16 3 = .ok (.arraylength, 1) := dk_190 ((dQ_J7_fill_d0a16_0 3).trans dk_j3)
theorem dJ7_fill_d0a16_4 : decode cJ7_fill_d0a16 4 = .ok (.istore 4, 2) := dk_54 ((dQ_J7_fill_d0a16_0 4).trans dk_j4) ((dQ_J7_fill_d0a16_0 5).trans dk_j5) dk_vu1_4
theorem dJ7_fill_d0a16_6 : decode cJ7_fill_d0a16 6 = .ok (.iload_n 3, 1) := dk_29 ((dQ_J7_fill_d0a16_0 6).trans dk_j6)
theorem dJ7_fill_d0a16_7 : decode cJ7_fill_d0a16 7 = .ok (.iload 4, 2) := dk_21 ((dQ_J7_fill_d0a16_0 7).trans dk_j7) ((dQ_J7_fill_d0a16_0 8).trans dk_j8) dk_vu1_4
theorem dJ7_fill_d0a16_9 : decode cJ7_fill_d0a16 9 = .ok (.if_icmp .ge 13, 3) := dk_162 ((dQ_J7_fill_d0a16_0 9).trans dk_j9) ((dQ_J7_fill_d0a16_0 10).trans dk_j10) ((dQ_J7_fill_d0a16_0 11).trans dk_j11) dk_vs2_0_13
theorem dJ7_fill_d0a16_12 : decode cJ7_fill_d0a16 12 = .ok (.aload_n 0, 1) := dk_42 ((dQ_J7_fill_d0a16_0 12).trans dk_j12)
theorem dJ7_fill_d0a16_13 : decode cJ7_fill_d0a16 13 = .ok (.iload_n 3, 1) := dk_29 ((dQ_J7_fill_d0a16_0 13).trans dk_j13)
theorem dJ7_fill_d0a16_14 : decode cJ7_fill_d0a16 14 = .ok (.lload_n 1, 1) := dk_31 ((dQ_J7_fill_d0a16_0 14).trans dk_j14)
theorem dJ7_fill_d0a16_15 : decode cJ7_fill_d0a16 15 = .ok (.lastore, 1) := dk_80 ((dQ_J7_fill_d0a16_0 15).trans dk_j15)
theorem dJ7_fill_d0a16_16 : decode cJ7_fill_d0a16 16 = .ok (.iinc 3 1, 3) := dk_132 ((dQ_J7_fill_d0a16_1 0).trans dk_j0) ((dQ_J7_fill_d0a16_1 1).trans dk_j1) ((dQ_J7_fill_d0a16_1 2).trans dk_j2) dk_vu1_3 dk_vs1_1
theorem dk_vs2_255_243 : Reader.signed 16 ((0xff : UInt8).toNat * 256 + (0xf3 : UInt8).toNat) = (-13 : Int) := by decide +kernel
theorem dJ7_fill_d0a16_19 : decode cJ7_fill_d0a16 19 = .ok (.goto (-13), 3) := dk_167 ((dQ_J7_fill_d0a16_1 3).trans dk_j3) ((dQ_J7_fill_d0a16_1 4).trans dk_j4) ((dQ_J7_fill_d0a16_1 5).trans dk_j5) dk_vs2_255_243
theorem dJ7_fill_d0a16_22 : decode cJ7_fill_d0a16 22 = .ok (.return_, 1) := dk_177 ((dQ_J7_fill_d0a16_1 6).trans dk_j6)
def dT_J7_fill_53178_1 : List UInt8 := (0x01 : UInt8) :: (0xa7 : UInt8) :: (0xff : UInt8) :: (0xf4 : UInt8) :: (0xb1 : UInt8) :: []
def dT_J7_fill_53178_0 : List UInt8 := (0x03 : UInt8) :: (0x3d : UInt8) :: (0x2a : UInt8) :: (0xbe : UInt8) :: (0x3e : UInt8) :: (0x1c : UInt8) :: (0x1d : UInt8) :: (0xa2 : UInt8) :: (0x00 : UInt8) :: (0x0d : UInt8) :: (0x2a : UInt8) :: (0x1c : UInt8) :: (0x1b : UInt8) :: (0x4f : UInt8) :: (0x84 : UInt8) :: (0x02 : UInt8) :: dT_J7_fill_53178_1
theorem dT_J7_fill_53178 : cJ7_fill_53178.data.toList = dT_J7_fill_53178_0 := eq_of_beq (show (cJ7_fill_53178.data.toList == dT_J7_fill_53178_0) = true by decide +kernel)
theorem dQ_J7_fill_53178_0 : dQ_P cJ7_fill_53178 0 dT_J7_fill_53178_0 := fun i => by rw [dT_J7_fill_53178]; rfl
theorem dQ_J7_fill_53178_1 : dQ_P cJ7_fill_53178 16 dT_J7_fill_53178_1 := fun i => (dQ_J7_fill_53178_0 (i + 16)).trans dk_t
theorem dJ7_fill_53178_0 : decode cJ7_fill_53178 0 = .ok (.iconst 0, 1) := dk_3 ((dQ_J7_fill_53178_0 0).trans dk_j0)
theorem dJ7_fill_53178_1 : decode cJ7_fill_53178 1 = .ok (.istore_n 2, 1) := dk_61 ((dQ_J7_fill_53178_0 1).trans dk_j1)
theorem dJ7_fill_53178_2 : decode cJ7_fill_53178 2 = .ok (.aload_n 0, 1) := dk_42 ((dQ_J7_fill_53178_0 2).trans dk_j2)
theorem dJ7_fill_53178_3 : decode cJ7_fill_53178 3 = .ok (.arraylength, 1) := dk_190 ((dQ_J7_fill_53178_0 3).trans dk_j3)
theorem dJ7_fill_53178_4 : decode cJ7_fill_53178 4 = .ok (.istore_n 3, 1) := dk_62 ((dQ_J7_fill_53178_0 4).trans dk_j4)
theorem dJ7_fill_53178_5 : decode cJ7_fill_53178 5 = .ok (.iload_n 2, 1) := dk_28 ((dQ_J7_fill_53178_0 5).trans dk_j5)
theorem dJ7_fill_53178_6 : decode cJ7_fill_53178 6 = .ok (.iload_n 3, 1) := dk_29 ((dQ_J7_fill_53178_0 6).trans dk_j6)
theorem dJ7_fill_53178_7 : decode cJ7_fill_53178 7 = .ok (.if_icmp .ge 13, 3) := dk_162 ((dQ_J7_fill_53178_0 7).trans dk_j7) ((dQ_J7_fill_53178_0 8).trans dk_j8) ((dQ_J7_fill_53178_0 9).trans dk_j9) dk_vs2_0_13
theorem dJ7_fill_53178_10 : decode cJ7_fill_53178 10 = .ok (.aload_n 0, 1) := dk_42 ((dQ_J7_fill_53178_0 10).trans dk_j10)
theorem dJ7_fill_53178_11 : decode cJ7_fill_53178 11 = .ok (.iload_n 2, 1) := dk_28 ((dQ_J7_fill_53178_0 11).trans dk_j11)
theorem dJ7_fill_53178_12 : decode cJ7_fill_53178 12 = .ok (.iload_n 1, 1) := dk_27 ((dQ_J7_fill_53178_0 12).trans dk_j12)
theorem dJ7_fill_53178_13 : decode cJ7_fill_53178 13 = .ok (.iastore, 1) := dk_79 ((dQ_J7_fill_53178_0 13).trans dk_j13)
theorem dJ7_fill_53178_14 : decode cJ7_fill_53178 14 = .ok (.iinc 2 1, 3) := dk_132 ((dQ_J7_fill_53178_0 14).trans dk_j14) ((dQ_J7_fill_53178_0 15).trans dk_j15) ((dQ_J7_fill_53178_1 0).trans dk_j0) dk_vu1_2 dk_vs1_1
theorem dJ7_fill_53178_17 : decode cJ7_fill_53178 17 = .ok (.goto (-12), 3) := dk_167 ((dQ_J7_fill_53178_1 1).trans dk_j1) ((dQ_J7_fill_53178_1 2).trans dk_j2) ((dQ_J7_fill_53178_1 3).trans dk_j3) dk_vs2_255_244
theorem dJ7_fill_53178_20 : decode cJ7_fill_53178 20 = .ok (.return_, 1) := dk_177 ((dQ_J7_fill_53178_1 4).trans dk_j4)
def dT_J3_checkIndex_8e157_1 : List UInt8 := (0x1a : UInt8) :: (0xac : UInt8) :: []
def dT_J3_checkIndex_8e157_0 : List UInt8 := (0x1a : UInt8) :: (0x9b : UInt8) :: (0x00 : UInt8) :: (0x08 : UInt8) :: (0x1a : UInt8) :: (0x1b : UInt8) :: (0xa1 : UInt8) :: (0x00 : UInt8) :: (0x0a : UInt8) :: (0x2c : UInt8) :: (0x1a : UInt8) :: (0x1b : UInt8) :: (0xb8 : UInt8) :: (0x00 : UInt8) :: (0x5f : UInt8) :: (0xbf : UInt8) :: dT_J3_checkIndex_8e157_1
theorem dT_J3_checkIndex_8e157 : cJ3_checkIndex_8e157.data.toList = dT_J3_checkIndex_8e157_0 := eq_of_beq (show (cJ3_checkIndex_8e157.data.toList == dT_J3_checkIndex_8e157_0) = true by decide +kernel)
theorem dQ_J3_checkIndex_8e157_0 : dQ_P cJ3_checkIndex_8e157 0 dT_J3_checkIndex_8e157_0 := fun i => by rw [dT_J3_checkIndex_8e157]; rfl
theorem dQ_J3_checkIndex_8e157_1 : dQ_P cJ3_checkIndex_8e157 16 dT_J3_checkIndex_8e157_1 := fun i => (dQ_J3_checkIndex_8e157_0 (i + 16)).trans dk_t
theorem dJ3_checkIndex_8e157_0 : decode cJ3_checkIndex_8e157 0 = .ok (.iload_n 0, 1) := dk_26 ((dQ_J3_checkIndex_8e157_0 0).trans dk_j0)
theorem dJ3_checkIndex_8e157_1 : decode cJ3_checkIndex_8e157 1 = .ok (.ifCond .lt 8, 3) := dk_155 ((dQ_J3_checkIndex_8e157_0 1).trans dk_j1) ((dQ_J3_checkIndex_8e157_0 2).trans dk_j2) ((dQ_J3_checkIndex_8e157_0 3).trans dk_j3) dk_vs2_0_8
theorem dJ3_checkIndex_8e157_4 : decode cJ3_checkIndex_8e157 4 = .ok (.iload_n 0, 1) := dk_26 ((dQ_J3_checkIndex_8e157_0 4).trans dk_j4)
theorem dJ3_checkIndex_8e157_5 : decode cJ3_checkIndex_8e157 5 = .ok (.iload_n 1, 1) := dk_27 ((dQ_J3_checkIndex_8e157_0 5).trans dk_j5)
theorem dJ3_checkIndex_8e157_6 : decode cJ3_checkIndex_8e157 6 = .ok (.if_icmp .lt 10, 3) := dk_161 ((dQ_J3_checkIndex_8e157_0 6).trans dk_j6) ((dQ_J3_checkIndex_8e157_0 7).trans dk_j7) ((dQ_J3_checkIndex_8e157_0 8).trans dk_j8) dk_vs2_0_10
theorem dJ3_checkIndex_8e157_9 : decode cJ3_checkIndex_8e157 9 = .ok (.aload_n 2, 1) := dk_44 ((dQ_J3_checkIndex_8e157_0 9).trans dk_j9)
theorem dJ3_checkIndex_8e157_10 : decode cJ3_checkIndex_8e157 10 = .ok (.iload_n 0, 1) := dk_26 ((dQ_J3_checkIndex_8e157_0 10).trans dk_j10)
theorem dJ3_checkIndex_8e157_11 : decode cJ3_checkIndex_8e157 11 = .ok (.iload_n 1, 1) := dk_27 ((dQ_J3_checkIndex_8e157_0 11).trans dk_j11)
theorem dJ3_checkIndex_8e157_12 : decode cJ3_checkIndex_8e157 12 = .ok (.invokestatic 95, 3) := dk_184 ((dQ_J3_checkIndex_8e157_0 12).trans dk_j12) ((dQ_J3_checkIndex_8e157_0 13).trans dk_j13) ((dQ_J3_checkIndex_8e157_0 14).trans dk_j14) dk_vu2_0_95
theorem dJ3_checkIndex_8e157_15 : decode cJ3_checkIndex_8e157 15 = .ok (.athrow, 1) := dk_191 ((dQ_J3_checkIndex_8e157_0 15).trans dk_j15)
theorem dJ3_checkIndex_8e157_16 : decode cJ3_checkIndex_8e157 16 = .ok (.iload_n 0, 1) := dk_26 ((dQ_J3_checkIndex_8e157_1 0).trans dk_j0)
theorem dJ3_checkIndex_8e157_17 : decode cJ3_checkIndex_8e157 17 = .ok (.ireturn, 1) := dk_172 ((dQ_J3_checkIndex_8e157_1 1).trans dk_j1)
