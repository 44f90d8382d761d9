def layM : List sn_E := [.inr (9, [0, 4, 5, 6, 7, 0, 8, 0, 0, 0, 0, 0, 0, 0, 9, 10, 11, 12, 0, 0, 0, 0, 0, 13, 14, 15, 16, 17, 18, 19, 0, 0, 20, 21, 22, 23, 0, 0, 1, 1, 1, 1, 24, 25, 26, 27]), .inl (0, 119, 0, []), .inl (0, 357, 0, []), .inl (1, 3, 0, []), .inl (2, 900, 0, []), .inl (0, 5, 0, []), .inl (0, 119, 0, []), .inl (0, 30, 0, []), .inl (0, 6, 0, []), .inl (0, 6, 0, []), .inl (0, 6, 0, []), .inl (0, 30, 0, []), .inl (0, 180, 0, []), .inl (0, 180, 0, []), .inl (0, 6, 0, []), .inl (0, 6, 0, []), .inl (0, 30, 0, []), .inl (0, 961, 0, []), .inl (0, 961, 0, []), .inl (0, 270, 0, []), .inl (0, 1620, 0, []), .inl (0, 4, 0, []), .inl (0, 4, 0, []), .inl (3, 240, 1, []), .inl (3, 60, 1, [])]
theorem layM_0 : layM[0]? = some (.inr (9, [0, 4, 5, 6, 7, 0, 8, 0, 0, 0, 0, 0, 0, 0, 9, 10, 11, 12, 0, 0, 0, 0, 0, 13, 14, 15, 16, 17, 18, 19, 0, 0, 20, 21, 22, 23, 0, 0, 1, 1, 1, 1, 24, 25, 26, 27])) := rfl
theorem layM_1 : layM[1]? = some (.inl (0, 119, 0, [])) := rfl
theorem layM_2 : layM[2]? = some (.inl (0, 357, 0, [])) := rfl
theorem layM_3 : layM[3]? = some (.inl (1, 3, 0, [])) := rfl
theorem layM_4 : layM[4]? = some (.inl (2, 900, 0, [])) := rfl
theorem layM_5 : layM[5]? = some (.inl (0, 5, 0, [])) := rfl
theorem layM_6 : layM[6]? = some (.inl (0, 119, 0, [])) := rfl
theorem layM_7 : layM[7]? = some (.inl (0, 30, 0, [])) := rfl
theorem layM_8 : layM[8]? = some (.inl (0, 6, 0, [])) := rfl
theorem layM_9 : layM[9]? = some (.inl (0, 6, 0, [])) := rfl
theorem layM_10 : layM[10]? = some (.inl (0, 6, 0, [])) := rfl
theorem layM_11 : layM[11]? = some (.inl (0, 30, 0, [])) := rfl
theorem layM_12 : layM[12]? = some (.inl (0, 180, 0, [])) := rfl
theorem layM_13 : layM[13]? = some (.inl (0, 180, 0, [])) := rfl
theorem layM_14 : layM[14]? = some (.inl (0, 6, 0, [])) := rfl
theorem layM_15 : layM[15]? = some (.inl (0, 6, 0, [])) := rfl
theorem layM_16 : layM[16]? = some (.inl (0, 30, 0, [])) := rfl
theorem layM_17 : layM[17]? = some (.inl (0, 961, 0, [])) := rfl
theorem layM_18 : layM[18]? = some (.inl (0, 961, 0, [])) := rfl
theorem layM_19 : layM[19]? = some (.inl (0, 270, 0, [])) := rfl
theorem layM_20 : layM[20]? = some (.inl (0, 1620, 0, [])) := rfl
theorem layM_21 : layM[21]? = some (.inl (0, 4, 0, [])) := rfl
theorem layM_22 : layM[22]? = some (.inl (0, 4, 0, [])) := rfl
theorem layM_23 : layM[23]? = some (.inl (3, 240, 1, [])) := rfl
theorem layM_24 : layM[24]? = some (.inl (3, 60, 1, [])) := rfl
def layC : List sn_E := [.inr (8, [4, 11, 18, 19, 20, 22, 30, 41, 52, 55, 57, 60]), .inr (2, [5, 6, 7, 8, 9, 10]), .inl (0, 11, 0, []), .inl (0, 12, 0, []), .inl (0, 10, 0, []), .inl (0, 16, 0, []), .inl (0, 30, 0, []), .inl (0, 120, 0, []), .inr (2, [12, 13, 14, 15, 16, 17]), .inl (0, 11, 0, []), .inl (0, 12, 0, []), .inl (0, 10, 0, []), .inl (0, 16, 0, []), .inl (0, 30, 0, []), .inl (0, 120, 0, []), .inl (4, 3, 2, [73, 80, 87]), .inl (1, 3, 0, []), .inr (5, [21, 0, 0, 0, 0, 0, 0, 2]), .inl (0, 900, 0, []), .inr (6, [23, 28, 29]), .inl (5, 4, 2, [21, 22, 23, 24]), .inl (3, 60, 1, []), .inl (3, 60, 1, []), .inl (3, 60, 1, []), .inl (3, 60, 1, []), .inl (0, 4, 0, []), .inl (0, 4, 0, []), .inr (0, [0, 0, 0, 0, 31, 32, 33, 34, 35, 36, 37, 38, 39, 40]), .inl (0, 30, 0, []), .inl (0, 6, 0, []), .inl (0, 6, 0, []), .inl (0, 6, 0, []), .inl (0, 6, 0, []), .inl (0, 16, 0, []), .inl (0, 180, 0, []), .inl (0, 180, 0, []), .inl (0, 30, 0, []), .inl (0, 6, 0, []), .inr (0, [0, 0, 0, 0, 42, 43, 44, 45, 46, 47, 48, 49, 50, 51]), .inl (0, 30, 0, []), .inl (0, 6, 0, []), .inl (0, 6, 0, []), .inl (0, 6, 0, []), .inl (0, 6, 0, []), .inl (0, 16, 0, []), .inl (0, 180, 0, []), .inl (0, 180, 0, []), .inl (0, 30, 0, []), .inl (0, 6, 0, []), .inr (3, [53, 54, 0, 0]), .inl (0, 6, 0, []), .inl (0, 6, 0, []), .inr (1, [56, 1]), .inl (3, 31, 1, []), .inr (7, [58, 0, 0, 0, 59]), .inl (0, 6, 0, []), .inl (0, 186, 0, []), .inr (4, [1, 1, 61, 62, 73]), .inl (3, 9, 1, []), .inr (0, [0, 0, 0, 0, 63, 64, 65, 66, 67, 68, 69, 70, 71, 72]), .inl (0, 30, 0, []), .inl (0, 6, 0, []), .inl (0, 6, 0, []), .inl (0, 6, 0, []), .inl (0, 6, 0, []), .inl (0, 16, 0, []), .inl (0, 180, 0, []), .inl (0, 180, 0, []), .inl (0, 30, 0, []), .inl (0, 6, 0, []), .inr (3, [74, 75, 0, 0]), .inl (0, 6, 0, []), .inl (0, 6, 0, []), .inr (2, [77, 78, 79, 80, 81, 82]), .inl (0, 11, 0, []), .inl (0, 12, 0, []), .inl (0, 10, 0, []), .inl (0, 16, 0, []), .inl (0, 30, 0, []), .inl (0, 120, 0, []), .inr (2, [84, 85, 86, 87, 88, 89]), .inl (0, 11, 0, []), .inl (0, 12, 0, []), .inl (0, 10, 0, []), .inl (0, 16, 0, []), .inl (0, 30, 0, []), .inl (0, 120, 0, []), .inr (2, [91, 92, 93, 94, 95, 96]), .inl (0, 11, 0, []), .inl (0, 12, 0, []), .inl (0, 10, 0, []), .inl (0, 16, 0, []), .inl (0, 30, 0, []), .inl (0, 120, 0, [])]
theorem layC_0 : layC[0]? = some (.inr (8, [4, 11, 18, 19, 20, 22, 30, 41, 52, 55, 57, 60])) := rfl
theorem layC_1 : layC[1]? = some (.inr (2, [5, 6, 7, 8, 9, 10])) := rfl
theorem layC_2 : layC[2]? = some (.inl (0, 11, 0, [])) := rfl
theorem layC_3 : layC[3]? = some (.inl (0, 12, 0, [])) := rfl
theorem layC_4 : layC[4]? = some (.inl (0, 10, 0, [])) := rfl
theorem layC_5 : layC[5]? = some (.inl (0, 16, 0, [])) := rfl
theorem layC_6 : layC[6]? = some (.inl (0, 30, 0, [])) := rfl
theorem layC_7 : layC[7]? = some (.inl (0, 120, 0, [])) := rfl
theorem layC_8 : layC[8]? = some (.inr (2, [12, 13, 14, 15, 16, 17])) := rfl
theorem layC_9 : layC[9]? = some (.inl (0, 11, 0, [])) := rfl
theorem layC_10 : layC[10]? = some (.inl (0, 12, 0, [])) := rfl
theorem layC_11 : layC[11]? = some (.inl (0, 10, 0, [])) := rfl
theorem layC_12 : layC[12]? = some (.inl (0, 16, 0, [])) := rfl
theorem layC_13 : layC[13]? = some (.inl (0, 30, 0, [])) := rfl
theorem layC_14 : layC[14]? = some (.inl (0, 120, 0, [])) := rfl
theorem layC_15 : layC[15]? = some (.inl (4, 3, 2, [73, 80, 87])) := rfl
theorem layC_16 : layC[16]? = some (.inl (1, 3, 0, [])) := rfl
theorem layC_17 : layC[17]? = some (.inr (5, [21, 0, 0, 0, 0, 0, 0, 2])) := rfl
theorem layC_18 : layC[18]? = some (.inl (0, 900, 0, [])) := rfl
theorem layC_19 : layC[19]? = some (.inr (6, [23, 28, 29])) := rfl
theorem layC_20 : layC[20]? = some (.inl (5, 4, 2, [21, 22, 23, 24])) := rfl
theorem layC_21 : layC[21]? = some (.inl (3, 60, 1, [])) := rfl
theorem layC_22 : layC[22]? = some (.inl (3, 60, 1, [])) := rfl
theorem layC_23 : layC[23]? = some (.inl (3, 60, 1, [])) := rfl
theorem layC_24 : layC[24]? = some (.inl (3, 60, 1, [])) := rfl
theorem layC_25 : layC[25]? = some (.inl (0, 4, 0, [])) := rfl
theorem layC_26 : layC[26]? = some (.inl (0, 4, 0, [])) := rfl
theorem layC_27 : layC[27]? = some (.inr (0, [0, 0, 0, 0, 31, 32, 33, 34, 35, 36, 37, 38, 39, 40])) := rfl
theorem layC_28 : layC[28]? = some (.inl (0, 30, 0, [])) := rfl
theorem layC_29 : layC[29]? = some (.inl (0, 6, 0, [])) := rfl
theorem layC_30 : layC[30]? = some (.inl (0, 6, 0, [])) := rfl
theorem layC_31 : layC[31]? = some (.inl (0, 6, 0, [])) := rfl
theorem layC_32 : layC[32]? = some (.inl (0, 6, 0, [])) := rfl
theorem layC_33 : layC[33]? = some (.inl (0, 16, 0, [])) := rfl
theorem layC_34 : layC[34]? = some (.inl (0, 180, 0, [])) := rfl
theorem layC_35 : layC[35]? = some (.inl (0, 180, 0, [])) := rfl
theorem layC_36 : layC[36]? = some (.inl (0, 30, 0, [])) := rfl
theorem layC_37 : layC[37]? = some (.inl (0, 6, 0, [])) := rfl
theorem layC_38 : layC[38]? = some (.inr (0, [0, 0, 0, 0, 42, 43, 44, 45, 46, 47, 48, 49, 50, 51])) := rfl
theorem layC_39 : layC[39]? = some (.inl (0, 30, 0, [])) := rfl
theorem layC_40 : layC[40]? = some (.inl (0, 6, 0, [])) := rfl
theorem layC_41 : layC[41]? = some (.inl (0, 6, 0, [])) := rfl
theorem layC_42 : layC[42]? = some (.inl (0, 6, 0, [])) := rfl
theorem layC_43 : layC[43]? = some (.inl (0, 6, 0, [])) := rfl
theorem layC_44 : layC[44]? = some (.inl (0, 16, 0, [])) := rfl
theorem layC_45 : layC[45]? = some (.inl (0, 180, 0, [])) := rfl
theorem layC_46 : layC[46]? = some (.inl (0, 180, 0, [])) := rfl
theorem layC_47 : layC[47]? = some (.inl (0, 30, 0, [])) := rfl
theorem layC_48 : layC[48]? = some (.inl (0, 6, 0, [])) := rfl
theorem layC_49 : layC[49]? = some (.inr (3, [53, 54, 0, 0])) := rfl
theorem layC_50 : layC[50]? = some (.inl (0, 6, 0, [])) := rfl
theorem layC_51 : layC[51]? = some (.inl (0, 6, 0, [])) := rfl
theorem layC_52 : layC[52]? = some (.inr (1, [56, 1])) := rfl
theorem layC_53 : layC[53]? = some (.inl (3, 31, 1, [])) := rfl
theorem layC_54 : layC[54]? = some (.inr (7, [58, 0, 0, 0, 59])) := rfl
theorem layC_55 : layC[55]? = some (.inl (0, 6, 0, [])) := rfl
theorem layC_56 : layC[56]? = some (.inl (0, 186, 0, [])) := rfl
theorem layC_57 : layC[57]? = some (.inr (4, [1, 1, 61, 62, 73])) := rfl
theorem layC_58 : layC[58]? = some (.inl (3, 9, 1, [])) := rfl
theorem layC_59 : layC[59]? = some (.inr (0, [0, 0, 0, 0, 63, 64, 65, 66, 67, 68, 69, 70, 71, 72])) := rfl
theorem layC_60 : layC[60]? = some (.inl (0, 30, 0, [])) := rfl
theorem layC_61 : layC[61]? = some (.inl (0, 6, 0, [])) := rfl
theorem layC_62 : layC[62]? = some (.inl (0, 6, 0, [])) := rfl
theorem layC_63 : layC[63]? = some (.inl (0, 6, 0, [])) := rfl
theorem layC_64 : layC[64]? = some (.inl (0, 6, 0, [])) := rfl
theorem layC_65 : layC[65]? = some (.inl (0, 16, 0, [])) := rfl
theorem layC_66 : layC[66]? = some (.inl (0, 180, 0, [])) := rfl
theorem layC_67 : layC[67]? = some (.inl (0, 180, 0, [])) := rfl
theorem layC_68 : layC[68]? = some (.inl (0, 30, 0, [])) := rfl
theorem layC_69 : layC[69]? = some (.inl (0, 6, 0, [])) := rfl
theorem layC_70 : layC[70]? = some (.inr (3, [74, 75, 0, 0])) := rfl
theorem layC_71 : layC[71]? = some (.inl (0, 6, 0, [])) := rfl
theorem layC_72 : layC[72]? = some (.inl (0, 6, 0, [])) := rfl
theorem layC_73 : layC[73]? = some (.inr (2, [77, 78, 79, 80, 81, 82])) := rfl
theorem layC_74 : layC[74]? = some (.inl (0, 11, 0, [])) := rfl
theorem layC_75 : layC[75]? = some (.inl (0, 12, 0, [])) := rfl
theorem layC_76 : layC[76]? = some (.inl (0, 10, 0, [])) := rfl
theorem layC_77 : layC[77]? = some (.inl (0, 16, 0, [])) := rfl
theorem layC_78 : layC[78]? = some (.inl (0, 30, 0, [])) := rfl
theorem layC_79 : layC[79]? = some (.inl (0, 120, 0, [])) := rfl
theorem layC_80 : layC[80]? = some (.inr (2, [84, 85, 86, 87, 88, 89])) := rfl
theorem layC_81 : layC[81]? = some (.inl (0, 11, 0, [])) := rfl
theorem layC_82 : layC[82]? = some (.inl (0, 12, 0, [])) := rfl
theorem layC_83 : layC[83]? = some (.inl (0, 10, 0, [])) := rfl
theorem layC_84 : layC[84]? = some (.inl (0, 16, 0, [])) := rfl
theorem layC_85 : layC[85]? = some (.inl (0, 30, 0, [])) := rfl
theorem layC_86 : layC[86]? = some (.inl (0, 120, 0, [])) := rfl
theorem layC_87 : layC[87]? = some (.inr (2, [91, 92, 93, 94, 95, 96])) := rfl
theorem layC_88 : layC[88]? = some (.inl (0, 11, 0, [])) := rfl
theorem layC_89 : layC[89]? = some (.inl (0, 12, 0, [])) := rfl
theorem layC_90 : layC[90]? = some (.inl (0, 10, 0, [])) := rfl
theorem layC_91 : layC[91]? = some (.inl (0, 16, 0, [])) := rfl
theorem layC_92 : layC[92]? = some (.inl (0, 30, 0, [])) := rfl
theorem layC_93 : layC[93]? = some (.inl (0, 120, 0, [])) := rfl
def sn_tX2 (q : Nat) : List sn_E := [.inr (2, [(q + 1) + 3, (q + 2) + 3, (q + 3) + 3, (q + 4) + 3, (q + 5) + 3, (q + 6) + 3]), .inl (0, 11, 0, []), .inl (0, 12, 0, []), .inl (0, 10, 0, []), .inl (0, 16, 0, []), .inl (0, 30, 0, []), .inl (0, 120, 0, [])]
def sn_isX2 (q : Nat) : Prop := (layC.drop q).take 7 = sn_tX2 q
def sn_tX0 (q : Nat) : List sn_E := [.inr (0, [0, 0, 0, 0, (q + 1) + 3, (q + 2) + 3, (q + 3) + 3, (q + 4) + 3, (q + 5) + 3, (q + 6) + 3, (q + 7) + 3, (q + 8) + 3, (q + 9) + 3, (q + 10) + 3]), .inl (0, 30, 0, []), .inl (0, 6, 0, []), .inl (0, 6, 0, []), .inl (0, 6, 0, []), .inl (0, 6, 0, []), .inl (0, 16, 0, []), .inl (0, 180, 0, []), .inl (0, 180, 0, []), .inl (0, 30, 0, []), .inl (0, 6, 0, [])]
def sn_isX0 (q : Nat) : Prop := (layC.drop q).take 11 = sn_tX0 q
def sn_tX3 (q : Nat) : List sn_E := [.inr (3, [(q + 1) + 3, (q + 2) + 3, 0, 0]), .inl (0, 6, 0, []), .inl (0, 6, 0, [])]
def sn_isX3 (q : Nat) : Prop := (layC.drop q).take 3 = sn_tX3 q
theorem sn_isX2_1 : sn_isX2 1 := rfl
theorem sn_isX2_8 : sn_isX2 8 := rfl
theorem sn_isX2_73 : sn_isX2 73 := rfl
theorem sn_isX2_80 : sn_isX2 80 := rfl
theorem sn_isX2_87 : sn_isX2 87 := rfl
theorem sn_isX0_27 : sn_isX0 27 := rfl
theorem sn_isX0_38 : sn_isX0 38 := rfl
theorem sn_isX0_59 : sn_isX0 59 := rfl
theorem sn_isX3_49 : sn_isX3 49 := rfl
theorem sn_isX3_70 : sn_isX3 70 := rfl
abbrev sn_rs15 : List Nat := [73, 80, 87]
abbrev sn_rs20 : List Nat := [21, 22, 23, 24]
theorem sn_in_nat {i : Int32} {n : Nat} (h : sn_in i n = true) : i.toNatClampNeg < n := by
  unfold sn_in at h
  simp only [Bool.and_eq_true, decide_eq_true_eq] at h
  exact h.2
theorem sn_rs_house {i : Int32} (h : sn_in i 3 = true) : sn_isX2 (sn_at sn_rs15 i) := by
  have h1 := sn_in_nat h
  unfold sn_at
  generalize i.toNatClampNeg = j at h1
  match j, h1 with
  | 0, _ => exact sn_isX2_73
  | 1, _ => exact sn_isX2_80
  | 2, _ => exact sn_isX2_87
theorem sn_rs_row {i : Int32} (h : sn_in i 4 = true) : layC[sn_at sn_rs20 i]? = some (.inl (3, 60, 1, [])) := by
  have h1 := sn_in_nat h
  unfold sn_at
  generalize i.toNatClampNeg = j at h1
  match j, h1 with
  | 0, _ => rfl
  | 1, _ => rfl
  | 2, _ => rfl
  | 3, _ => rfl
theorem sn_swout3 {x : Int32} (h0 : ¬ x = 0) (h1 : ¬ x = 1) (h2 : ¬ x = 2) : x.toInt < 0 ∨ 2 < x.toInt := by
  have a0 : x.toInt ≠ 0 := fun q => h0 (Int32.toInt_inj.mp q)
  have a1 : x.toInt ≠ 1 := fun q => h1 (Int32.toInt_inj.mp q)
  have a2 : x.toInt ≠ 2 := fun q => h2 (Int32.toInt_inj.mp q)
  omega
theorem sn_sr_0 {ad : Nat → Nat} {A : Nat → Prop} {s : State} {H : Heap} (h : sn_bg ad A s H) : vk_R RX5 52 "house" (ad (1000 + 0)) s := h.2.1 (RX5, 52, "house", 0) (List.mem_of_getElem? (i := 0) rfl)
theorem sn_sr_1 {ad : Nat → Nat} {A : Nat → Prop} {s : State} {H : Heap} (h : sn_bg ad A s H) : vk_R RX5 58 "minutes" (ad (1000 + 1)) s := h.2.1 (RX5, 58, "minutes", 1) (List.mem_of_getElem? (i := 1) rfl)
theorem sn_sr_2 {ad : Nat → Nat} {A : Nat → Prop} {s : State} {H : Heap} (h : sn_bg ad A s H) : vk_R RX5 64 "dust" (ad (1000 + 2)) s := h.2.1 (RX5, 64, "dust", 2) (List.mem_of_getElem? (i := 2) rfl)
theorem sn_sr_3 {ad : Nat → Nat} {A : Nat → Prop} {s : State} {H : Heap} (h : sn_bg ad A s H) : vk_R RX5 66 "law" (ad (1000 + 3)) s := h.2.1 (RX5, 66, "law", 3) (List.mem_of_getElem? (i := 3) rfl)
theorem sn_sr_4 {ad : Nat → Nat} {A : Nat → Prop} {s : State} {H : Heap} (h : sn_bg ad A s H) : vk_R RX5 68 "money" (ad (1000 + 4)) s := h.2.1 (RX5, 68, "money", 4) (List.mem_of_getElem? (i := 4) rfl)
theorem sn_sr_5 {ad : Nat → Nat} {A : Nat → Prop} {s : State} {H : Heap} (h : sn_bg ad A s H) : vk_R RX5 70 "odds" (ad (1000 + 5)) s := h.2.1 (RX5, 70, "odds", 5) (List.mem_of_getElem? (i := 5) rfl)
theorem sn_sr_6 {ad : Nat → Nat} {A : Nat → Prop} {s : State} {H : Heap} (h : sn_bg ad A s H) : vk_R RX5 75 "nose" (ad (1000 + 6)) s := h.2.1 (RX5, 75, "nose", 6) (List.mem_of_getElem? (i := 6) rfl)
theorem sn_sr_7 {ad : Nat → Nat} {A : Nat → Prop} {s : State} {H : Heap} (h : sn_bg ad A s H) : vk_R RX5 85 "gust" (ad (1000 + 7)) s := h.2.1 (RX5, 85, "gust", 7) (List.mem_of_getElem? (i := 7) rfl)
theorem sn_sr_8 {ad : Nat → Nat} {A : Nat → Prop} {s : State} {H : Heap} (h : sn_bg ad A s H) : vk_R RX5 90 "net" (ad (1000 + 8)) s := h.2.1 (RX5, 90, "net", 8) (List.mem_of_getElem? (i := 8) rfl)
theorem sn_sr_9 {ad : Nat → Nat} {A : Nat → Prop} {s : State} {H : Heap} (h : sn_bg ad A s H) : vk_R RX5 95 "policy" (ad (1000 + 9)) s := h.2.1 (RX5, 95, "policy", 9) (List.mem_of_getElem? (i := 9) rfl)
theorem sn_sr_10 {ad : Nat → Nat} {A : Nat → Prop} {s : State} {H : Heap} (h : sn_bg ad A s H) : vk_R RX5 106 "holds" (ad (1000 + 10)) s := h.2.1 (RX5, 106, "holds", 10) (List.mem_of_getElem? (i := 10) rfl)
theorem sn_sr_11 {ad : Nat → Nat} {A : Nat → Prop} {s : State} {H : Heap} (h : sn_bg ad A s H) : vk_R RX5 111 "at" (ad (1000 + 11)) s := h.2.1 (RX5, 111, "at", 11) (List.mem_of_getElem? (i := 11) rfl)
theorem sn_sr_12 {ad : Nat → Nat} {A : Nat → Prop} {s : State} {H : Heap} (h : sn_bg ad A s H) : vk_R RX5 119 "from" (ad (1000 + 12)) s := h.2.1 (RX5, 119, "from", 12) (List.mem_of_getElem? (i := 12) rfl)
theorem sn_sr_13 {ad : Nat → Nat} {A : Nat → Prop} {s : State} {H : Heap} (h : sn_bg ad A s H) : vk_R RX5 121 "to" (ad (1000 + 13)) s := h.2.1 (RX5, 121, "to", 13) (List.mem_of_getElem? (i := 13) rfl)
theorem sn_sr_14 {ad : Nat → Nat} {A : Nat → Prop} {s : State} {H : Heap} (h : sn_bg ad A s H) : vk_R RX5 123 "sum" (ad (1000 + 14)) s := h.2.1 (RX5, 123, "sum", 14) (List.mem_of_getElem? (i := 14) rfl)
theorem sn_sr_15 {ad : Nat → Nat} {A : Nat → Prop} {s : State} {H : Heap} (h : sn_bg ad A s H) : vk_R RX5 125 "pays" (ad (1000 + 15)) s := h.2.1 (RX5, 125, "pays", 15) (List.mem_of_getElem? (i := 15) rfl)
theorem sn_sr_16 {ad : Nat → Nat} {A : Nat → Prop} {s : State} {H : Heap} (h : sn_bg ad A s H) : vk_R RX9 175 "house" (ad (1000 + 0)) s := h.2.1 (RX9, 175, "house", 0) (List.mem_of_getElem? (i := 16) rfl)
theorem sn_sr_17 {ad : Nat → Nat} {A : Nat → Prop} {s : State} {H : Heap} (h : sn_bg ad A s H) : vk_R RX9 177 "minutes" (ad (1000 + 1)) s := h.2.1 (RX9, 177, "minutes", 1) (List.mem_of_getElem? (i := 17) rfl)
theorem sn_sr_18 {ad : Nat → Nat} {A : Nat → Prop} {s : State} {H : Heap} (h : sn_bg ad A s H) : vk_R RX9 183 "dust" (ad (1000 + 2)) s := h.2.1 (RX9, 183, "dust", 2) (List.mem_of_getElem? (i := 18) rfl)
theorem sn_sr_19 {ad : Nat → Nat} {A : Nat → Prop} {s : State} {H : Heap} (h : sn_bg ad A s H) : vk_R RX9 185 "law" (ad (1000 + 3)) s := h.2.1 (RX9, 185, "law", 3) (List.mem_of_getElem? (i := 19) rfl)
theorem sn_sr_20 {ad : Nat → Nat} {A : Nat → Prop} {s : State} {H : Heap} (h : sn_bg ad A s H) : vk_R RX9 187 "money" (ad (1000 + 4)) s := h.2.1 (RX9, 187, "money", 4) (List.mem_of_getElem? (i := 20) rfl)
theorem sn_sr_21 {ad : Nat → Nat} {A : Nat → Prop} {s : State} {H : Heap} (h : sn_bg ad A s H) : vk_R RX9 189 "odds" (ad (1000 + 5)) s := h.2.1 (RX9, 189, "odds", 5) (List.mem_of_getElem? (i := 21) rfl)
theorem sn_sr_22 {ad : Nat → Nat} {A : Nat → Prop} {s : State} {H : Heap} (h : sn_bg ad A s H) : vk_R RX9 198 "nose" (ad (1000 + 6)) s := h.2.1 (RX9, 198, "nose", 6) (List.mem_of_getElem? (i := 22) rfl)
theorem sn_sr_23 {ad : Nat → Nat} {A : Nat → Prop} {s : State} {H : Heap} (h : sn_bg ad A s H) : vk_R RX9 200 "gust" (ad (1000 + 7)) s := h.2.1 (RX9, 200, "gust", 7) (List.mem_of_getElem? (i := 23) rfl)
theorem sn_sr_24 {ad : Nat → Nat} {A : Nat → Prop} {s : State} {H : Heap} (h : sn_bg ad A s H) : vk_R RX9 202 "net" (ad (1000 + 8)) s := h.2.1 (RX9, 202, "net", 8) (List.mem_of_getElem? (i := 24) rfl)
theorem sn_sr_25 {ad : Nat → Nat} {A : Nat → Prop} {s : State} {H : Heap} (h : sn_bg ad A s H) : vk_R RX9 204 "policy" (ad (1000 + 9)) s := h.2.1 (RX9, 204, "policy", 9) (List.mem_of_getElem? (i := 25) rfl)
theorem sn_sr_26 {ad : Nat → Nat} {A : Nat → Prop} {s : State} {H : Heap} (h : sn_bg ad A s H) : vk_R RX9 206 "holds" (ad (1000 + 10)) s := h.2.1 (RX9, 206, "holds", 10) (List.mem_of_getElem? (i := 26) rfl)
theorem sn_sr_27 {ad : Nat → Nat} {A : Nat → Prop} {s : State} {H : Heap} (h : sn_bg ad A s H) : vk_R RX9 208 "at" (ad (1000 + 11)) s := h.2.1 (RX9, 208, "at", 11) (List.mem_of_getElem? (i := 27) rfl)
theorem sn_sr_28 {ad : Nat → Nat} {A : Nat → Prop} {s : State} {H : Heap} (h : sn_bg ad A s H) : vk_R RX9 191 "from" (ad (1000 + 12)) s := h.2.1 (RX9, 191, "from", 12) (List.mem_of_getElem? (i := 28) rfl)
theorem sn_sr_29 {ad : Nat → Nat} {A : Nat → Prop} {s : State} {H : Heap} (h : sn_bg ad A s H) : vk_R RX9 192 "to" (ad (1000 + 13)) s := h.2.1 (RX9, 192, "to", 13) (List.mem_of_getElem? (i := 29) rfl)
theorem sn_sr_30 {ad : Nat → Nat} {A : Nat → Prop} {s : State} {H : Heap} (h : sn_bg ad A s H) : vk_R RX9 194 "sum" (ad (1000 + 14)) s := h.2.1 (RX9, 194, "sum", 14) (List.mem_of_getElem? (i := 30) rfl)
theorem sn_sr_31 {ad : Nat → Nat} {A : Nat → Prop} {s : State} {H : Heap} (h : sn_bg ad A s H) : vk_R RX9 196 "pays" (ad (1000 + 15)) s := h.2.1 (RX9, 196, "pays", 15) (List.mem_of_getElem? (i := 31) rfl)
theorem ug_all {C : String} {T : u_T} {N : Nat} (h : ∀ k, k < N → u_lay C T k ∈ sn_gw) : ∀ w ∈ u_ws C T N, w ∈ sn_gw := fun w hw => by
  obtain ⟨k, hk, e⟩ := List.mem_map.mp hw
  rw [← e]
  exact h k (List.mem_range.mp hk)
theorem ug_X0 : ∀ w ∈ u_ws RX0 TX0 14, w ∈ sn_gw := ug_all (fun k hk => match k, hk with
  | 0, _ => show Cond.lays RX0 "PepperPolicy$Day" "minutes" "I" ∈ sn_gw from sn_gwI (lb_0 (lt_16 (lt_16 (lt_16 (lt_16 (lt_16 (lt_16 (lt_16 (lt_16 (lt_16 (lt_16 (lt_9 lt_h)))))))))))) gw_lays
  | 1, _ => show Cond.lays RX0 "PepperPolicy$Day" "persons" "I" ∈ sn_gw from sn_gwI (lb_0 (lt_16 (lt_16 (lt_16 (lt_16 (lt_16 (lt_16 (lt_16 (lt_16 (lt_16 (lt_16 (lt_11 lt_h)))))))))))) gw_lays
  | 2, _ => show Cond.lays RX0 "PepperPolicy$Day" "netCount" "I" ∈ sn_gw from sn_gwI (lb_0 (lt_16 (lt_16 (lt_16 (lt_16 (lt_16 (lt_16 (lt_16 (lt_16 (lt_16 (lt_16 (lt_13 lt_h)))))))))))) gw_lays
  | 3, _ => show Cond.lays RX0 "PepperPolicy$Day" "without" "I" ∈ sn_gw from sn_gwI (lb_0 (lt_16 (lt_16 (lt_16 (lt_16 (lt_16 (lt_16 (lt_16 (lt_16 (lt_16 (lt_16 (lt_15 lt_h)))))))))))) gw_lays
  | 4, _ => show Cond.laysFinal RX0 "PepperPolicy$Day" "dusts" "[I" ∈ sn_gw from sn_gwI (lb_0 (lt_16 (lt_16 (lt_16 (lt_16 (lt_16 (lt_16 (lt_16 (lt_16 (lt_16 (lt_16 (lt_16 (lt_1 lt_h))))))))))))) gw_laysFinal
  | 5, _ => show Cond.laysFinal RX0 "PepperPolicy$Day" "keen" "[I" ∈ sn_gw from sn_gwI (lb_0 (lt_16 (lt_16 (lt_16 (lt_16 (lt_16 (lt_16 (lt_16 (lt_16 (lt_16 (lt_16 (lt_16 (lt_3 lt_h))))))))))))) gw_laysFinal
  | 6, _ => show Cond.laysFinal RX0 "PepperPolicy$Day" "limits" "[I" ∈ sn_gw from sn_gwI (lb_0 (lt_16 (lt_16 (lt_16 (lt_16 (lt_16 (lt_16 (lt_16 (lt_16 (lt_16 (lt_16 (lt_16 (lt_5 lt_h))))))))))))) gw_laysFinal
  | 7, _ => show Cond.laysFinal RX0 "PepperPolicy$Day" "held" "[I" ∈ sn_gw from sn_gwI (lb_0 (lt_16 (lt_16 (lt_16 (lt_16 (lt_16 (lt_16 (lt_16 (lt_16 (lt_16 (lt_16 (lt_16 (lt_7 lt_h))))))))))))) gw_laysFinal
  | 8, _ => show Cond.laysFinal RX0 "PepperPolicy$Day" "snuffed" "[I" ∈ sn_gw from sn_gwI (lb_0 (lt_16 (lt_16 (lt_16 (lt_16 (lt_16 (lt_16 (lt_16 (lt_16 (lt_16 (lt_16 (lt_16 (lt_9 lt_h))))))))))))) gw_laysFinal
  | 9, _ => show Cond.laysFinal RX0 "PepperPolicy$Day" "nets" "[I" ∈ sn_gw from sn_gwI (lb_0 (lt_16 (lt_16 (lt_16 (lt_16 (lt_16 (lt_16 (lt_16 (lt_16 (lt_16 (lt_16 (lt_16 (lt_11 lt_h))))))))))))) gw_laysFinal
  | 10, _ => show Cond.laysFinal RX0 "PepperPolicy$Day" "tickles" "[I" ∈ sn_gw from sn_gwI (lb_0 (lt_16 (lt_16 (lt_16 (lt_16 (lt_16 (lt_16 (lt_16 (lt_16 (lt_16 (lt_16 (lt_16 (lt_13 lt_h))))))))))))) gw_laysFinal
  | 11, _ => show Cond.laysFinal RX0 "PepperPolicy$Day" "came" "[I" ∈ sn_gw from sn_gwI (lb_0 (lt_16 (lt_16 (lt_16 (lt_16 (lt_16 (lt_16 (lt_16 (lt_16 (lt_16 (lt_16 (lt_16 (lt_15 lt_h))))))))))))) gw_laysFinal
  | 12, _ => show Cond.laysFinal RX0 "PepperPolicy$Day" "sneezers" "[I" ∈ sn_gw from sn_gwI (lb_0 (lt_16 (lt_16 (lt_16 (lt_16 (lt_16 (lt_16 (lt_16 (lt_16 (lt_16 (lt_16 (lt_16 (lt_16 (lt_1 lt_h)))))))))))))) gw_laysFinal
  | 13, _ => show Cond.laysFinal RX0 "PepperPolicy$Day" "sneezed" "[I" ∈ sn_gw from sn_gwI (lb_0 (lt_16 (lt_16 (lt_16 (lt_16 (lt_16 (lt_16 (lt_16 (lt_16 (lt_16 (lt_16 (lt_16 (lt_16 (lt_3 lt_h)))))))))))))) gw_laysFinal
  | k + 14, h => absurd h (by omega))
theorem ug_X1 : ∀ w ∈ u_ws RX1 TX1 2, w ∈ sn_gw := ug_all (fun k hk => match k, hk with
  | 0, _ => show Cond.laysFinal RX1 "PepperPolicy$Holding" "fresh" "[J" ∈ sn_gw from sn_gwI (lb_0 (lt_16 (lt_16 (lt_16 (lt_16 (lt_16 (lt_16 (lt_16 (lt_16 (lt_16 (lt_16 (lt_16 (lt_16 (lt_16 (lt_16 (lt_5 lt_h)))))))))))))))) gw_laysFinal
  | 1, _ => show Cond.lays RX1 "PepperPolicy$Holding" "best" "J" ∈ sn_gw from sn_gwI (lb_0 (lt_16 (lt_16 (lt_16 (lt_16 (lt_16 (lt_16 (lt_16 (lt_16 (lt_16 (lt_16 (lt_16 (lt_16 (lt_16 (lt_16 (lt_7 lt_h)))))))))))))))) gw_lays
  | k + 2, h => absurd h (by omega))
theorem ug_X2 : ∀ w ∈ u_ws RX2 TX2 6, w ∈ sn_gw := ug_all (fun k hk => match k, hk with
  | 0, _ => show Cond.laysFinal RX2 "PepperPolicy$House" "counts" "[I" ∈ sn_gw from sn_gwI (lb_0 (lt_16 (lt_16 (lt_16 (lt_5 lt_h))))) gw_laysFinal
  | 1, _ => show Cond.laysFinal RX2 "PepperPolicy$House" "noses" "[I" ∈ sn_gw from sn_gwI (lb_0 (lt_16 (lt_16 (lt_16 (lt_7 lt_h))))) gw_laysFinal
  | 2, _ => show Cond.laysFinal RX2 "PepperPolicy$House" "gusts" "[I" ∈ sn_gw from sn_gwI (lb_0 (lt_16 (lt_16 (lt_16 (lt_9 lt_h))))) gw_laysFinal
  | 3, _ => show Cond.laysFinal RX2 "PepperPolicy$House" "nets" "[I" ∈ sn_gw from sn_gwI (lb_0 (lt_16 (lt_16 (lt_16 (lt_11 lt_h))))) gw_laysFinal
  | 4, _ => show Cond.laysFinal RX2 "PepperPolicy$House" "policies" "[I" ∈ sn_gw from sn_gwI (lb_0 (lt_16 (lt_16 (lt_16 (lt_13 lt_h))))) gw_laysFinal
  | 5, _ => show Cond.laysFinal RX2 "PepperPolicy$House" "acts" "[I" ∈ sn_gw from sn_gwI (lb_0 (lt_16 (lt_16 (lt_16 (lt_15 lt_h))))) gw_laysFinal
  | k + 6, h => absurd h (by omega))
theorem ug_X3 : ∀ w ∈ u_ws RX3 TX3 4, w ∈ sn_gw := ug_all (fun k hk => match k, hk with
  | 0, _ => show Cond.laysFinal RX3 "PepperPolicy$Ledger" "due" "[I" ∈ sn_gw from sn_gwI (lb_0 (lt_16 (lt_16 (lt_16 (lt_16 (lt_16 (lt_16 (lt_16 (lt_16 (lt_16 (lt_16 (lt_16 (lt_16 (lt_16 (lt_4 lt_h))))))))))))))) gw_laysFinal
  | 1, _ => show Cond.laysFinal RX3 "PepperPolicy$Ledger" "paidAt" "[I" ∈ sn_gw from sn_gwI (lb_0 (lt_16 (lt_16 (lt_16 (lt_16 (lt_16 (lt_16 (lt_16 (lt_16 (lt_16 (lt_16 (lt_16 (lt_16 (lt_16 (lt_6 lt_h))))))))))))))) gw_laysFinal
  | 2, _ => show Cond.lays RX3 "PepperPolicy$Ledger" "policies" "I" ∈ sn_gw from sn_gwI (lb_0 (lt_16 (lt_16 (lt_16 (lt_16 (lt_16 (lt_16 (lt_16 (lt_16 (lt_16 (lt_16 (lt_16 (lt_16 (lt_16 (lt_8 lt_h))))))))))))))) gw_lays
  | 3, _ => show Cond.lays RX3 "PepperPolicy$Ledger" "atFirst" "I" ∈ sn_gw from sn_gwI (lb_0 (lt_16 (lt_16 (lt_16 (lt_16 (lt_16 (lt_16 (lt_16 (lt_16 (lt_16 (lt_16 (lt_16 (lt_16 (lt_16 (lt_10 lt_h))))))))))))))) gw_lays
  | k + 4, h => absurd h (by omega))
theorem ug_X4 : ∀ w ∈ u_ws RX4 TX4 5, w ∈ sn_gw := ug_all (fun k hk => match k, hk with
  | 0, _ => show Cond.lays RX4 "PepperPolicy$Puffs" "above" "J" ∈ sn_gw from sn_gwI (lb_1 (lt_16 (lt_16 (lt_5 lt_h)))) gw_lays
  | 1, _ => show Cond.lays RX4 "PepperPolicy$Puffs" "below" "J" ∈ sn_gw from sn_gwI (lb_1 (lt_16 (lt_16 (lt_7 lt_h)))) gw_lays
  | 2, _ => show Cond.laysFinal RX4 "PepperPolicy$Puffs" "weights" "[J" ∈ sn_gw from sn_gwI (lb_1 (lt_16 (lt_16 (lt_9 lt_h)))) gw_laysFinal
  | 3, _ => show Cond.laysFinal RX4 "PepperPolicy$Puffs" "trial" "LPepperPolicy$Day;" ∈ sn_gw from sn_gwI (lb_1 (lt_16 (lt_16 (lt_11 lt_h)))) gw_laysFinal
  | 4, _ => show Cond.laysFinal RX4 "PepperPolicy$Puffs" "ledger" "LPepperPolicy$Ledger;" ∈ sn_gw from sn_gwI (lb_1 (lt_16 (lt_16 (lt_13 lt_h)))) gw_laysFinal
  | k + 5, h => absurd h (by omega))
theorem ug_X5 : ∀ w ∈ u_ws RX5 TX5 8, w ∈ sn_gw := ug_all (fun k hk => match k, hk with
  | 0, _ => show Cond.laysFinal RX5 "PepperPolicy$Reader" "bytes" "[I" ∈ sn_gw from sn_gwI (lb_0 (lt_16 (lt_16 (lt_16 (lt_16 (lt_16 (lt_5 lt_h))))))) gw_laysFinal
  | 1, _ => show Cond.lays RX5 "PepperPolicy$Reader" "length" "I" ∈ sn_gw from sn_gwI (lb_0 (lt_16 (lt_16 (lt_16 (lt_16 (lt_16 (lt_7 lt_h))))))) gw_lays
  | 2, _ => show Cond.lays RX5 "PepperPolicy$Reader" "fault" "I" ∈ sn_gw from sn_gwI (lb_0 (lt_16 (lt_16 (lt_16 (lt_16 (lt_16 (lt_9 lt_h))))))) gw_lays
  | 3, _ => show Cond.lays RX5 "PepperPolicy$Reader" "place" "I" ∈ sn_gw from sn_gwI (lb_0 (lt_16 (lt_16 (lt_16 (lt_16 (lt_16 (lt_11 lt_h))))))) gw_lays
  | 4, _ => show Cond.lays RX5 "PepperPolicy$Reader" "at" "I" ∈ sn_gw from sn_gwI (lb_0 (lt_16 (lt_16 (lt_16 (lt_16 (lt_16 (lt_13 lt_h))))))) gw_lays
  | 5, _ => show Cond.lays RX5 "PepperPolicy$Reader" "stop" "I" ∈ sn_gw from sn_gwI (lb_0 (lt_16 (lt_16 (lt_16 (lt_16 (lt_16 (lt_15 lt_h))))))) gw_lays
  | 6, _ => show Cond.lays RX5 "PepperPolicy$Reader" "kind" "I" ∈ sn_gw from sn_gwI (lb_0 (lt_16 (lt_16 (lt_16 (lt_16 (lt_16 (lt_16 (lt_1 lt_h)))))))) gw_lays
  | 7, _ => show Cond.lays RX5 "PepperPolicy$Reader" "told" "LPepperPolicy$House;" ∈ sn_gw from sn_gwI (lb_0 (lt_16 (lt_16 (lt_16 (lt_16 (lt_16 (lt_16 (lt_3 lt_h)))))))) gw_lays
  | k + 8, h => absurd h (by omega))
theorem ug_X6 : ∀ w ∈ u_ws RX6 TX6 3, w ∈ sn_gw := ug_all (fun k hk => match k, hk with
  | 0, _ => show Cond.laysFinal RX6 "PepperPolicy$Slots" "rows" "[[J" ∈ sn_gw from sn_gwI (lb_0 (lt_16 (lt_16 (lt_16 (lt_16 (lt_16 (lt_16 (lt_16 (lt_8 lt_h))))))))) gw_laysFinal
  | 1, _ => show Cond.laysFinal RX6 "PepperPolicy$Slots" "widths" "[I" ∈ sn_gw from sn_gwI (lb_0 (lt_16 (lt_16 (lt_16 (lt_16 (lt_16 (lt_16 (lt_16 (lt_10 lt_h))))))))) gw_laysFinal
  | 2, _ => show Cond.laysFinal RX6 "PepperPolicy$Slots" "lengths" "[I" ∈ sn_gw from sn_gwI (lb_0 (lt_16 (lt_16 (lt_16 (lt_16 (lt_16 (lt_16 (lt_16 (lt_12 lt_h))))))))) gw_laysFinal
  | k + 3, h => absurd h (by omega))
theorem ug_X7 : ∀ w ∈ u_ws RX7 TX7 5, w ∈ sn_gw := ug_all (fun k hk => match k, hk with
  | 0, _ => show Cond.laysFinal RX7 "PepperPolicy$Suspects" "needed" "[I" ∈ sn_gw from sn_gwI (lb_1 (lt_9 lt_h)) gw_laysFinal
  | 1, _ => show Cond.lays RX7 "PepperPolicy$Suspects" "found" "I" ∈ sn_gw from sn_gwI (lb_1 (lt_11 lt_h)) gw_lays
  | 2, _ => show Cond.lays RX7 "PepperPolicy$Suspects" "minutes" "I" ∈ sn_gw from sn_gwI (lb_1 (lt_13 lt_h)) gw_lays
  | 3, _ => show Cond.lays RX7 "PepperPolicy$Suspects" "firstPair" "I" ∈ sn_gw from sn_gwI (lb_1 (lt_15 lt_h)) gw_lays
  | 4, _ => show Cond.laysFinal RX7 "PepperPolicy$Suspects" "tally" "[I" ∈ sn_gw from sn_gwI (lb_1 (lt_16 (lt_1 lt_h))) gw_laysFinal
  | k + 5, h => absurd h (by omega))
theorem ug_X8 : ∀ w ∈ u_ws RX8 TX8 12, w ∈ sn_gw := ug_all (fun k hk => match k, hk with
  | 0, _ => show Cond.laysFinal RX8 "PepperPolicy" "house" "LPepperPolicy$House;" ∈ sn_gw from sn_gwI (lb_1 (lt_16 (lt_16 (lt_16 (lt_12 lt_h))))) gw_laysFinal
  | 1, _ => show Cond.laysFinal RX8 "PepperPolicy" "draft" "LPepperPolicy$House;" ∈ sn_gw from sn_gwI (lb_1 (lt_16 (lt_16 (lt_16 (lt_14 lt_h))))) gw_laysFinal
  | 2, _ => show Cond.laysFinal RX8 "PepperPolicy" "images" "[LPepperPolicy$House;" ∈ sn_gw from sn_gwI (lb_1 (lt_16 (lt_16 (lt_16 (lt_16 lt_h))))) gw_laysFinal
  | 3, _ => show Cond.laysFinal RX8 "PepperPolicy" "kept" "[Z" ∈ sn_gw from sn_gwI (lb_1 (lt_16 (lt_16 (lt_16 (lt_16 (lt_2 lt_h)))))) gw_laysFinal
  | 4, _ => show Cond.laysFinal RX8 "PepperPolicy" "reader" "LPepperPolicy$Reader;" ∈ sn_gw from sn_gwI (lb_1 (lt_16 (lt_16 (lt_16 (lt_16 (lt_4 lt_h)))))) gw_laysFinal
  | 5, _ => show Cond.laysFinal RX8 "PepperPolicy" "slots" "LPepperPolicy$Slots;" ∈ sn_gw from sn_gwI (lb_1 (lt_16 (lt_16 (lt_16 (lt_16 (lt_6 lt_h)))))) gw_laysFinal
  | 6, _ => show Cond.laysFinal RX8 "PepperPolicy" "day" "LPepperPolicy$Day;" ∈ sn_gw from sn_gwI (lb_1 (lt_16 (lt_16 (lt_16 (lt_16 (lt_8 lt_h)))))) gw_laysFinal
  | 7, _ => show Cond.laysFinal RX8 "PepperPolicy" "trial" "LPepperPolicy$Day;" ∈ sn_gw from sn_gwI (lb_1 (lt_16 (lt_16 (lt_16 (lt_16 (lt_10 lt_h)))))) gw_laysFinal
  | 8, _ => show Cond.laysFinal RX8 "PepperPolicy" "ledger" "LPepperPolicy$Ledger;" ∈ sn_gw from sn_gwI (lb_1 (lt_16 (lt_16 (lt_16 (lt_16 (lt_12 lt_h)))))) gw_laysFinal
  | 9, _ => show Cond.laysFinal RX8 "PepperPolicy" "holding" "LPepperPolicy$Holding;" ∈ sn_gw from sn_gwI (lb_1 (lt_16 (lt_16 (lt_16 (lt_16 (lt_14 lt_h)))))) gw_laysFinal
  | 10, _ => show Cond.laysFinal RX8 "PepperPolicy" "suspects" "LPepperPolicy$Suspects;" ∈ sn_gw from sn_gwI (lb_1 (lt_16 (lt_16 (lt_16 (lt_16 (lt_16 lt_h)))))) gw_laysFinal
  | 11, _ => show Cond.laysFinal RX8 "PepperPolicy" "puffs" "LPepperPolicy$Puffs;" ∈ sn_gw from sn_gwI (lb_1 (lt_16 (lt_16 (lt_16 (lt_16 (lt_16 (lt_2 lt_h))))))) gw_laysFinal
  | k + 12, h => absurd h (by omega))
theorem ug_X9 : ∀ w ∈ u_ws RX9 TX9 46, w ∈ sn_gw := ug_all (fun k hk => match k, hk with
  | 0, _ => show Cond.lays RX9 "PepperPolicyModel" "thrown" "I" ∈ sn_gw from sn_gwI (lb_4 (lt_16 (lt_16 (lt_16 (lt_16 (lt_16 (lt_16 (lt_16 (lt_16 (lt_16 (lt_16 (lt_4 lt_h)))))))))))) gw_lays
  | 1, _ => show Cond.laysFinal RX9 "PepperPolicyModel" "world" "[I" ∈ sn_gw from sn_gwI (lb_4 (lt_16 (lt_16 (lt_16 (lt_16 (lt_16 (lt_16 (lt_16 (lt_16 (lt_16 (lt_16 (lt_6 lt_h)))))))))))) gw_laysFinal
  | 2, _ => show Cond.laysFinal RX9 "PepperPolicyModel" "images" "[I" ∈ sn_gw from sn_gwI (lb_4 (lt_16 (lt_16 (lt_16 (lt_16 (lt_16 (lt_16 (lt_16 (lt_16 (lt_16 (lt_16 (lt_8 lt_h)))))))))))) gw_laysFinal
  | 3, _ => show Cond.laysFinal RX9 "PepperPolicyModel" "hasImage" "[Z" ∈ sn_gw from sn_gwI (lb_4 (lt_16 (lt_16 (lt_16 (lt_16 (lt_16 (lt_16 (lt_16 (lt_16 (lt_16 (lt_16 (lt_10 lt_h)))))))))))) gw_laysFinal
  | 4, _ => show Cond.laysFinal RX9 "PepperPolicyModel" "tape" "[B" ∈ sn_gw from sn_gwI (lb_4 (lt_16 (lt_16 (lt_16 (lt_16 (lt_16 (lt_16 (lt_16 (lt_16 (lt_16 (lt_16 (lt_12 lt_h)))))))))))) gw_laysFinal
  | 5, _ => show Cond.lays RX9 "PepperPolicyModel" "taped" "I" ∈ sn_gw from sn_gwI (lb_4 (lt_16 (lt_16 (lt_16 (lt_16 (lt_16 (lt_16 (lt_16 (lt_16 (lt_16 (lt_16 (lt_14 lt_h)))))))))))) gw_lays
  | 6, _ => show Cond.laysFinal RX9 "PepperPolicyModel" "five" "[I" ∈ sn_gw from sn_gwI (lb_4 (lt_16 (lt_16 (lt_16 (lt_16 (lt_16 (lt_16 (lt_16 (lt_16 (lt_16 (lt_16 (lt_16 lt_h)))))))))))) gw_laysFinal
  | 7, _ => show Cond.lays RX9 "PepperPolicyModel" "size" "I" ∈ sn_gw from sn_gwI (lb_4 (lt_16 (lt_16 (lt_16 (lt_16 (lt_16 (lt_16 (lt_16 (lt_16 (lt_16 (lt_16 (lt_16 (lt_2 lt_h))))))))))))) gw_lays
  | 8, _ => show Cond.lays RX9 "PepperPolicyModel" "at" "I" ∈ sn_gw from sn_gwI (lb_4 (lt_16 (lt_16 (lt_16 (lt_16 (lt_16 (lt_16 (lt_16 (lt_16 (lt_16 (lt_16 (lt_16 (lt_4 lt_h))))))))))))) gw_lays
  | 9, _ => show Cond.lays RX9 "PepperPolicyModel" "from" "I" ∈ sn_gw from sn_gwI (lb_4 (lt_16 (lt_16 (lt_16 (lt_16 (lt_16 (lt_16 (lt_16 (lt_16 (lt_16 (lt_16 (lt_16 (lt_6 lt_h))))))))))))) gw_lays
  | 10, _ => show Cond.lays RX9 "PepperPolicyModel" "token" "I" ∈ sn_gw from sn_gwI (lb_4 (lt_16 (lt_16 (lt_16 (lt_16 (lt_16 (lt_16 (lt_16 (lt_16 (lt_16 (lt_16 (lt_16 (lt_8 lt_h))))))))))))) gw_lays
  | 11, _ => show Cond.lays RX9 "PepperPolicyModel" "value" "I" ∈ sn_gw from sn_gwI (lb_4 (lt_16 (lt_16 (lt_16 (lt_16 (lt_16 (lt_16 (lt_16 (lt_16 (lt_16 (lt_16 (lt_16 (lt_10 lt_h))))))))))))) gw_lays
  | 12, _ => show Cond.lays RX9 "PepperPolicyModel" "faultKind" "I" ∈ sn_gw from sn_gwI (lb_4 (lt_16 (lt_16 (lt_16 (lt_16 (lt_16 (lt_16 (lt_16 (lt_16 (lt_16 (lt_16 (lt_16 (lt_12 lt_h))))))))))))) gw_lays
  | 13, _ => show Cond.lays RX9 "PepperPolicyModel" "faultPlace" "I" ∈ sn_gw from sn_gwI (lb_4 (lt_16 (lt_16 (lt_16 (lt_16 (lt_16 (lt_16 (lt_16 (lt_16 (lt_16 (lt_16 (lt_16 (lt_14 lt_h))))))))))))) gw_lays
  | 14, _ => show Cond.laysFinal RX9 "PepperPolicyModel" "fresh" "[I" ∈ sn_gw from sn_gwI (lb_4 (lt_16 (lt_16 (lt_16 (lt_16 (lt_16 (lt_16 (lt_16 (lt_16 (lt_16 (lt_16 (lt_16 (lt_16 lt_h))))))))))))) gw_laysFinal
  | 15, _ => show Cond.laysFinal RX9 "PepperPolicyModel" "dustAt" "[I" ∈ sn_gw from sn_gwI (lb_4 (lt_16 (lt_16 (lt_16 (lt_16 (lt_16 (lt_16 (lt_16 (lt_16 (lt_16 (lt_16 (lt_16 (lt_16 (lt_2 lt_h)))))))))))))) gw_laysFinal
  | 16, _ => show Cond.laysFinal RX9 "PepperPolicyModel" "heldOf" "[I" ∈ sn_gw from sn_gwI (lb_4 (lt_16 (lt_16 (lt_16 (lt_16 (lt_16 (lt_16 (lt_16 (lt_16 (lt_16 (lt_16 (lt_16 (lt_16 (lt_4 lt_h)))))))))))))) gw_laysFinal
  | 17, _ => show Cond.laysFinal RX9 "PepperPolicyModel" "snuffOf" "[I" ∈ sn_gw from sn_gwI (lb_4 (lt_16 (lt_16 (lt_16 (lt_16 (lt_16 (lt_16 (lt_16 (lt_16 (lt_16 (lt_16 (lt_16 (lt_16 (lt_6 lt_h)))))))))))))) gw_laysFinal
  | 18, _ => show Cond.lays RX9 "PepperPolicyModel" "gustSet" "I" ∈ sn_gw from sn_gwI (lb_4 (lt_16 (lt_16 (lt_16 (lt_16 (lt_16 (lt_16 (lt_16 (lt_16 (lt_16 (lt_16 (lt_16 (lt_16 (lt_8 lt_h)))))))))))))) gw_lays
  | 19, _ => show Cond.lays RX9 "PepperPolicyModel" "noNet" "I" ∈ sn_gw from sn_gwI (lb_4 (lt_16 (lt_16 (lt_16 (lt_16 (lt_16 (lt_16 (lt_16 (lt_16 (lt_16 (lt_16 (lt_16 (lt_16 (lt_10 lt_h)))))))))))))) gw_lays
  | 20, _ => show Cond.lays RX9 "PepperPolicyModel" "lawNow" "I" ∈ sn_gw from sn_gwI (lb_4 (lt_16 (lt_16 (lt_16 (lt_16 (lt_16 (lt_16 (lt_16 (lt_16 (lt_16 (lt_16 (lt_16 (lt_16 (lt_12 lt_h)))))))))))))) gw_lays
  | 21, _ => show Cond.lays RX9 "PepperPolicyModel" "moneyNow" "I" ∈ sn_gw from sn_gwI (lb_4 (lt_16 (lt_16 (lt_16 (lt_16 (lt_16 (lt_16 (lt_16 (lt_16 (lt_16 (lt_16 (lt_16 (lt_16 (lt_14 lt_h)))))))))))))) gw_lays
  | 22, _ => show Cond.lays RX9 "PepperPolicyModel" "lastMinute" "I" ∈ sn_gw from sn_gwI (lb_4 (lt_16 (lt_16 (lt_16 (lt_16 (lt_16 (lt_16 (lt_16 (lt_16 (lt_16 (lt_16 (lt_16 (lt_16 (lt_16 lt_h)))))))))))))) gw_lays
  | 23, _ => show Cond.laysFinal RX9 "PepperPolicyModel" "sneezesOf" "[I" ∈ sn_gw from sn_gwI (lb_4 (lt_16 (lt_16 (lt_16 (lt_16 (lt_16 (lt_16 (lt_16 (lt_16 (lt_16 (lt_16 (lt_16 (lt_16 (lt_16 (lt_2 lt_h))))))))))))))) gw_laysFinal
  | 24, _ => show Cond.laysFinal RX9 "PepperPolicyModel" "sneezeAt" "[I" ∈ sn_gw from sn_gwI (lb_4 (lt_16 (lt_16 (lt_16 (lt_16 (lt_16 (lt_16 (lt_16 (lt_16 (lt_16 (lt_16 (lt_16 (lt_16 (lt_16 (lt_4 lt_h))))))))))))))) gw_laysFinal
  | 25, _ => show Cond.laysFinal RX9 "PepperPolicyModel" "tickleAt" "[I" ∈ sn_gw from sn_gwI (lb_4 (lt_16 (lt_16 (lt_16 (lt_16 (lt_16 (lt_16 (lt_16 (lt_16 (lt_16 (lt_16 (lt_16 (lt_16 (lt_16 (lt_6 lt_h))))))))))))))) gw_laysFinal
  | 26, _ => show Cond.laysFinal RX9 "PepperPolicyModel" "moreAt" "[I" ∈ sn_gw from sn_gwI (lb_4 (lt_16 (lt_16 (lt_16 (lt_16 (lt_16 (lt_16 (lt_16 (lt_16 (lt_16 (lt_16 (lt_16 (lt_16 (lt_16 (lt_8 lt_h))))))))))))))) gw_laysFinal
  | 27, _ => show Cond.laysFinal RX9 "PepperPolicyModel" "caughtOf" "[I" ∈ sn_gw from sn_gwI (lb_4 (lt_16 (lt_16 (lt_16 (lt_16 (lt_16 (lt_16 (lt_16 (lt_16 (lt_16 (lt_16 (lt_16 (lt_16 (lt_16 (lt_10 lt_h))))))))))))))) gw_laysFinal
  | 28, _ => show Cond.laysFinal RX9 "PepperPolicyModel" "oftenNow" "[I" ∈ sn_gw from sn_gwI (lb_4 (lt_16 (lt_16 (lt_16 (lt_16 (lt_16 (lt_16 (lt_16 (lt_16 (lt_16 (lt_16 (lt_16 (lt_16 (lt_16 (lt_12 lt_h))))))))))))))) gw_laysFinal
  | 29, _ => show Cond.laysFinal RX9 "PepperPolicyModel" "paidAt" "[I" ∈ sn_gw from sn_gwI (lb_4 (lt_16 (lt_16 (lt_16 (lt_16 (lt_16 (lt_16 (lt_16 (lt_16 (lt_16 (lt_16 (lt_16 (lt_16 (lt_16 (lt_14 lt_h))))))))))))))) gw_laysFinal
  | 30, _ => show Cond.lays RX9 "PepperPolicyModel" "paidFirst" "I" ∈ sn_gw from sn_gwI (lb_4 (lt_16 (lt_16 (lt_16 (lt_16 (lt_16 (lt_16 (lt_16 (lt_16 (lt_16 (lt_16 (lt_16 (lt_16 (lt_16 (lt_16 lt_h))))))))))))))) gw_lays
  | 31, _ => show Cond.lays RX9 "PepperPolicyModel" "gainsMost" "I" ∈ sn_gw from sn_gwI (lb_4 (lt_16 (lt_16 (lt_16 (lt_16 (lt_16 (lt_16 (lt_16 (lt_16 (lt_16 (lt_16 (lt_16 (lt_16 (lt_16 (lt_16 (lt_2 lt_h)))))))))))))))) gw_lays
  | 32, _ => show Cond.laysFinal RX9 "PepperPolicyModel" "heldFew" "[I" ∈ sn_gw from sn_gwI (lb_4 (lt_16 (lt_16 (lt_16 (lt_16 (lt_16 (lt_16 (lt_16 (lt_16 (lt_16 (lt_16 (lt_16 (lt_16 (lt_16 (lt_16 (lt_4 lt_h)))))))))))))))) gw_laysFinal
  | 33, _ => show Cond.laysFinal RX9 "PepperPolicyModel" "heldSet" "[I" ∈ sn_gw from sn_gwI (lb_4 (lt_16 (lt_16 (lt_16 (lt_16 (lt_16 (lt_16 (lt_16 (lt_16 (lt_16 (lt_16 (lt_16 (lt_16 (lt_16 (lt_16 (lt_6 lt_h)))))))))))))))) gw_laysFinal
  | 34, _ => show Cond.laysFinal RX9 "PepperPolicyModel" "pairs" "[I" ∈ sn_gw from sn_gwI (lb_4 (lt_16 (lt_16 (lt_16 (lt_16 (lt_16 (lt_16 (lt_16 (lt_16 (lt_16 (lt_16 (lt_16 (lt_16 (lt_16 (lt_16 (lt_8 lt_h)))))))))))))))) gw_laysFinal
  | 35, _ => show Cond.laysFinal RX9 "PepperPolicyModel" "oftenBy" "[I" ∈ sn_gw from sn_gwI (lb_4 (lt_16 (lt_16 (lt_16 (lt_16 (lt_16 (lt_16 (lt_16 (lt_16 (lt_16 (lt_16 (lt_16 (lt_16 (lt_16 (lt_16 (lt_10 lt_h)))))))))))))))) gw_laysFinal
  | 36, _ => show Cond.lays RX9 "PepperPolicyModel" "pairMany" "I" ∈ sn_gw from sn_gwI (lb_4 (lt_16 (lt_16 (lt_16 (lt_16 (lt_16 (lt_16 (lt_16 (lt_16 (lt_16 (lt_16 (lt_16 (lt_16 (lt_16 (lt_16 (lt_12 lt_h)))))))))))))))) gw_lays
  | 37, _ => show Cond.lays RX9 "PepperPolicyModel" "askWorst" "I" ∈ sn_gw from sn_gwI (lb_4 (lt_16 (lt_16 (lt_16 (lt_16 (lt_16 (lt_16 (lt_16 (lt_16 (lt_16 (lt_16 (lt_16 (lt_16 (lt_16 (lt_16 (lt_14 lt_h)))))))))))))))) gw_lays
  | 38, _ => show Cond.lays RX9 "PepperPolicyModel" "oftenAll" "J" ∈ sn_gw from sn_gwI (lb_5 lt_h) gw_lays
  | 39, _ => show Cond.lays RX9 "PepperPolicyModel" "oftenSneezes" "J" ∈ sn_gw from sn_gwI (lb_5 (lt_2 lt_h)) gw_lays
  | 40, _ => show Cond.lays RX9 "PepperPolicyModel" "oftenClaim" "J" ∈ sn_gw from sn_gwI (lb_5 (lt_4 lt_h)) gw_lays
  | 41, _ => show Cond.lays RX9 "PepperPolicyModel" "oftenRuin" "J" ∈ sn_gw from sn_gwI (lb_5 (lt_6 lt_h)) gw_lays
  | 42, _ => show Cond.laysFinal RX9 "PepperPolicyModel" "many" "[I" ∈ sn_gw from sn_gwI (lb_5 (lt_8 lt_h)) gw_laysFinal
  | 43, _ => show Cond.laysFinal RX9 "PepperPolicyModel" "width" "[I" ∈ sn_gw from sn_gwI (lb_5 (lt_10 lt_h)) gw_laysFinal
  | 44, _ => show Cond.laysFinal RX9 "PepperPolicyModel" "numbers" "[J" ∈ sn_gw from sn_gwI (lb_5 (lt_12 lt_h)) gw_laysFinal
  | 45, _ => show Cond.laysFinal RX9 "PepperPolicyModel" "moving" "[J" ∈ sn_gw from sn_gwI (lb_5 (lt_14 lt_h)) gw_laysFinal
  | k + 46, h => absurd h (by omega))
theorem kf_RJ0_9 : Cond.fieldLink RJ0 9 "java/lang/String" "value" "[B" ∈ sn_gw := sn_gwI (lb_7 (lt_16 (lt_16 (lt_16 (lt_16 (lt_16 (lt_16 (lt_16 (lt_7 lt_h))))))))) gw_fieldLink
theorem kf_RJ0_15 : Cond.fieldLink RJ0 15 "java/lang/String" "coder" "B" ∈ sn_gw := sn_gwI (lb_7 (lt_16 (lt_16 (lt_16 (lt_16 (lt_16 (lt_16 (lt_16 (lt_8 lt_h))))))))) gw_fieldLink
theorem kf_RJ0_38 : Cond.fieldLink RJ0 38 "java/lang/String" "COMPACT_STRINGS" "Z" ∈ sn_gw := sn_gwI (lb_1 (lt_16 (lt_16 (lt_16 (lt_16 (lt_16 (lt_16 (lt_16 (lt_16 (lt_14 lt_h)))))))))) gw_fieldLink
theorem kf_RJ0_1053 : Cond.fieldLink RJ0 1053 "jdk/internal/util/Preconditions" "SIOOBE_FORMATTER" "Ljava/util/function/BiFunction;" ∈ sn_gw := sn_gwI (lb_1 (lt_16 (lt_16 (lt_16 (lt_16 (lt_16 (lt_16 (lt_16 (lt_16 (lt_16 (lt_14 lt_h))))))))))) gw_fieldLink
theorem kc_J0_coder_7d493 : Cond.code yJ0_coder_7d493 cJ0_coder_7d493 1 (some .byte) ∈ sn_gw := sn_gwI (lb_1 (lt_16 (lt_16 (lt_16 (lt_16 (lt_16 (lt_16 (lt_16 (lt_16 (lt_13 lt_h)))))))))) gw_code
theorem km_RJ0_335 : Cond.methodLink RJ0 335 yJ0_coder_7d493 ∈ sn_gw := sn_gwI (lb_1 (lt_16 (lt_16 (lt_16 (lt_16 (lt_16 (lt_16 (lt_16 (lt_16 (lt_10 lt_h)))))))))) gw_methodLink
theorem kin_J0_coder_7d493 : Cond.instanceMethod yJ0_coder_7d493 ∈ sn_gw := sn_gwI (lb_1 (lt_16 (lt_16 (lt_16 (lt_16 (lt_16 (lt_16 (lt_16 (lt_16 (lt_11 lt_h)))))))))) gw_instanceMethod
theorem ks_J0_coder_7d493 : Cond.selects RJ0 yJ0_coder_7d493 yJ0_coder_7d493 ∈ sn_gw := sn_gwI (lb_1 (lt_16 (lt_16 (lt_16 (lt_16 (lt_16 (lt_16 (lt_16 (lt_16 (lt_12 lt_h)))))))))) gw_selects
theorem ki_RJ0 : Cond.initialized RJ0 ∈ sn_gw := sn_gwI (lb_0 (lt_13 lt_h)) gw_initialized
theorem kl_RJ0_335 : sn_LV RJ0 335 yJ0_coder_7d493 cJ0_coder_7d493 1 (some .byte) 0 := ⟨sn_lv5 km_RJ0_335 kin_J0_coder_7d493 ks_J0_coder_7d493 ki_RJ0 kc_J0_coder_7d493, by decide +kernel⟩
theorem kc_J0_isLatin1_aae02 : Cond.code yJ0_isLatin1_aae02 cJ0_isLatin1_aae02 1 (some .boolean) ∈ sn_gw := sn_gwI (lb_1 (lt_16 (lt_16 (lt_16 (lt_16 (lt_16 (lt_16 (lt_16 (lt_16 (lt_16 (lt_7 lt_h))))))))))) gw_code
theorem km_RJ0_492 : Cond.methodLink RJ0 492 yJ0_isLatin1_aae02 ∈ sn_gw := sn_gwI (lb_1 (lt_16 (lt_16 (lt_16 (lt_16 (lt_16 (lt_16 (lt_16 (lt_16 (lt_16 (lt_4 lt_h))))))))))) gw_methodLink
theorem kin_J0_isLatin1_aae02 : Cond.instanceMethod yJ0_isLatin1_aae02 ∈ sn_gw := sn_gwI (lb_1 (lt_16 (lt_16 (lt_16 (lt_16 (lt_16 (lt_16 (lt_16 (lt_16 (lt_16 (lt_5 lt_h))))))))))) gw_instanceMethod
theorem ks_J0_isLatin1_aae02 : Cond.selects RJ0 yJ0_isLatin1_aae02 yJ0_isLatin1_aae02 ∈ sn_gw := sn_gwI (lb_1 (lt_16 (lt_16 (lt_16 (lt_16 (lt_16 (lt_16 (lt_16 (lt_16 (lt_16 (lt_6 lt_h))))))))))) gw_selects
theorem kl_RJ0_492 : sn_LV RJ0 492 yJ0_isLatin1_aae02 cJ0_isLatin1_aae02 1 (some .boolean) 0 := ⟨sn_lv5 km_RJ0_492 kin_J0_isLatin1_aae02 ks_J0_isLatin1_aae02 ki_RJ0 kc_J0_isLatin1_aae02, by decide +kernel⟩
theorem kc_J1_charAt_3b067 : Cond.code yJ1_charAt_3b067 cJ1_charAt_3b067 2 (some .char) ∈ sn_gw := sn_gwI (lb_1 (lt_16 (lt_16 (lt_16 (lt_16 (lt_16 (lt_16 (lt_16 (lt_16 (lt_16 (lt_10 lt_h))))))))))) gw_code
theorem km_RJ0_495 : Cond.methodLink RJ0 495 yJ1_charAt_3b067 ∈ sn_gw := sn_gwI (lb_1 (lt_16 (lt_16 (lt_16 (lt_16 (lt_16 (lt_16 (lt_16 (lt_16 (lt_16 (lt_8 lt_h))))))))))) gw_methodLink
theorem kst_J1_charAt_3b067 : Cond.static yJ1_charAt_3b067 ∈ sn_gw := sn_gwI (lb_1 (lt_16 (lt_16 (lt_16 (lt_16 (lt_16 (lt_16 (lt_16 (lt_16 (lt_16 (lt_9 lt_h))))))))))) gw_static
theorem ki_RJ1 : Cond.initialized RJ1 ∈ sn_gw := sn_gwI (lb_0 (lt_14 lt_h)) gw_initialized
theorem kl_RJ0_495 : sn_LS RJ0 495 yJ1_charAt_3b067 cJ1_charAt_3b067 2 (some .char) 2 := ⟨sn_ls4 km_RJ0_495 kst_J1_charAt_3b067 ki_RJ1 kc_J1_charAt_3b067, by decide +kernel⟩
theorem kc_J0_checkIndex_df160 : Cond.code yJ0_checkIndex_df160 cJ0_checkIndex_df160 2 none ∈ sn_gw := sn_gwI (lb_1 (lt_16 (lt_16 (lt_16 (lt_16 (lt_16 (lt_16 (lt_16 (lt_16 (lt_16 (lt_13 lt_h))))))))))) gw_code
theorem km_RJ1_9 : Cond.methodLink RJ1 9 yJ0_checkIndex_df160 ∈ sn_gw := sn_gwI (lb_1 (lt_16 (lt_16 (lt_16 (lt_16 (lt_16 (lt_16 (lt_16 (lt_16 (lt_16 (lt_11 lt_h))))))))))) gw_methodLink
theorem kst_J0_checkIndex_df160 : Cond.static yJ0_checkIndex_df160 ∈ sn_gw := sn_gwI (lb_1 (lt_16 (lt_16 (lt_16 (lt_16 (lt_16 (lt_16 (lt_16 (lt_16 (lt_16 (lt_12 lt_h))))))))))) gw_static
theorem kl_RJ1_9 : sn_LS RJ1 9 yJ0_checkIndex_df160 cJ0_checkIndex_df160 2 none 2 := ⟨sn_ls4 km_RJ1_9 kst_J0_checkIndex_df160 ki_RJ0 kc_J0_checkIndex_df160, by decide +kernel⟩
theorem kc_J3_checkIndex_8e157 : Cond.code yJ3_checkIndex_8e157 cJ3_checkIndex_8e157 3 (some .int) ∈ sn_gw := sn_gwI (lb_1 (lt_16 (lt_16 (lt_16 (lt_16 (lt_16 (lt_16 (lt_16 (lt_16 (lt_16 (lt_16 (lt_2 lt_h)))))))))))) gw_code
theorem km_RJ0_1059 : Cond.methodLink RJ0 1059 yJ3_checkIndex_8e157 ∈ sn_gw := sn_gwI (lb_1 (lt_16 (lt_16 (lt_16 (lt_16 (lt_16 (lt_16 (lt_16 (lt_16 (lt_16 (lt_16 lt_h))))))))))) gw_methodLink
theorem kst_J3_checkIndex_8e157 : Cond.static yJ3_checkIndex_8e157 ∈ sn_gw := sn_gwI (lb_1 (lt_16 (lt_16 (lt_16 (lt_16 (lt_16 (lt_16 (lt_16 (lt_16 (lt_16 (lt_16 (lt_1 lt_h)))))))))))) gw_static
theorem ki_RJ3 : Cond.initialized RJ3 ∈ sn_gw := sn_gwI (lb_0 (lt_15 lt_h)) gw_initialized
theorem kl_RJ0_1059 : sn_LS RJ0 1059 yJ3_checkIndex_8e157 cJ3_checkIndex_8e157 3 (some .int) 3 := ⟨sn_ls4 km_RJ0_1059 kst_J3_checkIndex_8e157 ki_RJ3 kc_J3_checkIndex_8e157, by decide +kernel⟩
theorem kk_RX9_92 : Cond.constantLong RX9 92 (2) ∈ sn_gw := sn_gwI (lb_5 (lt_16 (lt_5 lt_h))) (by decide +kernel)
theorem kf_RX9_13 : Cond.fieldLink RX9 13 (TX9 2).1 (TX9 2).2.1 (TX9 2).2.2.1 ∈ sn_gw := sn_gwI (lb_4 (lt_16 (lt_16 (lt_16 (lt_16 (lt_16 (lt_16 (lt_16 (lt_8 lt_h))))))))) gw_fieldLink
theorem fd_RX9_13 : sn_Fd RX9 13 9 2 := ⟨RX9, TX9, 46, rfl, ug_X9, by decide, kf_RX9_13⟩
theorem kf_RX9_9 : Cond.fieldLink RX9 9 (TX9 1).1 (TX9 1).2.1 (TX9 1).2.2.1 ∈ sn_gw := sn_gwI (lb_4 (lt_16 (lt_16 (lt_16 (lt_16 (lt_16 (lt_16 (lt_16 (lt_7 lt_h))))))))) gw_fieldLink
theorem fd_RX9_9 : sn_Fd RX9 9 9 1 := ⟨RX9, TX9, 46, rfl, ug_X9, by decide, kf_RX9_9⟩
theorem kf_RX9_16 : Cond.fieldLink RX9 16 (TX9 3).1 (TX9 3).2.1 (TX9 3).2.2.1 ∈ sn_gw := sn_gwI (lb_4 (lt_16 (lt_16 (lt_16 (lt_16 (lt_16 (lt_16 (lt_16 (lt_9 lt_h))))))))) gw_fieldLink
theorem fd_RX9_16 : sn_Fd RX9 16 9 3 := ⟨RX9, TX9, 46, rfl, ug_X9, by decide, kf_RX9_16⟩
theorem kc_X9_in : Cond.code yX9_in cX9_in 6 (some .boolean) ∈ sn_gw := sn_gwI (lb_5 (lt_16 (lt_8 lt_h))) gw_code
theorem km_RX9_94 : Cond.methodLink RX9 94 yX9_in ∈ sn_gw := sn_gwI (lb_5 (lt_16 (lt_6 lt_h))) gw_methodLink
theorem kst_X9_in : Cond.static yX9_in ∈ sn_gw := sn_gwI (lb_5 (lt_16 (lt_7 lt_h))) gw_static
theorem ki_RX9 : Cond.initialized RX9 ∈ sn_gw := sn_gwI (lb_0 (lt_11 lt_h)) gw_initialized
theorem kl_RX9_94 : sn_LS RX9 94 yX9_in cX9_in 6 (some .boolean) 3 := ⟨sn_ls4 km_RX9_94 kst_X9_in ki_RX9 kc_X9_in, by decide +kernel⟩
theorem kk_RX9_98 : Cond.constantLong RX9 98 (3) ∈ sn_gw := sn_gwI (lb_6 (lt_16 (lt_16 (lt_16 (lt_16 (lt_16 (lt_16 (lt_16 (lt_16 (lt_12 lt_h)))))))))) (by decide +kernel)
theorem kf_RX9_100 : Cond.fieldLink RX9 100 (TX9 5).1 (TX9 5).2.1 (TX9 5).2.2.1 ∈ sn_gw := sn_gwI (lb_4 (lt_16 (lt_16 (lt_16 (lt_16 (lt_16 (lt_16 (lt_16 (lt_11 lt_h))))))))) gw_fieldLink
theorem fd_RX9_100 : sn_Fd RX9 100 9 5 := ⟨RX9, TX9, 46, rfl, ug_X9, by decide, kf_RX9_100⟩
theorem kf_RX9_24 : Cond.fieldLink RX9 24 (TX9 6).1 (TX9 6).2.1 (TX9 6).2.2.1 ∈ sn_gw := sn_gwI (lb_4 (lt_16 (lt_16 (lt_16 (lt_16 (lt_16 (lt_16 (lt_16 (lt_12 lt_h))))))))) gw_fieldLink
theorem fd_RX9_24 : sn_Fd RX9 24 9 6 := ⟨RX9, TX9, 46, rfl, ug_X9, by decide, kf_RX9_24⟩
theorem kf_RX9_20 : Cond.fieldLink RX9 20 (TX9 4).1 (TX9 4).2.1 (TX9 4).2.2.1 ∈ sn_gw := sn_gwI (lb_4 (lt_16 (lt_16 (lt_16 (lt_16 (lt_16 (lt_16 (lt_16 (lt_10 lt_h))))))))) gw_fieldLink
theorem fd_RX9_20 : sn_Fd RX9 20 9 4 := ⟨RX9, TX9, 46, rfl, ug_X9, by decide, kf_RX9_20⟩
theorem fp_RX9_100 : sn_Fp RX9 100 9 5 .int := ⟨RX9, TX9, 46, tyX9, rfl, ug_X9, by decide, kf_RX9_100, tyX9_ok, nmX9, rfl, by decide +kernel⟩
theorem kf_RX9_103 : Cond.fieldLink RX9 103 (TX9 7).1 (TX9 7).2.1 (TX9 7).2.2.1 ∈ sn_gw := sn_gwI (lb_4 (lt_16 (lt_16 (lt_16 (lt_16 (lt_16 (lt_16 (lt_16 (lt_13 lt_h))))))))) gw_fieldLink
theorem fd_RX9_103 : sn_Fd RX9 103 9 7 := ⟨RX9, TX9, 46, rfl, ug_X9, by decide, kf_RX9_103⟩
theorem kf_RX9_106 : Cond.fieldLink RX9 106 (TX9 8).1 (TX9 8).2.1 (TX9 8).2.2.1 ∈ sn_gw := sn_gwI (lb_4 (lt_16 (lt_16 (lt_16 (lt_16 (lt_16 (lt_16 (lt_16 (lt_14 lt_h))))))))) gw_fieldLink
theorem fd_RX9_106 : sn_Fd RX9 106 9 8 := ⟨RX9, TX9, 46, rfl, ug_X9, by decide, kf_RX9_106⟩
theorem kk_RX9_119 : Cond.constantLong RX9 119 (97) ∈ sn_gw := sn_gwI (lb_5 (lt_16 (lt_16 (lt_16 (lt_5 lt_h))))) (by decide +kernel)
theorem kk_RX9_121 : Cond.constantLong RX9 121 (122) ∈ sn_gw := sn_gwI (lb_5 (lt_16 (lt_16 (lt_16 (lt_6 lt_h))))) (by decide +kernel)
theorem kk_RX9_123 : Cond.constantLong RX9 123 (48) ∈ sn_gw := sn_gwI (lb_5 (lt_16 (lt_16 (lt_16 (lt_7 lt_h))))) (by decide +kernel)
theorem kk_RX9_125 : Cond.constantLong RX9 125 (57) ∈ sn_gw := sn_gwI (lb_5 (lt_16 (lt_16 (lt_16 (lt_8 lt_h))))) (by decide +kernel)
theorem kk_RX9_130 : Cond.constant RX9 130 (99999) ∈ sn_gw := sn_gwI (lb_5 (lt_16 (lt_16 (lt_16 (lt_9 lt_h))))) (by decide +kernel)
theorem kf_RX9_127 : Cond.fieldLink RX9 127 (TX9 11).1 (TX9 11).2.1 (TX9 11).2.2.1 ∈ sn_gw := sn_gwI (lb_4 (lt_16 (lt_16 (lt_16 (lt_16 (lt_16 (lt_16 (lt_16 (lt_16 (lt_1 lt_h)))))))))) gw_fieldLink
theorem fd_RX9_127 : sn_Fd RX9 127 9 11 := ⟨RX9, TX9, 46, rfl, ug_X9, by decide, kf_RX9_127⟩
theorem kf_RX9_116 : Cond.fieldLink RX9 116 (TX9 10).1 (TX9 10).2.1 (TX9 10).2.2.1 ∈ sn_gw := sn_gwI (lb_4 (lt_16 (lt_16 (lt_16 (lt_16 (lt_16 (lt_16 (lt_16 (lt_16 lt_h))))))))) gw_fieldLink
theorem fp_RX9_116 : sn_Fp RX9 116 9 10 .int := ⟨RX9, TX9, 46, tyX9, rfl, ug_X9, by decide, kf_RX9_116, tyX9_ok, nmX9, rfl, by decide +kernel⟩
theorem fp_RX9_106 : sn_Fp RX9 106 9 8 .int := ⟨RX9, TX9, 46, tyX9, rfl, ug_X9, by decide, kf_RX9_106, tyX9_ok, nmX9, rfl, by decide +kernel⟩
theorem kc_X9_see : Cond.code yX9_see cX9_see 2 (some .int) ∈ sn_gw := sn_gwI (lb_5 (lt_16 (lt_16 (lt_16 (lt_4 lt_h))))) gw_code
theorem km_RX9_109 : Cond.methodLink RX9 109 yX9_see ∈ sn_gw := sn_gwI (lb_5 (lt_16 (lt_16 (lt_16 (lt_1 lt_h))))) gw_methodLink
theorem kin_X9_see : Cond.instanceMethod yX9_see ∈ sn_gw := sn_gwI (lb_5 (lt_16 (lt_16 (lt_16 (lt_3 lt_h))))) gw_instanceMethod
theorem ks_X9_see : Cond.selects RX9 yX9_see yX9_see ∈ sn_gw := sn_gwS (q := (yX9_see, 46)) (List.mem_of_getElem? (i := 42) (by decide +kernel)) (by decide +kernel)
theorem kl_RX9_109 : sn_LV RX9 109 yX9_see cX9_see 2 (some .int) 1 := ⟨sn_lv5 km_RX9_109 kin_X9_see ks_X9_see ki_RX9 kc_X9_see, by decide +kernel⟩
theorem km_RX9_131 : Cond.methodLink RX9 131 Lib.Math.min.name ∈ sn_gw := sn_gwI (lb_5 (lt_16 (lt_16 (lt_16 (lt_10 lt_h))))) gw_methodLink
theorem kst_minI : Cond.static Lib.Math.min.name ∈ sn_gw := sn_gwI (lb_1 (lt_16 (lt_16 (lt_16 (lt_16 (lt_16 (lt_16 (lt_16 (lt_7 lt_h))))))))) gw_static
theorem ki_Math : Cond.initialized "java/lang/Math" ∈ sn_gw := sn_gwI (lb_0 (lt_12 lt_h)) gw_initialized
theorem kc_minI : Cond.code Lib.Math.min.name Lib.Math.min.code 2 (some .int) ∈ sn_gw := sn_gwI (lb_1 (lt_16 (lt_16 (lt_16 (lt_16 (lt_16 (lt_16 (lt_16 (lt_8 lt_h))))))))) gw_code
theorem fp_RX9_127 : sn_Fp RX9 127 9 11 .int := ⟨RX9, TX9, 46, tyX9, rfl, ug_X9, by decide, kf_RX9_127, tyX9_ok, nmX9, rfl, by decide +kernel⟩
theorem kf_RX9_113 : Cond.fieldLink RX9 113 (TX9 9).1 (TX9 9).2.1 (TX9 9).2.2.1 ∈ sn_gw := sn_gwI (lb_4 (lt_16 (lt_16 (lt_16 (lt_16 (lt_16 (lt_16 (lt_16 (lt_15 lt_h))))))))) gw_fieldLink
theorem fp_RX9_113 : sn_Fp RX9 113 9 9 .int := ⟨RX9, TX9, 46, tyX9, rfl, ug_X9, by decide, kf_RX9_113, tyX9_ok, nmX9, rfl, by decide +kernel⟩
theorem kf_RX9_137 : Cond.fieldLink RX9 137 (TX9 12).1 (TX9 12).2.1 (TX9 12).2.2.1 ∈ sn_gw := sn_gwI (lb_4 (lt_16 (lt_16 (lt_16 (lt_16 (lt_16 (lt_16 (lt_16 (lt_16 (lt_2 lt_h)))))))))) gw_fieldLink
theorem fd_RX9_137 : sn_Fd RX9 137 9 12 := ⟨RX9, TX9, 46, rfl, ug_X9, by decide, kf_RX9_137⟩
theorem fd_RX9_113 : sn_Fd RX9 113 9 9 := ⟨RX9, TX9, 46, rfl, ug_X9, by decide, kf_RX9_113⟩
theorem kc_X9_good : Cond.code yX9_good cX9_good 1 (some .boolean) ∈ sn_gw := sn_gwI (lb_5 (lt_16 (lt_16 (lt_16 (lt_14 lt_h))))) gw_code
theorem km_RX9_140 : Cond.methodLink RX9 140 yX9_good ∈ sn_gw := sn_gwI (lb_5 (lt_16 (lt_16 (lt_16 (lt_11 lt_h))))) gw_methodLink
theorem kin_X9_good : Cond.instanceMethod yX9_good ∈ sn_gw := sn_gwI (lb_5 (lt_16 (lt_16 (lt_16 (lt_13 lt_h))))) gw_instanceMethod
theorem ks_X9_good : Cond.selects RX9 yX9_good yX9_good ∈ sn_gw := sn_gwS (q := (yX9_good, 46)) (List.mem_of_getElem? (i := 43) (by decide +kernel)) (by decide +kernel)
theorem kl_RX9_140 : sn_LV RX9 140 yX9_good cX9_good 1 (some .boolean) 0 := ⟨sn_lv5 km_RX9_140 kin_X9_good ks_X9_good ki_RX9 kc_X9_good, by decide +kernel⟩
theorem fp_RX9_137 : sn_Fp RX9 137 9 12 .int := ⟨RX9, TX9, 46, tyX9, rfl, ug_X9, by decide, kf_RX9_137, tyX9_ok, nmX9, rfl, by decide +kernel⟩
theorem kf_RX9_27 : Cond.fieldLink RX9 27 (TX9 13).1 (TX9 13).2.1 (TX9 13).2.2.1 ∈ sn_gw := sn_gwI (lb_4 (lt_16 (lt_16 (lt_16 (lt_16 (lt_16 (lt_16 (lt_16 (lt_16 (lt_3 lt_h)))))))))) gw_fieldLink
theorem fp_RX9_27 : sn_Fp RX9 27 9 13 .int := ⟨RX9, TX9, 46, tyX9, rfl, ug_X9, by decide, kf_RX9_27, tyX9_ok, nmX9, rfl, by decide +kernel⟩
theorem fd_RX9_116 : sn_Fd RX9 116 9 10 := ⟨RX9, TX9, 46, rfl, ug_X9, by decide, kf_RX9_116⟩
theorem kc_J0_length_8abf5 : Cond.code yJ0_length_8abf5 cJ0_length_8abf5 1 (some .int) ∈ sn_gw := sn_gwI (lb_1 (lt_16 (lt_16 (lt_16 (lt_16 (lt_16 (lt_16 (lt_16 (lt_16 (lt_9 lt_h)))))))))) gw_code
theorem km_RX9_144 : Cond.methodLink RX9 144 yJ0_length_8abf5 ∈ sn_gw := sn_gwI (lb_5 (lt_16 (lt_16 (lt_16 (lt_16 (lt_16 (lt_4 lt_h))))))) gw_methodLink
theorem kin_J0_length_8abf5 : Cond.instanceMethod yJ0_length_8abf5 ∈ sn_gw := sn_gwI (lb_1 (lt_16 (lt_16 (lt_16 (lt_16 (lt_16 (lt_16 (lt_16 (lt_16 (lt_7 lt_h)))))))))) gw_instanceMethod
theorem ks_J0_length_8abf5 : Cond.selects RJ0 yJ0_length_8abf5 yJ0_length_8abf5 ∈ sn_gw := sn_gwI (lb_1 (lt_16 (lt_16 (lt_16 (lt_16 (lt_16 (lt_16 (lt_16 (lt_16 (lt_8 lt_h)))))))))) gw_selects
theorem kl_RX9_144 : sn_LV RX9 144 yJ0_length_8abf5 cJ0_length_8abf5 1 (some .int) 0 := ⟨sn_lv5 km_RX9_144 kin_J0_length_8abf5 ks_J0_length_8abf5 ki_RJ0 kc_J0_length_8abf5, by decide +kernel⟩
theorem kc_J0_charAt_5068e : Cond.code yJ0_charAt_5068e cJ0_charAt_5068e 2 (some .char) ∈ sn_gw := sn_gwI (lb_1 (lt_16 (lt_16 (lt_16 (lt_16 (lt_16 (lt_16 (lt_16 (lt_16 (lt_16 (lt_3 lt_h))))))))))) gw_code
theorem km_RX9_150 : Cond.methodLink RX9 150 yJ0_charAt_5068e ∈ sn_gw := sn_gwI (lb_5 (lt_16 (lt_16 (lt_16 (lt_16 (lt_16 (lt_5 lt_h))))))) gw_methodLink
theorem kin_J0_charAt_5068e : Cond.instanceMethod yJ0_charAt_5068e ∈ sn_gw := sn_gwI (lb_1 (lt_16 (lt_16 (lt_16 (lt_16 (lt_16 (lt_16 (lt_16 (lt_16 (lt_16 (lt_1 lt_h))))))))))) gw_instanceMethod
theorem ks_J0_charAt_5068e : Cond.selects RJ0 yJ0_charAt_5068e yJ0_charAt_5068e ∈ sn_gw := sn_gwI (lb_1 (lt_16 (lt_16 (lt_16 (lt_16 (lt_16 (lt_16 (lt_16 (lt_16 (lt_16 (lt_2 lt_h))))))))))) gw_selects
theorem kl_RX9_150 : sn_LV RX9 150 yJ0_charAt_5068e cJ0_charAt_5068e 2 (some .char) 1 := ⟨sn_lv5 km_RX9_150 kin_J0_charAt_5068e ks_J0_charAt_5068e ki_RJ0 kc_J0_charAt_5068e, by decide +kernel⟩
theorem kc_X9_is : Cond.code yX9_is cX9_is 4 (some .boolean) ∈ sn_gw := sn_gwI (lb_5 (lt_16 (lt_16 (lt_16 (lt_16 (lt_16 (lt_3 lt_h))))))) gw_code
theorem km_RX9_154 : Cond.methodLink RX9 154 yX9_is ∈ sn_gw := sn_gwI (lb_5 (lt_16 (lt_16 (lt_16 (lt_16 (lt_16 lt_h)))))) gw_methodLink
theorem kin_X9_is : Cond.instanceMethod yX9_is ∈ sn_gw := sn_gwI (lb_5 (lt_16 (lt_16 (lt_16 (lt_16 (lt_16 (lt_2 lt_h))))))) gw_instanceMethod
theorem ks_X9_is : Cond.selects RX9 yX9_is yX9_is ∈ sn_gw := sn_gwS (q := (yX9_is, 46)) (List.mem_of_getElem? (i := 48) (by decide +kernel)) (by decide +kernel)
theorem kl_RX9_154 : sn_LV RX9 154 yX9_is cX9_is 4 (some .boolean) 1 := ⟨sn_lv5 km_RX9_154 kin_X9_is ks_X9_is ki_RX9 kc_X9_is, by decide +kernel⟩
theorem kc_X9_advance : Cond.code yX9_advance cX9_advance 2 none ∈ sn_gw := sn_gwI (lb_5 (lt_16 (lt_16 (lt_16 lt_h)))) gw_code
theorem km_RX9_158 : Cond.methodLink RX9 158 yX9_advance ∈ sn_gw := sn_gwI (lb_5 (lt_16 (lt_16 (lt_13 lt_h)))) gw_methodLink
theorem kin_X9_advance : Cond.instanceMethod yX9_advance ∈ sn_gw := sn_gwI (lb_5 (lt_16 (lt_16 (lt_15 lt_h)))) gw_instanceMethod
theorem ks_X9_advance : Cond.selects RX9 yX9_advance yX9_advance ∈ sn_gw := sn_gwS (q := (yX9_advance, 46)) (List.mem_of_getElem? (i := 41) (by decide +kernel)) (by decide +kernel)
theorem kl_RX9_158 : sn_LV RX9 158 yX9_advance cX9_advance 2 none 0 := ⟨sn_lv5 km_RX9_158 kin_X9_advance ks_X9_advance ki_RX9 kc_X9_advance, by decide +kernel⟩
theorem kc_X9_takes : Cond.code yX9_takes cX9_takes 3 (some .boolean) ∈ sn_gw := sn_gwI (lb_5 (lt_16 (lt_16 (lt_16 (lt_16 (lt_15 lt_h)))))) gw_code
theorem km_RX9_161 : Cond.methodLink RX9 161 yX9_takes ∈ sn_gw := sn_gwI (lb_5 (lt_16 (lt_16 (lt_16 (lt_16 (lt_12 lt_h)))))) gw_methodLink
theorem kin_X9_takes : Cond.instanceMethod yX9_takes ∈ sn_gw := sn_gwI (lb_5 (lt_16 (lt_16 (lt_16 (lt_16 (lt_14 lt_h)))))) gw_instanceMethod
theorem ks_X9_takes : Cond.selects RX9 yX9_takes yX9_takes ∈ sn_gw := sn_gwS (q := (yX9_takes, 46)) (List.mem_of_getElem? (i := 47) (by decide +kernel)) (by decide +kernel)
theorem kl_RX9_161 : sn_LV RX9 161 yX9_takes cX9_takes 3 (some .boolean) 1 := ⟨sn_lv5 km_RX9_161 kin_X9_takes ks_X9_takes ki_RX9 kc_X9_takes, by decide +kernel⟩
theorem kc_X9_errs : Cond.code yX9_errs cX9_errs 2 none ∈ sn_gw := sn_gwI (lb_5 (lt_16 (lt_16 (lt_16 (lt_16 (lt_16 (lt_9 lt_h))))))) gw_code
theorem km_RX9_164 : Cond.methodLink RX9 164 yX9_errs ∈ sn_gw := sn_gwI (lb_5 (lt_16 (lt_16 (lt_16 (lt_16 (lt_16 (lt_6 lt_h))))))) gw_methodLink
theorem kin_X9_errs : Cond.instanceMethod yX9_errs ∈ sn_gw := sn_gwI (lb_5 (lt_16 (lt_16 (lt_16 (lt_16 (lt_16 (lt_8 lt_h))))))) gw_instanceMethod
theorem ks_X9_errs : Cond.selects RX9 yX9_errs yX9_errs ∈ sn_gw := sn_gwS (q := (yX9_errs, 46)) (List.mem_of_getElem? (i := 49) (by decide +kernel)) (by decide +kernel)
theorem kl_RX9_164 : sn_LV RX9 164 yX9_errs cX9_errs 2 none 1 := ⟨sn_lv5 km_RX9_164 kin_X9_errs ks_X9_errs ki_RX9 kc_X9_errs, by decide +kernel⟩
theorem kc_X9_needs : Cond.code yX9_needs cX9_needs 2 none ∈ sn_gw := sn_gwI (lb_5 (lt_16 (lt_16 (lt_16 (lt_16 (lt_11 lt_h)))))) gw_code
theorem km_RX9_168 : Cond.methodLink RX9 168 yX9_needs ∈ sn_gw := sn_gwI (lb_5 (lt_16 (lt_16 (lt_16 (lt_16 (lt_8 lt_h)))))) gw_methodLink
theorem kin_X9_needs : Cond.instanceMethod yX9_needs ∈ sn_gw := sn_gwI (lb_5 (lt_16 (lt_16 (lt_16 (lt_16 (lt_10 lt_h)))))) gw_instanceMethod
theorem ks_X9_needs : Cond.selects RX9 yX9_needs yX9_needs ∈ sn_gw := sn_gwS (q := (yX9_needs, 46)) (List.mem_of_getElem? (i := 46) (by decide +kernel)) (by decide +kernel)
theorem kl_RX9_168 : sn_LV RX9 168 yX9_needs cX9_needs 2 none 1 := ⟨sn_lv5 km_RX9_168 kin_X9_needs ks_X9_needs ki_RX9 kc_X9_needs, by decide +kernel⟩
theorem kc_X9_number : Cond.code yX9_number cX9_number 4 (some .int) ∈ sn_gw := sn_gwI (lb_5 (lt_16 (lt_16 (lt_16 (lt_16 (lt_16 (lt_16 (lt_2 lt_h)))))))) gw_code
theorem km_RX9_172 : Cond.methodLink RX9 172 yX9_number ∈ sn_gw := sn_gwI (lb_5 (lt_16 (lt_16 (lt_16 (lt_16 (lt_16 (lt_15 lt_h))))))) gw_methodLink
theorem kin_X9_number : Cond.instanceMethod yX9_number ∈ sn_gw := sn_gwI (lb_5 (lt_16 (lt_16 (lt_16 (lt_16 (lt_16 (lt_16 (lt_1 lt_h)))))))) gw_instanceMethod
theorem ks_X9_number : Cond.selects RX9 yX9_number yX9_number ∈ sn_gw := sn_gwS (q := (yX9_number, 46)) (List.mem_of_getElem? (i := 51) (by decide +kernel)) (by decide +kernel)
theorem kl_RX9_172 : sn_LV RX9 172 yX9_number cX9_number 4 (some .int) 2 := ⟨sn_lv5 km_RX9_172 kin_X9_number ks_X9_number ki_RX9 kc_X9_number, by decide +kernel⟩
theorem fd_RX9_27 : sn_Fd RX9 27 9 13 := ⟨RX9, TX9, 46, rfl, ug_X9, by decide, kf_RX9_27⟩
theorem kf_RX9_31 : Cond.fieldLink RX9 31 (TX9 14).1 (TX9 14).2.1 (TX9 14).2.2.1 ∈ sn_gw := sn_gwI (lb_4 (lt_16 (lt_16 (lt_16 (lt_16 (lt_16 (lt_16 (lt_16 (lt_16 (lt_4 lt_h)))))))))) gw_fieldLink
theorem fd_RX9_31 : sn_Fd RX9 31 9 14 := ⟨RX9, TX9, 46, rfl, ug_X9, by decide, kf_RX9_31⟩
theorem kc_X9_told : Cond.code yX9_told cX9_told 4 (some .int) ∈ sn_gw := sn_gwI (lb_5 (lt_16 (lt_16 (lt_16 (lt_16 (lt_16 (lt_14 lt_h))))))) gw_code
theorem km_RX9_179 : Cond.methodLink RX9 179 yX9_told ∈ sn_gw := sn_gwI (lb_5 (lt_16 (lt_16 (lt_16 (lt_16 (lt_16 (lt_11 lt_h))))))) gw_methodLink
theorem kin_X9_told : Cond.instanceMethod yX9_told ∈ sn_gw := sn_gwI (lb_5 (lt_16 (lt_16 (lt_16 (lt_16 (lt_16 (lt_13 lt_h))))))) gw_instanceMethod
theorem ks_X9_told : Cond.selects RX9 yX9_told yX9_told ∈ sn_gw := sn_gwS (q := (yX9_told, 46)) (List.mem_of_getElem? (i := 50) (by decide +kernel)) (by decide +kernel)
theorem kl_RX9_179 : sn_LV RX9 179 yX9_told cX9_told 4 (some .int) 3 := ⟨sn_lv5 km_RX9_179 kin_X9_told ks_X9_told ki_RX9 kc_X9_told, by decide +kernel⟩
theorem kc_X9_readPolicy : Cond.code yX9_readPolicy cX9_readPolicy 2 none ∈ sn_gw := sn_gwI (lb_5 (lt_16 (lt_16 (lt_16 (lt_16 (lt_16 (lt_16 (lt_16 (lt_8 lt_h))))))))) gw_code
theorem km_RX9_212 : Cond.methodLink RX9 212 yX9_readPolicy ∈ sn_gw := sn_gwI (lb_5 (lt_16 (lt_16 (lt_16 (lt_16 (lt_16 (lt_16 (lt_16 (lt_5 lt_h))))))))) gw_methodLink
theorem kin_X9_readPolicy : Cond.instanceMethod yX9_readPolicy ∈ sn_gw := sn_gwI (lb_5 (lt_16 (lt_16 (lt_16 (lt_16 (lt_16 (lt_16 (lt_16 (lt_7 lt_h))))))))) gw_instanceMethod
theorem ks_X9_readPolicy : Cond.selects RX9 yX9_readPolicy yX9_readPolicy ∈ sn_gw := sn_gwS (q := (yX9_readPolicy, 46)) (List.mem_of_getElem? (i := 54) (by decide +kernel)) (by decide +kernel)
theorem kl_RX9_212 : sn_LV RX9 212 yX9_readPolicy cX9_readPolicy 2 none 0 := ⟨sn_lv5 km_RX9_212 kin_X9_readPolicy ks_X9_readPolicy ki_RX9 kc_X9_readPolicy, by decide +kernel⟩
theorem kc_X9_readNet : Cond.code yX9_readNet cX9_readNet 3 none ∈ sn_gw := sn_gwI (lb_5 (lt_16 (lt_16 (lt_16 (lt_16 (lt_16 (lt_16 (lt_16 (lt_4 lt_h))))))))) gw_code
theorem km_RX9_209 : Cond.methodLink RX9 209 yX9_readNet ∈ sn_gw := sn_gwI (lb_5 (lt_16 (lt_16 (lt_16 (lt_16 (lt_16 (lt_16 (lt_16 (lt_1 lt_h))))))))) gw_methodLink
theorem kin_X9_readNet : Cond.instanceMethod yX9_readNet ∈ sn_gw := sn_gwI (lb_5 (lt_16 (lt_16 (lt_16 (lt_16 (lt_16 (lt_16 (lt_16 (lt_3 lt_h))))))))) gw_instanceMethod
theorem ks_X9_readNet : Cond.selects RX9 yX9_readNet yX9_readNet ∈ sn_gw := sn_gwS (q := (yX9_readNet, 46)) (List.mem_of_getElem? (i := 53) (by decide +kernel)) (by decide +kernel)
theorem kl_RX9_209 : sn_LV RX9 209 yX9_readNet cX9_readNet 3 none 0 := ⟨sn_lv5 km_RX9_209 kin_X9_readNet ks_X9_readNet ki_RX9 kc_X9_readNet, by decide +kernel⟩
theorem kc_X9_readNext : Cond.code yX9_readNext cX9_readNext 3 none ∈ sn_gw := sn_gwI (lb_5 (lt_16 (lt_16 (lt_16 (lt_16 (lt_16 (lt_16 (lt_10 lt_h)))))))) gw_code
theorem km_RX9_218 : Cond.methodLink RX9 218 yX9_readNext ∈ sn_gw := sn_gwI (lb_5 (lt_16 (lt_16 (lt_16 (lt_16 (lt_16 (lt_16 (lt_7 lt_h)))))))) gw_methodLink
theorem kin_X9_readNext : Cond.instanceMethod yX9_readNext ∈ sn_gw := sn_gwI (lb_5 (lt_16 (lt_16 (lt_16 (lt_16 (lt_16 (lt_16 (lt_9 lt_h)))))))) gw_instanceMethod
theorem ks_X9_readNext : Cond.selects RX9 yX9_readNext yX9_readNext ∈ sn_gw := sn_gwS (q := (yX9_readNext, 46)) (List.mem_of_getElem? (i := 52) (by decide +kernel)) (by decide +kernel)
theorem kl_RX9_218 : sn_LV RX9 218 yX9_readNext cX9_readNext 3 none 0 := ⟨sn_lv5 km_RX9_218 kin_X9_readNext ks_X9_readNext ki_RX9 kc_X9_readNext, by decide +kernel⟩
theorem kc_X9_readFirst : Cond.code yX9_readFirst cX9_readFirst 1 none ∈ sn_gw := sn_gwI (lb_5 (lt_16 (lt_16 (lt_16 (lt_16 (lt_6 lt_h)))))) gw_code
theorem km_RX9_215 : Cond.methodLink RX9 215 yX9_readFirst ∈ sn_gw := sn_gwI (lb_5 (lt_16 (lt_16 (lt_16 (lt_16 (lt_3 lt_h)))))) gw_methodLink
theorem kin_X9_readFirst : Cond.instanceMethod yX9_readFirst ∈ sn_gw := sn_gwI (lb_5 (lt_16 (lt_16 (lt_16 (lt_16 (lt_5 lt_h)))))) gw_instanceMethod
theorem ks_X9_readFirst : Cond.selects RX9 yX9_readFirst yX9_readFirst ∈ sn_gw := sn_gwS (q := (yX9_readFirst, 46)) (List.mem_of_getElem? (i := 45) (by decide +kernel)) (by decide +kernel)
theorem kl_RX9_215 : sn_LV RX9 215 yX9_readFirst cX9_readFirst 1 none 0 := ⟨sn_lv5 km_RX9_215 kin_X9_readFirst ks_X9_readFirst ki_RX9 kc_X9_readFirst, by decide +kernel⟩
theorem kc_X9_readLine : Cond.code yX9_readLine cX9_readLine 1 none ∈ sn_gw := sn_gwI (lb_5 (lt_16 (lt_16 (lt_16 (lt_16 (lt_2 lt_h)))))) gw_code
theorem km_RX9_221 : Cond.methodLink RX9 221 yX9_readLine ∈ sn_gw := sn_gwI (lb_5 (lt_16 (lt_16 (lt_16 (lt_15 lt_h))))) gw_methodLink
theorem kin_X9_readLine : Cond.instanceMethod yX9_readLine ∈ sn_gw := sn_gwI (lb_5 (lt_16 (lt_16 (lt_16 (lt_16 (lt_1 lt_h)))))) gw_instanceMethod
theorem ks_X9_readLine : Cond.selects RX9 yX9_readLine yX9_readLine ∈ sn_gw := sn_gwS (q := (yX9_readLine, 46)) (List.mem_of_getElem? (i := 44) (by decide +kernel)) (by decide +kernel)
theorem kl_RX9_221 : sn_LV RX9 221 yX9_readLine cX9_readLine 1 none 0 := ⟨sn_lv5 km_RX9_221 kin_X9_readLine ks_X9_readLine ki_RX9 kc_X9_readLine, by decide +kernel⟩
theorem fp_RX9_103 : sn_Fp RX9 103 9 7 .int := ⟨RX9, TX9, 46, tyX9, rfl, ug_X9, by decide, kf_RX9_103, tyX9_ok, nmX9, rfl, by decide +kernel⟩
theorem kc_X9_isPerson : Cond.code yX9_isPerson cX9_isPerson 3 (some .boolean) ∈ sn_gw := sn_gwI (lb_5 (lt_16 (lt_16 (lt_16 (lt_16 (lt_16 (lt_16 (lt_16 (lt_16 (lt_4 lt_h)))))))))) gw_code
theorem km_RX9_224 : Cond.methodLink RX9 224 yX9_isPerson ∈ sn_gw := sn_gwI (lb_5 (lt_16 (lt_16 (lt_16 (lt_16 (lt_16 (lt_16 (lt_16 (lt_16 (lt_1 lt_h)))))))))) gw_methodLink
theorem kin_X9_isPerson : Cond.instanceMethod yX9_isPerson ∈ sn_gw := sn_gwI (lb_5 (lt_16 (lt_16 (lt_16 (lt_16 (lt_16 (lt_16 (lt_16 (lt_16 (lt_3 lt_h)))))))))) gw_instanceMethod
theorem ks_X9_isPerson : Cond.selects RX9 yX9_isPerson yX9_isPerson ∈ sn_gw := sn_gwS (q := (yX9_isPerson, 46)) (List.mem_of_getElem? (i := 55) (by decide +kernel)) (by decide +kernel)
theorem kl_RX9_224 : sn_LV RX9 224 yX9_isPerson cX9_isPerson 3 (some .boolean) 1 := ⟨sn_lv5 km_RX9_224 kin_X9_isPerson ks_X9_isPerson ki_RX9 kc_X9_isPerson, by decide +kernel⟩
theorem kk_RX9_232 : Cond.constantLong RX9 232 (4) ∈ sn_gw := sn_gwI (lb_5 (lt_16 (lt_16 (lt_16 (lt_16 (lt_16 (lt_16 (lt_16 (lt_16 (lt_13 lt_h)))))))))) (by decide +kernel)
theorem kc_X9_isPolicy : Cond.code yX9_isPolicy cX9_isPolicy 2 (some .boolean) ∈ sn_gw := sn_gwI (lb_5 (lt_16 (lt_16 (lt_16 (lt_16 (lt_16 (lt_16 (lt_16 (lt_16 (lt_12 lt_h)))))))))) gw_code
theorem km_RX9_228 : Cond.methodLink RX9 228 yX9_isPolicy ∈ sn_gw := sn_gwI (lb_5 (lt_16 (lt_16 (lt_16 (lt_16 (lt_16 (lt_16 (lt_16 (lt_16 (lt_9 lt_h)))))))))) gw_methodLink
theorem kin_X9_isPolicy : Cond.instanceMethod yX9_isPolicy ∈ sn_gw := sn_gwI (lb_5 (lt_16 (lt_16 (lt_16 (lt_16 (lt_16 (lt_16 (lt_16 (lt_16 (lt_11 lt_h)))))))))) gw_instanceMethod
theorem ks_X9_isPolicy : Cond.selects RX9 yX9_isPolicy yX9_isPolicy ∈ sn_gw := sn_gwS (q := (yX9_isPolicy, 46)) (List.mem_of_getElem? (i := 56) (by decide +kernel)) (by decide +kernel)
theorem kl_RX9_228 : sn_LV RX9 228 yX9_isPolicy cX9_isPolicy 2 (some .boolean) 1 := ⟨sn_lv5 km_RX9_228 kin_X9_isPolicy ks_X9_isPolicy ki_RX9 kc_X9_isPolicy, by decide +kernel⟩
theorem kc_X9_of : Cond.code yX9_of cX9_of 3 (some .int) ∈ sn_gw := sn_gwI (lb_5 (lt_16 (lt_16 (lt_16 (lt_16 (lt_16 (lt_16 (lt_16 (lt_16 (lt_16 (lt_1 lt_h))))))))))) gw_code
theorem km_RX9_234 : Cond.methodLink RX9 234 yX9_of ∈ sn_gw := sn_gwI (lb_5 (lt_16 (lt_16 (lt_16 (lt_16 (lt_16 (lt_16 (lt_16 (lt_16 (lt_14 lt_h)))))))))) gw_methodLink
theorem kin_X9_of : Cond.instanceMethod yX9_of ∈ sn_gw := sn_gwI (lb_5 (lt_16 (lt_16 (lt_16 (lt_16 (lt_16 (lt_16 (lt_16 (lt_16 (lt_16 lt_h)))))))))) gw_instanceMethod
theorem ks_X9_of : Cond.selects RX9 yX9_of yX9_of ∈ sn_gw := sn_gwS (q := (yX9_of, 46)) (List.mem_of_getElem? (i := 57) (by decide +kernel)) (by decide +kernel)
theorem kl_RX9_234 : sn_LV RX9 234 yX9_of cX9_of 3 (some .int) 2 := ⟨sn_lv5 km_RX9_234 kin_X9_of ks_X9_of ki_RX9 kc_X9_of, by decide +kernel⟩
theorem kf_RX9_34 : Cond.fieldLink RX9 34 (TX9 15).1 (TX9 15).2.1 (TX9 15).2.2.1 ∈ sn_gw := sn_gwI (lb_4 (lt_16 (lt_16 (lt_16 (lt_16 (lt_16 (lt_16 (lt_16 (lt_16 (lt_5 lt_h)))))))))) gw_fieldLink
theorem fd_RX9_34 : sn_Fd RX9 34 9 15 := ⟨RX9, TX9, 46, rfl, ug_X9, by decide, kf_RX9_34⟩
theorem kf_RX9_237 : Cond.fieldLink RX9 237 (TX9 18).1 (TX9 18).2.1 (TX9 18).2.2.1 ∈ sn_gw := sn_gwI (lb_4 (lt_16 (lt_16 (lt_16 (lt_16 (lt_16 (lt_16 (lt_16 (lt_16 (lt_8 lt_h)))))))))) gw_fieldLink
theorem fd_RX9_237 : sn_Fd RX9 237 9 18 := ⟨RX9, TX9, 46, rfl, ug_X9, by decide, kf_RX9_237⟩
theorem kf_RX9_37 : Cond.fieldLink RX9 37 (TX9 16).1 (TX9 16).2.1 (TX9 16).2.2.1 ∈ sn_gw := sn_gwI (lb_4 (lt_16 (lt_16 (lt_16 (lt_16 (lt_16 (lt_16 (lt_16 (lt_16 (lt_6 lt_h)))))))))) gw_fieldLink
theorem fd_RX9_37 : sn_Fd RX9 37 9 16 := ⟨RX9, TX9, 46, rfl, ug_X9, by decide, kf_RX9_37⟩
theorem kf_RX9_40 : Cond.fieldLink RX9 40 (TX9 17).1 (TX9 17).2.1 (TX9 17).2.2.1 ∈ sn_gw := sn_gwI (lb_4 (lt_16 (lt_16 (lt_16 (lt_16 (lt_16 (lt_16 (lt_16 (lt_16 (lt_7 lt_h)))))))))) gw_fieldLink
theorem fd_RX9_40 : sn_Fd RX9 40 9 17 := ⟨RX9, TX9, 46, rfl, ug_X9, by decide, kf_RX9_40⟩
theorem fp_RX9_237 : sn_Fp RX9 237 9 18 .int := ⟨RX9, TX9, 46, tyX9, rfl, ug_X9, by decide, kf_RX9_237, tyX9_ok, nmX9, rfl, by decide +kernel⟩
theorem kf_RX9_240 : Cond.fieldLink RX9 240 (TX9 19).1 (TX9 19).2.1 (TX9 19).2.2.1 ∈ sn_gw := sn_gwI (lb_4 (lt_16 (lt_16 (lt_16 (lt_16 (lt_16 (lt_16 (lt_16 (lt_16 (lt_9 lt_h)))))))))) gw_fieldLink
theorem fp_RX9_240 : sn_Fp RX9 240 9 19 .int := ⟨RX9, TX9, 46, tyX9, rfl, ug_X9, by decide, kf_RX9_240, tyX9_ok, nmX9, rfl, by decide +kernel⟩
theorem kf_RX9_243 : Cond.fieldLink RX9 243 (TX9 20).1 (TX9 20).2.1 (TX9 20).2.2.1 ∈ sn_gw := sn_gwI (lb_4 (lt_16 (lt_16 (lt_16 (lt_16 (lt_16 (lt_16 (lt_16 (lt_16 (lt_10 lt_h)))))))))) gw_fieldLink
theorem fp_RX9_243 : sn_Fp RX9 243 9 20 .int := ⟨RX9, TX9, 46, tyX9, rfl, ug_X9, by decide, kf_RX9_243, tyX9_ok, nmX9, rfl, by decide +kernel⟩
theorem kf_RX9_246 : Cond.fieldLink RX9 246 (TX9 21).1 (TX9 21).2.1 (TX9 21).2.2.1 ∈ sn_gw := sn_gwI (lb_4 (lt_16 (lt_16 (lt_16 (lt_16 (lt_16 (lt_16 (lt_16 (lt_16 (lt_11 lt_h)))))))))) gw_fieldLink
theorem fp_RX9_246 : sn_Fp RX9 246 9 21 .int := ⟨RX9, TX9, 46, tyX9, rfl, ug_X9, by decide, kf_RX9_246, tyX9_ok, nmX9, rfl, by decide +kernel⟩
theorem kc_X9_minutes : Cond.code yX9_minutes cX9_minutes 1 (some .int) ∈ sn_gw := sn_gwI (lb_5 (lt_16 (lt_16 (lt_16 (lt_16 (lt_16 (lt_16 (lt_16 (lt_16 (lt_16 (lt_13 lt_h))))))))))) gw_code
theorem km_RX9_249 : Cond.methodLink RX9 249 yX9_minutes ∈ sn_gw := sn_gwI (lb_5 (lt_16 (lt_16 (lt_16 (lt_16 (lt_16 (lt_16 (lt_16 (lt_16 (lt_16 (lt_10 lt_h))))))))))) gw_methodLink
theorem kin_X9_minutes : Cond.instanceMethod yX9_minutes ∈ sn_gw := sn_gwI (lb_5 (lt_16 (lt_16 (lt_16 (lt_16 (lt_16 (lt_16 (lt_16 (lt_16 (lt_16 (lt_12 lt_h))))))))))) gw_instanceMethod
theorem ks_X9_minutes : Cond.selects RX9 yX9_minutes yX9_minutes ∈ sn_gw := sn_gwS (q := (yX9_minutes, 46)) (List.mem_of_getElem? (i := 59) (by decide +kernel)) (by decide +kernel)
theorem kl_RX9_249 : sn_LV RX9 249 yX9_minutes cX9_minutes 1 (some .int) 0 := ⟨sn_lv5 km_RX9_249 kin_X9_minutes ks_X9_minutes ki_RX9 kc_X9_minutes, by decide +kernel⟩
theorem kf_RX9_251 : Cond.fieldLink RX9 251 (TX9 22).1 (TX9 22).2.1 (TX9 22).2.2.1 ∈ sn_gw := sn_gwI (lb_4 (lt_16 (lt_16 (lt_16 (lt_16 (lt_16 (lt_16 (lt_16 (lt_16 (lt_12 lt_h)))))))))) gw_fieldLink
theorem fp_RX9_251 : sn_Fp RX9 251 9 22 .int := ⟨RX9, TX9, 46, tyX9, rfl, ug_X9, by decide, kf_RX9_251, tyX9_ok, nmX9, rfl, by decide +kernel⟩
theorem fd_RX9_240 : sn_Fd RX9 240 9 19 := ⟨RX9, TX9, 46, rfl, ug_X9, by decide, kf_RX9_240⟩
theorem kc_X9_bit : Cond.code yX9_bit cX9_bit 2 (some .int) ∈ sn_gw := sn_gwI (lb_5 (lt_16 (lt_16 (lt_16 (lt_16 (lt_16 (lt_16 (lt_16 (lt_16 (lt_16 (lt_16 (lt_4 lt_h)))))))))))) gw_code
theorem km_RX9_254 : Cond.methodLink RX9 254 yX9_bit ∈ sn_gw := sn_gwI (lb_5 (lt_16 (lt_16 (lt_16 (lt_16 (lt_16 (lt_16 (lt_16 (lt_16 (lt_16 (lt_16 (lt_2 lt_h)))))))))))) gw_methodLink
theorem kst_X9_bit : Cond.static yX9_bit ∈ sn_gw := sn_gwI (lb_5 (lt_16 (lt_16 (lt_16 (lt_16 (lt_16 (lt_16 (lt_16 (lt_16 (lt_16 (lt_16 (lt_3 lt_h)))))))))))) gw_static
theorem kl_RX9_254 : sn_LS RX9 254 yX9_bit cX9_bit 2 (some .int) 2 := ⟨sn_ls4 km_RX9_254 kst_X9_bit ki_RX9 kc_X9_bit, by decide +kernel⟩
theorem kf_RX9_46 : Cond.fieldLink RX9 46 (TX9 24).1 (TX9 24).2.1 (TX9 24).2.2.1 ∈ sn_gw := sn_gwI (lb_4 (lt_16 (lt_16 (lt_16 (lt_16 (lt_16 (lt_16 (lt_16 (lt_16 (lt_14 lt_h)))))))))) gw_fieldLink
theorem fd_RX9_46 : sn_Fd RX9 46 9 24 := ⟨RX9, TX9, 46, rfl, ug_X9, by decide, kf_RX9_46⟩
theorem kf_RX9_49 : Cond.fieldLink RX9 49 (TX9 25).1 (TX9 25).2.1 (TX9 25).2.2.1 ∈ sn_gw := sn_gwI (lb_4 (lt_16 (lt_16 (lt_16 (lt_16 (lt_16 (lt_16 (lt_16 (lt_16 (lt_15 lt_h)))))))))) gw_fieldLink
theorem fd_RX9_49 : sn_Fd RX9 49 9 25 := ⟨RX9, TX9, 46, rfl, ug_X9, by decide, kf_RX9_49⟩
theorem kf_RX9_55 : Cond.fieldLink RX9 55 (TX9 27).1 (TX9 27).2.1 (TX9 27).2.2.1 ∈ sn_gw := sn_gwI (lb_4 (lt_16 (lt_16 (lt_16 (lt_16 (lt_16 (lt_16 (lt_16 (lt_16 (lt_16 (lt_1 lt_h))))))))))) gw_fieldLink
theorem fd_RX9_55 : sn_Fd RX9 55 9 27 := ⟨RX9, TX9, 46, rfl, ug_X9, by decide, kf_RX9_55⟩
theorem kf_RX9_52 : Cond.fieldLink RX9 52 (TX9 26).1 (TX9 26).2.1 (TX9 26).2.2.1 ∈ sn_gw := sn_gwI (lb_4 (lt_16 (lt_16 (lt_16 (lt_16 (lt_16 (lt_16 (lt_16 (lt_16 (lt_16 lt_h)))))))))) gw_fieldLink
theorem fd_RX9_52 : sn_Fd RX9 52 9 26 := ⟨RX9, TX9, 46, rfl, ug_X9, by decide, kf_RX9_52⟩
theorem kf_RX9_43 : Cond.fieldLink RX9 43 (TX9 23).1 (TX9 23).2.1 (TX9 23).2.2.1 ∈ sn_gw := sn_gwI (lb_4 (lt_16 (lt_16 (lt_16 (lt_16 (lt_16 (lt_16 (lt_16 (lt_16 (lt_13 lt_h)))))))))) gw_fieldLink
theorem fd_RX9_43 : sn_Fd RX9 43 9 23 := ⟨RX9, TX9, 46, rfl, ug_X9, by decide, kf_RX9_43⟩
theorem kc_X9_netsTo : Cond.code yX9_netsTo cX9_netsTo 7 (some .int) ∈ sn_gw := sn_gwI (lb_5 (lt_16 (lt_16 (lt_16 (lt_16 (lt_16 (lt_16 (lt_16 (lt_16 (lt_16 (lt_16 (lt_1 lt_h)))))))))))) gw_code
theorem km_RX9_257 : Cond.methodLink RX9 257 yX9_netsTo ∈ sn_gw := sn_gwI (lb_5 (lt_16 (lt_16 (lt_16 (lt_16 (lt_16 (lt_16 (lt_16 (lt_16 (lt_16 (lt_14 lt_h))))))))))) gw_methodLink
theorem kin_X9_netsTo : Cond.instanceMethod yX9_netsTo ∈ sn_gw := sn_gwI (lb_5 (lt_16 (lt_16 (lt_16 (lt_16 (lt_16 (lt_16 (lt_16 (lt_16 (lt_16 (lt_16 lt_h))))))))))) gw_instanceMethod
theorem ks_X9_netsTo : Cond.selects RX9 yX9_netsTo yX9_netsTo ∈ sn_gw := sn_gwS (q := (yX9_netsTo, 46)) (List.mem_of_getElem? (i := 60) (by decide +kernel)) (by decide +kernel)
theorem kl_RX9_257 : sn_LV RX9 257 yX9_netsTo cX9_netsTo 7 (some .int) 2 := ⟨sn_lv5 km_RX9_257 kin_X9_netsTo ks_X9_netsTo ki_RX9 kc_X9_netsTo, by decide +kernel⟩
theorem fd_RX9_251 : sn_Fd RX9 251 9 22 := ⟨RX9, TX9, 46, rfl, ug_X9, by decide, kf_RX9_251⟩
theorem kc_X9_goMinute : Cond.code yX9_goMinute cX9_goMinute 8 none ∈ sn_gw := sn_gwI (lb_5 (lt_16 (lt_16 (lt_16 (lt_16 (lt_16 (lt_16 (lt_16 (lt_16 (lt_16 (lt_16 (lt_16 (lt_8 lt_h))))))))))))) gw_code
theorem km_RX9_260 : Cond.methodLink RX9 260 yX9_goMinute ∈ sn_gw := sn_gwI (lb_5 (lt_16 (lt_16 (lt_16 (lt_16 (lt_16 (lt_16 (lt_16 (lt_16 (lt_16 (lt_16 (lt_16 (lt_5 lt_h))))))))))))) gw_methodLink
theorem kin_X9_goMinute : Cond.instanceMethod yX9_goMinute ∈ sn_gw := sn_gwI (lb_5 (lt_16 (lt_16 (lt_16 (lt_16 (lt_16 (lt_16 (lt_16 (lt_16 (lt_16 (lt_16 (lt_16 (lt_7 lt_h))))))))))))) gw_instanceMethod
theorem ks_X9_goMinute : Cond.selects RX9 yX9_goMinute yX9_goMinute ∈ sn_gw := sn_gwS (q := (yX9_goMinute, 46)) (List.mem_of_getElem? (i := 64) (by decide +kernel)) (by decide +kernel)
theorem kl_RX9_260 : sn_LV RX9 260 yX9_goMinute cX9_goMinute 8 none 1 := ⟨sn_lv5 km_RX9_260 kin_X9_goMinute ks_X9_goMinute ki_RX9 kc_X9_goMinute, by decide +kernel⟩
theorem kc_X9_asItIs : Cond.code yX9_asItIs cX9_asItIs 5 none ∈ sn_gw := sn_gwI (lb_5 (lt_16 (lt_16 (lt_16 (lt_16 (lt_16 (lt_16 (lt_16 (lt_16 (lt_16 (lt_9 lt_h))))))))))) gw_code
theorem km_RX9_263 : Cond.methodLink RX9 263 yX9_asItIs ∈ sn_gw := sn_gwI (lb_5 (lt_16 (lt_16 (lt_16 (lt_16 (lt_16 (lt_16 (lt_16 (lt_16 (lt_16 (lt_6 lt_h))))))))))) gw_methodLink
theorem kin_X9_asItIs : Cond.instanceMethod yX9_asItIs ∈ sn_gw := sn_gwI (lb_5 (lt_16 (lt_16 (lt_16 (lt_16 (lt_16 (lt_16 (lt_16 (lt_16 (lt_16 (lt_8 lt_h))))))))))) gw_instanceMethod
theorem ks_X9_asItIs : Cond.selects RX9 yX9_asItIs yX9_asItIs ∈ sn_gw := sn_gwS (q := (yX9_asItIs, 46)) (List.mem_of_getElem? (i := 58) (by decide +kernel)) (by decide +kernel)
theorem kl_RX9_263 : sn_LV RX9 263 yX9_asItIs cX9_asItIs 5 none 0 := ⟨sn_lv5 km_RX9_263 kin_X9_asItIs ks_X9_asItIs ki_RX9 kc_X9_asItIs, by decide +kernel⟩
theorem kc_X9_goAll : Cond.code yX9_goAll cX9_goAll 2 none ∈ sn_gw := sn_gwI (lb_5 (lt_16 (lt_16 (lt_16 (lt_16 (lt_16 (lt_16 (lt_16 (lt_16 (lt_16 (lt_16 (lt_16 (lt_4 lt_h))))))))))))) gw_code
theorem km_RX9_266 : Cond.methodLink RX9 266 yX9_goAll ∈ sn_gw := sn_gwI (lb_5 (lt_16 (lt_16 (lt_16 (lt_16 (lt_16 (lt_16 (lt_16 (lt_16 (lt_16 (lt_16 (lt_16 (lt_1 lt_h))))))))))))) gw_methodLink
theorem kin_X9_goAll : Cond.instanceMethod yX9_goAll ∈ sn_gw := sn_gwI (lb_5 (lt_16 (lt_16 (lt_16 (lt_16 (lt_16 (lt_16 (lt_16 (lt_16 (lt_16 (lt_16 (lt_16 (lt_3 lt_h))))))))))))) gw_instanceMethod
theorem ks_X9_goAll : Cond.selects RX9 yX9_goAll yX9_goAll ∈ sn_gw := sn_gwS (q := (yX9_goAll, 46)) (List.mem_of_getElem? (i := 63) (by decide +kernel)) (by decide +kernel)
theorem kl_RX9_266 : sn_LV RX9 266 yX9_goAll cX9_goAll 2 none 0 := ⟨sn_lv5 km_RX9_266 kin_X9_goAll ks_X9_goAll ki_RX9 kc_X9_goAll, by decide +kernel⟩
theorem kc_X9_isHouse : Cond.code yX9_isHouse cX9_isHouse 1 (some .boolean) ∈ sn_gw := sn_gwI (lb_5 (lt_16 (lt_16 (lt_16 (lt_16 (lt_16 (lt_16 (lt_16 (lt_16 (lt_16 (lt_16 (lt_16 (lt_12 lt_h))))))))))))) gw_code
theorem km_RX9_269 : Cond.methodLink RX9 269 yX9_isHouse ∈ sn_gw := sn_gwI (lb_5 (lt_16 (lt_16 (lt_16 (lt_16 (lt_16 (lt_16 (lt_16 (lt_16 (lt_16 (lt_16 (lt_16 (lt_9 lt_h))))))))))))) gw_methodLink
theorem kin_X9_isHouse : Cond.instanceMethod yX9_isHouse ∈ sn_gw := sn_gwI (lb_5 (lt_16 (lt_16 (lt_16 (lt_16 (lt_16 (lt_16 (lt_16 (lt_16 (lt_16 (lt_16 (lt_16 (lt_11 lt_h))))))))))))) gw_instanceMethod
theorem ks_X9_isHouse : Cond.selects RX9 yX9_isHouse yX9_isHouse ∈ sn_gw := sn_gwS (q := (yX9_isHouse, 46)) (List.mem_of_getElem? (i := 65) (by decide +kernel)) (by decide +kernel)
theorem kl_RX9_269 : sn_LV RX9 269 yX9_isHouse cX9_isHouse 1 (some .boolean) 0 := ⟨sn_lv5 km_RX9_269 kin_X9_isHouse ks_X9_isHouse ki_RX9 kc_X9_isHouse, by decide +kernel⟩
theorem kc_X9_asksHouse : Cond.code yX9_asksHouse cX9_asksHouse 1 (some .boolean) ∈ sn_gw := sn_gwI (lb_5 (lt_16 (lt_16 (lt_16 (lt_16 (lt_16 (lt_16 (lt_16 (lt_16 (lt_16 (lt_16 (lt_16 lt_h)))))))))))) gw_code
theorem km_RX9_272 : Cond.methodLink RX9 272 yX9_asksHouse ∈ sn_gw := sn_gwI (lb_5 (lt_16 (lt_16 (lt_16 (lt_16 (lt_16 (lt_16 (lt_16 (lt_16 (lt_16 (lt_16 (lt_13 lt_h)))))))))))) gw_methodLink
theorem kin_X9_asksHouse : Cond.instanceMethod yX9_asksHouse ∈ sn_gw := sn_gwI (lb_5 (lt_16 (lt_16 (lt_16 (lt_16 (lt_16 (lt_16 (lt_16 (lt_16 (lt_16 (lt_16 (lt_15 lt_h)))))))))))) gw_instanceMethod
theorem ks_X9_asksHouse : Cond.selects RX9 yX9_asksHouse yX9_asksHouse ∈ sn_gw := sn_gwS (q := (yX9_asksHouse, 46)) (List.mem_of_getElem? (i := 62) (by decide +kernel)) (by decide +kernel)
theorem kl_RX9_272 : sn_LV RX9 272 yX9_asksHouse cX9_asksHouse 1 (some .boolean) 0 := ⟨sn_lv5 km_RX9_272 kin_X9_asksHouse ks_X9_asksHouse ki_RX9 kc_X9_asksHouse, by decide +kernel⟩
theorem kc_X9_isMinute : Cond.code yX9_isMinute cX9_isMinute 3 (some .boolean) ∈ sn_gw := sn_gwI (lb_5 (lt_16 (lt_16 (lt_16 (lt_16 (lt_16 (lt_16 (lt_16 (lt_16 (lt_16 (lt_16 (lt_16 (lt_16 lt_h))))))))))))) gw_code
theorem km_RX9_275 : Cond.methodLink RX9 275 yX9_isMinute ∈ sn_gw := sn_gwI (lb_5 (lt_16 (lt_16 (lt_16 (lt_16 (lt_16 (lt_16 (lt_16 (lt_16 (lt_16 (lt_16 (lt_16 (lt_13 lt_h))))))))))))) gw_methodLink
theorem kin_X9_isMinute : Cond.instanceMethod yX9_isMinute ∈ sn_gw := sn_gwI (lb_5 (lt_16 (lt_16 (lt_16 (lt_16 (lt_16 (lt_16 (lt_16 (lt_16 (lt_16 (lt_16 (lt_16 (lt_15 lt_h))))))))))))) gw_instanceMethod
theorem ks_X9_isMinute : Cond.selects RX9 yX9_isMinute yX9_isMinute ∈ sn_gw := sn_gwS (q := (yX9_isMinute, 46)) (List.mem_of_getElem? (i := 66) (by decide +kernel)) (by decide +kernel)
theorem kl_RX9_275 : sn_LV RX9 275 yX9_isMinute cX9_isMinute 3 (some .boolean) 1 := ⟨sn_lv5 km_RX9_275 kin_X9_isMinute ks_X9_isMinute ki_RX9 kc_X9_isMinute, by decide +kernel⟩
theorem kc_X9_bits : Cond.code yX9_bits cX9_bits 3 (some .int) ∈ sn_gw := sn_gwI (lb_5 (lt_16 (lt_16 (lt_16 (lt_16 (lt_16 (lt_16 (lt_16 (lt_16 (lt_16 (lt_16 (lt_16 (lt_16 (lt_16 (lt_10 lt_h))))))))))))))) gw_code
theorem km_RX9_278 : Cond.methodLink RX9 278 yX9_bits ∈ sn_gw := sn_gwI (lb_5 (lt_16 (lt_16 (lt_16 (lt_16 (lt_16 (lt_16 (lt_16 (lt_16 (lt_16 (lt_16 (lt_16 (lt_16 (lt_16 (lt_8 lt_h))))))))))))))) gw_methodLink
theorem kst_X9_bits : Cond.static yX9_bits ∈ sn_gw := sn_gwI (lb_5 (lt_16 (lt_16 (lt_16 (lt_16 (lt_16 (lt_16 (lt_16 (lt_16 (lt_16 (lt_16 (lt_16 (lt_16 (lt_16 (lt_9 lt_h))))))))))))))) gw_static
theorem kl_RX9_278 : sn_LS RX9 278 yX9_bits cX9_bits 3 (some .int) 1 := ⟨sn_ls4 km_RX9_278 kst_X9_bits ki_RX9 kc_X9_bits, by decide +kernel⟩
theorem kc_X9_asksMinute : Cond.code yX9_asksMinute cX9_asksMinute 2 (some .boolean) ∈ sn_gw := sn_gwI (lb_5 (lt_16 (lt_16 (lt_16 (lt_16 (lt_16 (lt_16 (lt_16 (lt_16 (lt_16 (lt_16 (lt_12 lt_h)))))))))))) gw_code
theorem km_RX9_281 : Cond.methodLink RX9 281 yX9_asksMinute ∈ sn_gw := sn_gwI (lb_5 (lt_16 (lt_16 (lt_16 (lt_16 (lt_16 (lt_16 (lt_16 (lt_16 (lt_16 (lt_16 (lt_9 lt_h)))))))))))) gw_methodLink
theorem kin_X9_asksMinute : Cond.instanceMethod yX9_asksMinute ∈ sn_gw := sn_gwI (lb_5 (lt_16 (lt_16 (lt_16 (lt_16 (lt_16 (lt_16 (lt_16 (lt_16 (lt_16 (lt_16 (lt_11 lt_h)))))))))))) gw_instanceMethod
theorem ks_X9_asksMinute : Cond.selects RX9 yX9_asksMinute yX9_asksMinute ∈ sn_gw := sn_gwS (q := (yX9_asksMinute, 46)) (List.mem_of_getElem? (i := 61) (by decide +kernel)) (by decide +kernel)
theorem kl_RX9_281 : sn_LV RX9 281 yX9_asksMinute cX9_asksMinute 2 (some .boolean) 1 := ⟨sn_lv5 km_RX9_281 kin_X9_asksMinute ks_X9_asksMinute ki_RX9 kc_X9_asksMinute, by decide +kernel⟩
theorem kc_X9_asksPerson : Cond.code yX9_asksPerson cX9_asksPerson 2 (some .boolean) ∈ sn_gw := sn_gwI (lb_5 (lt_16 (lt_16 (lt_16 (lt_16 (lt_16 (lt_16 (lt_16 (lt_16 (lt_16 (lt_16 (lt_16 (lt_16 (lt_8 lt_h)))))))))))))) gw_code
theorem km_RX9_284 : Cond.methodLink RX9 284 yX9_asksPerson ∈ sn_gw := sn_gwI (lb_5 (lt_16 (lt_16 (lt_16 (lt_16 (lt_16 (lt_16 (lt_16 (lt_16 (lt_16 (lt_16 (lt_16 (lt_16 (lt_5 lt_h)))))))))))))) gw_methodLink
theorem kin_X9_asksPerson : Cond.instanceMethod yX9_asksPerson ∈ sn_gw := sn_gwI (lb_5 (lt_16 (lt_16 (lt_16 (lt_16 (lt_16 (lt_16 (lt_16 (lt_16 (lt_16 (lt_16 (lt_16 (lt_16 (lt_7 lt_h)))))))))))))) gw_instanceMethod
theorem ks_X9_asksPerson : Cond.selects RX9 yX9_asksPerson yX9_asksPerson ∈ sn_gw := sn_gwS (q := (yX9_asksPerson, 46)) (List.mem_of_getElem? (i := 67) (by decide +kernel)) (by decide +kernel)
theorem kl_RX9_284 : sn_LV RX9 284 yX9_asksPerson cX9_asksPerson 2 (some .boolean) 1 := ⟨sn_lv5 km_RX9_284 kin_X9_asksPerson ks_X9_asksPerson ki_RX9 kc_X9_asksPerson, by decide +kernel⟩
theorem kc_X9_firstOf : Cond.code yX9_firstOf cX9_firstOf 2 (some .int) ∈ sn_gw := sn_gwI (lb_5 (lt_16 (lt_16 (lt_16 (lt_16 (lt_16 (lt_16 (lt_16 (lt_16 (lt_16 (lt_16 (lt_16 (lt_16 (lt_15 lt_h)))))))))))))) gw_code
theorem km_RX9_287 : Cond.methodLink RX9 287 yX9_firstOf ∈ sn_gw := sn_gwI (lb_5 (lt_16 (lt_16 (lt_16 (lt_16 (lt_16 (lt_16 (lt_16 (lt_16 (lt_16 (lt_16 (lt_16 (lt_16 (lt_13 lt_h)))))))))))))) gw_methodLink
theorem kst_X9_firstOf : Cond.static yX9_firstOf ∈ sn_gw := sn_gwI (lb_5 (lt_16 (lt_16 (lt_16 (lt_16 (lt_16 (lt_16 (lt_16 (lt_16 (lt_16 (lt_16 (lt_16 (lt_16 (lt_14 lt_h)))))))))))))) gw_static
theorem kl_RX9_287 : sn_LS RX9 287 yX9_firstOf cX9_firstOf 2 (some .int) 1 := ⟨sn_ls4 km_RX9_287 kst_X9_firstOf ki_RX9 kc_X9_firstOf, by decide +kernel⟩
theorem kc_X9_allSneezes : Cond.code yX9_allSneezes cX9_allSneezes 3 (some .int) ∈ sn_gw := sn_gwI (lb_5 (lt_16 (lt_16 (lt_16 (lt_16 (lt_16 (lt_16 (lt_16 (lt_16 (lt_16 (lt_16 (lt_16 (lt_16 (lt_16 (lt_7 lt_h))))))))))))))) gw_code
theorem km_RX9_290 : Cond.methodLink RX9 290 yX9_allSneezes ∈ sn_gw := sn_gwI (lb_5 (lt_16 (lt_16 (lt_16 (lt_16 (lt_16 (lt_16 (lt_16 (lt_16 (lt_16 (lt_16 (lt_16 (lt_16 (lt_16 (lt_4 lt_h))))))))))))))) gw_methodLink
theorem kin_X9_allSneezes : Cond.instanceMethod yX9_allSneezes ∈ sn_gw := sn_gwI (lb_5 (lt_16 (lt_16 (lt_16 (lt_16 (lt_16 (lt_16 (lt_16 (lt_16 (lt_16 (lt_16 (lt_16 (lt_16 (lt_16 (lt_6 lt_h))))))))))))))) gw_instanceMethod
theorem ks_X9_allSneezes : Cond.selects RX9 yX9_allSneezes yX9_allSneezes ∈ sn_gw := sn_gwS (q := (yX9_allSneezes, 46)) (List.mem_of_getElem? (i := 68) (by decide +kernel)) (by decide +kernel)
theorem kl_RX9_290 : sn_LV RX9 290 yX9_allSneezes cX9_allSneezes 3 (some .int) 0 := ⟨sn_lv5 km_RX9_290 kin_X9_allSneezes ks_X9_allSneezes ki_RX9 kc_X9_allSneezes, by decide +kernel⟩
theorem km_RX9_293 : Cond.methodLink RX9 293 Lib.Math.max.name ∈ sn_gw := sn_gwI (lb_5 (lt_16 (lt_16 (lt_16 (lt_16 (lt_16 (lt_16 (lt_16 (lt_16 (lt_16 (lt_16 (lt_16 (lt_16 (lt_16 (lt_16 (lt_7 lt_h)))))))))))))))) gw_methodLink
theorem kst_maxI : Cond.static Lib.Math.max.name ∈ sn_gw := sn_gwI (lb_2 (lt_16 (lt_16 (lt_16 (lt_16 (lt_16 (lt_16 (lt_16 (lt_16 (lt_5 lt_h)))))))))) gw_static
theorem kc_maxI : Cond.code Lib.Math.max.name Lib.Math.max.code 2 (some .int) ∈ sn_gw := sn_gwI (lb_2 (lt_16 (lt_16 (lt_16 (lt_16 (lt_16 (lt_16 (lt_16 (lt_16 (lt_6 lt_h)))))))))) gw_code
theorem kk_RX9_296 : Cond.constant RX9 296 (1000000000) ∈ sn_gw := sn_gwI (lb_6 (lt_16 lt_h)) (by decide +kernel)
theorem kc_X9_firstFrom : Cond.code yX9_firstFrom cX9_firstFrom 3 (some .int) ∈ sn_gw := sn_gwI (lb_6 (lt_16 (lt_3 lt_h))) gw_code
theorem km_RX9_297 : Cond.methodLink RX9 297 yX9_firstFrom ∈ sn_gw := sn_gwI (lb_6 (lt_16 (lt_1 lt_h))) gw_methodLink
theorem kst_X9_firstFrom : Cond.static yX9_firstFrom ∈ sn_gw := sn_gwI (lb_6 (lt_16 (lt_2 lt_h))) gw_static
theorem kl_RX9_297 : sn_LS RX9 297 yX9_firstFrom cX9_firstFrom 3 (some .int) 2 := ⟨sn_ls4 km_RX9_297 kst_X9_firstFrom ki_RX9 kc_X9_firstFrom, by decide +kernel⟩
theorem kf_RX9_58 : Cond.fieldLink RX9 58 (TX9 28).1 (TX9 28).2.1 (TX9 28).2.2.1 ∈ sn_gw := sn_gwI (lb_4 (lt_16 (lt_16 (lt_16 (lt_16 (lt_16 (lt_16 (lt_16 (lt_16 (lt_16 (lt_2 lt_h))))))))))) gw_fieldLink
theorem fd_RX9_58 : sn_Fd RX9 58 9 28 := ⟨RX9, TX9, 46, rfl, ug_X9, by decide, kf_RX9_58⟩
theorem kc_X9_quietBy : Cond.code yX9_quietBy cX9_quietBy 10 (some .int) ∈ sn_gw := sn_gwI (lb_6 (lt_16 (lt_16 (lt_7 lt_h)))) gw_code
theorem km_RX9_300 : Cond.methodLink RX9 300 yX9_quietBy ∈ sn_gw := sn_gwI (lb_6 (lt_16 (lt_16 (lt_4 lt_h)))) gw_methodLink
theorem kin_X9_quietBy : Cond.instanceMethod yX9_quietBy ∈ sn_gw := sn_gwI (lb_6 (lt_16 (lt_16 (lt_6 lt_h)))) gw_instanceMethod
theorem ks_X9_quietBy : Cond.selects RX9 yX9_quietBy yX9_quietBy ∈ sn_gw := sn_gwS (q := (yX9_quietBy, 46)) (List.mem_of_getElem? (i := 69) (by decide +kernel)) (by decide +kernel)
theorem kl_RX9_300 : sn_LV RX9 300 yX9_quietBy cX9_quietBy 10 (some .int) 4 := ⟨sn_lv5 km_RX9_300 kin_X9_quietBy ks_X9_quietBy ki_RX9 kc_X9_quietBy, by decide +kernel⟩
theorem fd_RX9_243 : sn_Fd RX9 243 9 20 := ⟨RX9, TX9, 46, rfl, ug_X9, by decide, kf_RX9_243⟩
theorem kf_RX9_61 : Cond.fieldLink RX9 61 (TX9 29).1 (TX9 29).2.1 (TX9 29).2.2.1 ∈ sn_gw := sn_gwI (lb_4 (lt_16 (lt_16 (lt_16 (lt_16 (lt_16 (lt_16 (lt_16 (lt_16 (lt_16 (lt_3 lt_h))))))))))) gw_fieldLink
theorem fd_RX9_61 : sn_Fd RX9 61 9 29 := ⟨RX9, TX9, 46, rfl, ug_X9, by decide, kf_RX9_61⟩
theorem kc_X9_windowOf : Cond.code yX9_windowOf cX9_windowOf 4 (some .int) ∈ sn_gw := sn_gwI (lb_6 (lt_16 (lt_16 (lt_16 (lt_16 (lt_3 lt_h)))))) gw_code
theorem km_RX9_304 : Cond.methodLink RX9 304 yX9_windowOf ∈ sn_gw := sn_gwI (lb_6 (lt_16 (lt_16 (lt_16 (lt_16 lt_h))))) gw_methodLink
theorem kin_X9_windowOf : Cond.instanceMethod yX9_windowOf ∈ sn_gw := sn_gwI (lb_6 (lt_16 (lt_16 (lt_16 (lt_16 (lt_2 lt_h)))))) gw_instanceMethod
theorem ks_X9_windowOf : Cond.selects RX9 yX9_windowOf yX9_windowOf ∈ sn_gw := sn_gwS (q := (yX9_windowOf, 46)) (List.mem_of_getElem? (i := 73) (by decide +kernel)) (by decide +kernel)
theorem kl_RX9_304 : sn_LV RX9 304 yX9_windowOf cX9_windowOf 4 (some .int) 1 := ⟨sn_lv5 km_RX9_304 kin_X9_windowOf ks_X9_windowOf ki_RX9 kc_X9_windowOf, by decide +kernel⟩
theorem kc_X9_ahead : Cond.code yX9_ahead cX9_ahead 2 (some .int) ∈ sn_gw := sn_gwI (lb_6 (lt_16 (lt_16 (lt_16 (lt_16 (lt_7 lt_h)))))) gw_code
theorem km_RX9_310 : Cond.methodLink RX9 310 yX9_ahead ∈ sn_gw := sn_gwI (lb_6 (lt_16 (lt_16 (lt_16 (lt_16 (lt_4 lt_h)))))) gw_methodLink
theorem kin_X9_ahead : Cond.instanceMethod yX9_ahead ∈ sn_gw := sn_gwI (lb_6 (lt_16 (lt_16 (lt_16 (lt_16 (lt_6 lt_h)))))) gw_instanceMethod
theorem ks_X9_ahead : Cond.selects RX9 yX9_ahead yX9_ahead ∈ sn_gw := sn_gwS (q := (yX9_ahead, 46)) (List.mem_of_getElem? (i := 74) (by decide +kernel)) (by decide +kernel)
theorem kl_RX9_310 : sn_LV RX9 310 yX9_ahead cX9_ahead 2 (some .int) 1 := ⟨sn_lv5 km_RX9_310 kin_X9_ahead ks_X9_ahead ki_RX9 kc_X9_ahead, by decide +kernel⟩
theorem kf_RX9_307 : Cond.fieldLink RX9 307 (TX9 30).1 (TX9 30).2.1 (TX9 30).2.2.1 ∈ sn_gw := sn_gwI (lb_4 (lt_16 (lt_16 (lt_16 (lt_16 (lt_16 (lt_16 (lt_16 (lt_16 (lt_16 (lt_4 lt_h))))))))))) gw_fieldLink
theorem fp_RX9_307 : sn_Fp RX9 307 9 30 .int := ⟨RX9, TX9, 46, tyX9, rfl, ug_X9, by decide, kf_RX9_307, tyX9_ok, nmX9, rfl, by decide +kernel⟩
theorem kc_X9_claimOf : Cond.code yX9_claimOf cX9_claimOf 11 (some .int) ∈ sn_gw := sn_gwI (lb_6 (lt_16 (lt_16 (lt_16 (lt_15 lt_h))))) gw_code
theorem km_RX9_313 : Cond.methodLink RX9 313 yX9_claimOf ∈ sn_gw := sn_gwI (lb_6 (lt_16 (lt_16 (lt_16 (lt_12 lt_h))))) gw_methodLink
theorem kin_X9_claimOf : Cond.instanceMethod yX9_claimOf ∈ sn_gw := sn_gwI (lb_6 (lt_16 (lt_16 (lt_16 (lt_14 lt_h))))) gw_instanceMethod
theorem ks_X9_claimOf : Cond.selects RX9 yX9_claimOf yX9_claimOf ∈ sn_gw := sn_gwS (q := (yX9_claimOf, 46)) (List.mem_of_getElem? (i := 72) (by decide +kernel)) (by decide +kernel)
theorem kl_RX9_313 : sn_LV RX9 313 yX9_claimOf cX9_claimOf 11 (some .int) 3 := ⟨sn_lv5 km_RX9_313 kin_X9_claimOf ks_X9_claimOf ki_RX9 kc_X9_claimOf, by decide +kernel⟩
theorem fd_RX9_246 : sn_Fd RX9 246 9 21 := ⟨RX9, TX9, 46, rfl, ug_X9, by decide, kf_RX9_246⟩
theorem kc_X9_moneyAt : Cond.code yX9_moneyAt cX9_moneyAt 4 (some .int) ∈ sn_gw := sn_gwI (lb_6 (lt_16 (lt_16 (lt_16 (lt_16 (lt_16 (lt_12 lt_h))))))) gw_code
theorem km_RX9_320 : Cond.methodLink RX9 320 yX9_moneyAt ∈ sn_gw := sn_gwI (lb_6 (lt_16 (lt_16 (lt_16 (lt_16 (lt_16 (lt_9 lt_h))))))) gw_methodLink
theorem kin_X9_moneyAt : Cond.instanceMethod yX9_moneyAt ∈ sn_gw := sn_gwI (lb_6 (lt_16 (lt_16 (lt_16 (lt_16 (lt_16 (lt_11 lt_h))))))) gw_instanceMethod
theorem ks_X9_moneyAt : Cond.selects RX9 yX9_moneyAt yX9_moneyAt ∈ sn_gw := sn_gwS (q := (yX9_moneyAt, 46)) (List.mem_of_getElem? (i := 76) (by decide +kernel)) (by decide +kernel)
theorem kl_RX9_320 : sn_LV RX9 320 yX9_moneyAt cX9_moneyAt 4 (some .int) 1 := ⟨sn_lv5 km_RX9_320 kin_X9_moneyAt ks_X9_moneyAt ki_RX9 kc_X9_moneyAt, by decide +kernel⟩
theorem kc_X9_layPaid : Cond.code yX9_layPaid cX9_layPaid 2 none ∈ sn_gw := sn_gwI (lb_6 (lt_16 (lt_16 (lt_16 (lt_16 (lt_16 (lt_8 lt_h))))))) gw_code
theorem km_RX9_317 : Cond.methodLink RX9 317 yX9_layPaid ∈ sn_gw := sn_gwI (lb_6 (lt_16 (lt_16 (lt_16 (lt_16 (lt_16 (lt_5 lt_h))))))) gw_methodLink
theorem kin_X9_layPaid : Cond.instanceMethod yX9_layPaid ∈ sn_gw := sn_gwI (lb_6 (lt_16 (lt_16 (lt_16 (lt_16 (lt_16 (lt_7 lt_h))))))) gw_instanceMethod
theorem ks_X9_layPaid : Cond.selects RX9 yX9_layPaid yX9_layPaid ∈ sn_gw := sn_gwS (q := (yX9_layPaid, 46)) (List.mem_of_getElem? (i := 75) (by decide +kernel)) (by decide +kernel)
theorem kl_RX9_317 : sn_LV RX9 317 yX9_layPaid cX9_layPaid 2 none 0 := ⟨sn_lv5 km_RX9_317 kin_X9_layPaid ks_X9_layPaid ki_RX9 kc_X9_layPaid, by decide +kernel⟩
theorem kc_X9_asksPolicy : Cond.code yX9_asksPolicy cX9_asksPolicy 2 (some .boolean) ∈ sn_gw := sn_gwI (lb_6 (lt_16 (lt_16 (lt_16 (lt_7 lt_h))))) gw_code
theorem km_RX9_323 : Cond.methodLink RX9 323 yX9_asksPolicy ∈ sn_gw := sn_gwI (lb_6 (lt_16 (lt_16 (lt_16 (lt_4 lt_h))))) gw_methodLink
theorem kin_X9_asksPolicy : Cond.instanceMethod yX9_asksPolicy ∈ sn_gw := sn_gwI (lb_6 (lt_16 (lt_16 (lt_16 (lt_6 lt_h))))) gw_instanceMethod
theorem ks_X9_asksPolicy : Cond.selects RX9 yX9_asksPolicy yX9_asksPolicy ∈ sn_gw := sn_gwS (q := (yX9_asksPolicy, 46)) (List.mem_of_getElem? (i := 70) (by decide +kernel)) (by decide +kernel)
theorem kl_RX9_323 : sn_LV RX9 323 yX9_asksPolicy cX9_asksPolicy 2 (some .boolean) 1 := ⟨sn_lv5 km_RX9_323 kin_X9_asksPolicy ks_X9_asksPolicy ki_RX9 kc_X9_asksPolicy, by decide +kernel⟩
theorem kc_X9_claimOf_ : Cond.code yX9_claimOf_ cX9_claimOf_ 2 (some .int) ∈ sn_gw := sn_gwI (lb_6 (lt_16 (lt_16 (lt_16 (lt_11 lt_h))))) gw_code
theorem km_RX9_326 : Cond.methodLink RX9 326 yX9_claimOf_ ∈ sn_gw := sn_gwI (lb_6 (lt_16 (lt_16 (lt_16 (lt_8 lt_h))))) gw_methodLink
theorem kin_X9_claimOf_ : Cond.instanceMethod yX9_claimOf_ ∈ sn_gw := sn_gwI (lb_6 (lt_16 (lt_16 (lt_16 (lt_10 lt_h))))) gw_instanceMethod
theorem ks_X9_claimOf_ : Cond.selects RX9 yX9_claimOf_ yX9_claimOf_ ∈ sn_gw := sn_gwS (q := (yX9_claimOf_, 46)) (List.mem_of_getElem? (i := 71) (by decide +kernel)) (by decide +kernel)
theorem kl_RX9_326 : sn_LV RX9 326 yX9_claimOf_ cX9_claimOf_ 2 (some .int) 1 := ⟨sn_lv5 km_RX9_326 kin_X9_claimOf_ ks_X9_claimOf_ ki_RX9 kc_X9_claimOf_, by decide +kernel⟩
theorem fd_RX9_307 : sn_Fd RX9 307 9 30 := ⟨RX9, TX9, 46, rfl, ug_X9, by decide, kf_RX9_307⟩
theorem kk_RX9_328 : Cond.constant RX9 328 (-100000) ∈ sn_gw := sn_gwI (lb_6 (lt_16 (lt_16 (lt_16 (lt_16 (lt_16 (lt_4 lt_h))))))) (by decide +kernel)
theorem kc_X9_ruinOf : Cond.code yX9_ruinOf cX9_ruinOf 2 (some .int) ∈ sn_gw := sn_gwI (lb_6 (lt_16 (lt_16 (lt_16 (lt_16 (lt_16 (lt_16 (lt_4 lt_h)))))))) gw_code
theorem km_RX9_329 : Cond.methodLink RX9 329 yX9_ruinOf ∈ sn_gw := sn_gwI (lb_6 (lt_16 (lt_16 (lt_16 (lt_16 (lt_16 (lt_16 (lt_1 lt_h)))))))) gw_methodLink
theorem kin_X9_ruinOf : Cond.instanceMethod yX9_ruinOf ∈ sn_gw := sn_gwI (lb_6 (lt_16 (lt_16 (lt_16 (lt_16 (lt_16 (lt_16 (lt_3 lt_h)))))))) gw_instanceMethod
theorem ks_X9_ruinOf : Cond.selects RX9 yX9_ruinOf yX9_ruinOf ∈ sn_gw := sn_gwS (q := (yX9_ruinOf, 46)) (List.mem_of_getElem? (i := 77) (by decide +kernel)) (by decide +kernel)
theorem kl_RX9_329 : sn_LV RX9 329 yX9_ruinOf cX9_ruinOf 2 (some .int) 0 := ⟨sn_lv5 km_RX9_329 kin_X9_ruinOf ks_X9_ruinOf ki_RX9 kc_X9_ruinOf, by decide +kernel⟩
theorem kc_X9_coveredOf : Cond.code yX9_coveredOf cX9_coveredOf 4 (some .int) ∈ sn_gw := sn_gwI (lb_6 (lt_16 (lt_16 (lt_16 (lt_16 (lt_16 (lt_16 (lt_12 lt_h)))))))) gw_code
theorem km_RX9_332 : Cond.methodLink RX9 332 yX9_coveredOf ∈ sn_gw := sn_gwI (lb_6 (lt_16 (lt_16 (lt_16 (lt_16 (lt_16 (lt_16 (lt_9 lt_h)))))))) gw_methodLink
theorem kin_X9_coveredOf : Cond.instanceMethod yX9_coveredOf ∈ sn_gw := sn_gwI (lb_6 (lt_16 (lt_16 (lt_16 (lt_16 (lt_16 (lt_16 (lt_11 lt_h)))))))) gw_instanceMethod
theorem ks_X9_coveredOf : Cond.selects RX9 yX9_coveredOf yX9_coveredOf ∈ sn_gw := sn_gwS (q := (yX9_coveredOf, 46)) (List.mem_of_getElem? (i := 78) (by decide +kernel)) (by decide +kernel)
theorem kl_RX9_332 : sn_LV RX9 332 yX9_coveredOf cX9_coveredOf 4 (some .int) 1 := ⟨sn_lv5 km_RX9_332 kin_X9_coveredOf ks_X9_coveredOf ki_RX9 kc_X9_coveredOf, by decide +kernel⟩
theorem kc_X9_isLaw : Cond.code yX9_isLaw cX9_isLaw 1 (some .boolean) ∈ sn_gw := sn_gwI (lb_6 (lt_16 (lt_16 (lt_16 (lt_16 (lt_16 (lt_16 (lt_16 (lt_16 (lt_11 lt_h)))))))))) gw_code
theorem km_RX9_335 : Cond.methodLink RX9 335 yX9_isLaw ∈ sn_gw := sn_gwI (lb_6 (lt_16 (lt_16 (lt_16 (lt_16 (lt_16 (lt_16 (lt_16 (lt_16 (lt_9 lt_h)))))))))) gw_methodLink
theorem kst_X9_isLaw : Cond.static yX9_isLaw ∈ sn_gw := sn_gwI (lb_6 (lt_16 (lt_16 (lt_16 (lt_16 (lt_16 (lt_16 (lt_16 (lt_16 (lt_10 lt_h)))))))))) gw_static
theorem kl_RX9_335 : sn_LS RX9 335 yX9_isLaw cX9_isLaw 1 (some .boolean) 1 := ⟨sn_ls4 km_RX9_335 kst_X9_isLaw ki_RX9 kc_X9_isLaw, by decide +kernel⟩
theorem kc_X9_byLaw : Cond.code yX9_byLaw cX9_byLaw 2 (some .int) ∈ sn_gw := sn_gwI (lb_6 (lt_16 (lt_16 (lt_16 (lt_16 (lt_16 (lt_16 (lt_16 (lt_16 (lt_16 lt_h)))))))))) gw_code
theorem km_RX9_338 : Cond.methodLink RX9 338 yX9_byLaw ∈ sn_gw := sn_gwI (lb_6 (lt_16 (lt_16 (lt_16 (lt_16 (lt_16 (lt_16 (lt_16 (lt_16 (lt_13 lt_h)))))))))) gw_methodLink
theorem kin_X9_byLaw : Cond.instanceMethod yX9_byLaw ∈ sn_gw := sn_gwI (lb_6 (lt_16 (lt_16 (lt_16 (lt_16 (lt_16 (lt_16 (lt_16 (lt_16 (lt_15 lt_h)))))))))) gw_instanceMethod
theorem ks_X9_byLaw : Cond.selects RX9 yX9_byLaw yX9_byLaw ∈ sn_gw := sn_gwS (q := (yX9_byLaw, 46)) (List.mem_of_getElem? (i := 79) (by decide +kernel)) (by decide +kernel)
theorem kl_RX9_338 : sn_LV RX9 338 yX9_byLaw cX9_byLaw 2 (some .int) 1 := ⟨sn_lv5 km_RX9_338 kin_X9_byLaw ks_X9_byLaw ki_RX9 kc_X9_byLaw, by decide +kernel⟩
theorem kf_RX9_341 : Cond.fieldLink RX9 341 (TX9 31).1 (TX9 31).2.1 (TX9 31).2.2.1 ∈ sn_gw := sn_gwI (lb_4 (lt_16 (lt_16 (lt_16 (lt_16 (lt_16 (lt_16 (lt_16 (lt_16 (lt_16 (lt_5 lt_h))))))))))) gw_fieldLink
theorem fd_RX9_341 : sn_Fd RX9 341 9 31 := ⟨RX9, TX9, 46, rfl, ug_X9, by decide, kf_RX9_341⟩
theorem fp_RX9_341 : sn_Fp RX9 341 9 31 .int := ⟨RX9, TX9, 46, tyX9, rfl, ug_X9, by decide, kf_RX9_341, tyX9_ok, nmX9, rfl, by decide +kernel⟩
theorem kc_X9_takesBy : Cond.code yX9_takesBy cX9_takesBy 7 (some .int) ∈ sn_gw := sn_gwI (lb_6 (lt_16 (lt_16 (lt_16 (lt_16 (lt_16 (lt_16 (lt_16 (lt_16 (lt_16 (lt_12 lt_h))))))))))) gw_code
theorem km_RX9_344 : Cond.methodLink RX9 344 yX9_takesBy ∈ sn_gw := sn_gwI (lb_6 (lt_16 (lt_16 (lt_16 (lt_16 (lt_16 (lt_16 (lt_16 (lt_16 (lt_16 (lt_9 lt_h))))))))))) gw_methodLink
theorem kin_X9_takesBy : Cond.instanceMethod yX9_takesBy ∈ sn_gw := sn_gwI (lb_6 (lt_16 (lt_16 (lt_16 (lt_16 (lt_16 (lt_16 (lt_16 (lt_16 (lt_16 (lt_11 lt_h))))))))))) gw_instanceMethod
theorem ks_X9_takesBy : Cond.selects RX9 yX9_takesBy yX9_takesBy ∈ sn_gw := sn_gwS (q := (yX9_takesBy, 46)) (List.mem_of_getElem? (i := 80) (by decide +kernel)) (by decide +kernel)
theorem kl_RX9_344 : sn_LV RX9 344 yX9_takesBy cX9_takesBy 7 (some .int) 3 := ⟨sn_lv5 km_RX9_344 kin_X9_takesBy ks_X9_takesBy ki_RX9 kc_X9_takesBy, by decide +kernel⟩
theorem kc_X9_isTaken : Cond.code yX9_isTaken cX9_isTaken 4 (some .boolean) ∈ sn_gw := sn_gwI (lb_6 (lt_16 (lt_16 (lt_16 (lt_16 (lt_16 (lt_16 (lt_16 (lt_16 (lt_16 (lt_16 (lt_8 lt_h)))))))))))) gw_code
theorem km_RX9_348 : Cond.methodLink RX9 348 yX9_isTaken ∈ sn_gw := sn_gwI (lb_6 (lt_16 (lt_16 (lt_16 (lt_16 (lt_16 (lt_16 (lt_16 (lt_16 (lt_16 (lt_16 (lt_5 lt_h)))))))))))) gw_methodLink
theorem kin_X9_isTaken : Cond.instanceMethod yX9_isTaken ∈ sn_gw := sn_gwI (lb_6 (lt_16 (lt_16 (lt_16 (lt_16 (lt_16 (lt_16 (lt_16 (lt_16 (lt_16 (lt_16 (lt_7 lt_h)))))))))))) gw_instanceMethod
theorem ks_X9_isTaken : Cond.selects RX9 yX9_isTaken yX9_isTaken ∈ sn_gw := sn_gwS (q := (yX9_isTaken, 46)) (List.mem_of_getElem? (i := 81) (by decide +kernel)) (by decide +kernel)
theorem kl_RX9_348 : sn_LV RX9 348 yX9_isTaken cX9_isTaken 4 (some .boolean) 2 := ⟨sn_lv5 km_RX9_348 kin_X9_isTaken ks_X9_isTaken ki_RX9 kc_X9_isTaken, by decide +kernel⟩
theorem kf_RX9_64 : Cond.fieldLink RX9 64 (TX9 32).1 (TX9 32).2.1 (TX9 32).2.2.1 ∈ sn_gw := sn_gwI (lb_4 (lt_16 (lt_16 (lt_16 (lt_16 (lt_16 (lt_16 (lt_16 (lt_16 (lt_16 (lt_6 lt_h))))))))))) gw_fieldLink
theorem fd_RX9_64 : sn_Fd RX9 64 9 32 := ⟨RX9, TX9, 46, rfl, ug_X9, by decide, kf_RX9_64⟩
theorem kf_RX9_67 : Cond.fieldLink RX9 67 (TX9 33).1 (TX9 33).2.1 (TX9 33).2.2.1 ∈ sn_gw := sn_gwI (lb_4 (lt_16 (lt_16 (lt_16 (lt_16 (lt_16 (lt_16 (lt_16 (lt_16 (lt_16 (lt_7 lt_h))))))))))) gw_fieldLink
theorem fd_RX9_67 : sn_Fd RX9 67 9 33 := ⟨RX9, TX9, 46, rfl, ug_X9, by decide, kf_RX9_67⟩
theorem kc_X9_tickleSince : Cond.code yX9_tickleSince cX9_tickleSince 6 (some .int) ∈ sn_gw := sn_gwI (lb_6 (lt_16 (lt_16 (lt_16 (lt_16 (lt_16 (lt_16 (lt_16 (lt_16 (lt_16 (lt_16 (lt_16 (lt_8 lt_h))))))))))))) gw_code
theorem km_RX9_352 : Cond.methodLink RX9 352 yX9_tickleSince ∈ sn_gw := sn_gwI (lb_6 (lt_16 (lt_16 (lt_16 (lt_16 (lt_16 (lt_16 (lt_16 (lt_16 (lt_16 (lt_16 (lt_16 (lt_5 lt_h))))))))))))) gw_methodLink
theorem kin_X9_tickleSince : Cond.instanceMethod yX9_tickleSince ∈ sn_gw := sn_gwI (lb_6 (lt_16 (lt_16 (lt_16 (lt_16 (lt_16 (lt_16 (lt_16 (lt_16 (lt_16 (lt_16 (lt_16 (lt_7 lt_h))))))))))))) gw_instanceMethod
theorem ks_X9_tickleSince : Cond.selects RX9 yX9_tickleSince yX9_tickleSince ∈ sn_gw := sn_gwS (q := (yX9_tickleSince, 46)) (List.mem_of_getElem? (i := 84) (by decide +kernel)) (by decide +kernel)
theorem kl_RX9_352 : sn_LV RX9 352 yX9_tickleSince cX9_tickleSince 6 (some .int) 3 := ⟨sn_lv5 km_RX9_352 kin_X9_tickleSince ks_X9_tickleSince ki_RX9 kc_X9_tickleSince, by decide +kernel⟩
theorem kc_X9_layHold : Cond.code yX9_layHold cX9_layHold 9 none ∈ sn_gw := sn_gwI (lb_6 (lt_16 (lt_16 (lt_16 (lt_16 (lt_16 (lt_16 (lt_16 (lt_16 (lt_16 (lt_16 (lt_16 (lt_4 lt_h))))))))))))) gw_code
theorem km_RX9_355 : Cond.methodLink RX9 355 yX9_layHold ∈ sn_gw := sn_gwI (lb_6 (lt_16 (lt_16 (lt_16 (lt_16 (lt_16 (lt_16 (lt_16 (lt_16 (lt_16 (lt_16 (lt_16 (lt_1 lt_h))))))))))))) gw_methodLink
theorem kin_X9_layHold : Cond.instanceMethod yX9_layHold ∈ sn_gw := sn_gwI (lb_6 (lt_16 (lt_16 (lt_16 (lt_16 (lt_16 (lt_16 (lt_16 (lt_16 (lt_16 (lt_16 (lt_16 (lt_3 lt_h))))))))))))) gw_instanceMethod
theorem ks_X9_layHold : Cond.selects RX9 yX9_layHold yX9_layHold ∈ sn_gw := sn_gwS (q := (yX9_layHold, 46)) (List.mem_of_getElem? (i := 83) (by decide +kernel)) (by decide +kernel)
theorem kl_RX9_355 : sn_LV RX9 355 yX9_layHold cX9_layHold 9 none 4 := ⟨sn_lv5 km_RX9_355 kin_X9_layHold ks_X9_layHold ki_RX9 kc_X9_layHold, by decide +kernel⟩
theorem kc_X9_layHolds : Cond.code yX9_layHolds cX9_layHolds 4 (some .boolean) ∈ sn_gw := sn_gwI (lb_6 (lt_16 (lt_16 (lt_16 (lt_16 (lt_16 (lt_16 (lt_16 (lt_16 (lt_16 (lt_16 (lt_16 lt_h)))))))))))) gw_code
theorem km_RX9_359 : Cond.methodLink RX9 359 yX9_layHolds ∈ sn_gw := sn_gwI (lb_6 (lt_16 (lt_16 (lt_16 (lt_16 (lt_16 (lt_16 (lt_16 (lt_16 (lt_16 (lt_16 (lt_13 lt_h)))))))))))) gw_methodLink
theorem kin_X9_layHolds : Cond.instanceMethod yX9_layHolds ∈ sn_gw := sn_gwI (lb_6 (lt_16 (lt_16 (lt_16 (lt_16 (lt_16 (lt_16 (lt_16 (lt_16 (lt_16 (lt_16 (lt_15 lt_h)))))))))))) gw_instanceMethod
theorem ks_X9_layHolds : Cond.selects RX9 yX9_layHolds yX9_layHolds ∈ sn_gw := sn_gwS (q := (yX9_layHolds, 46)) (List.mem_of_getElem? (i := 82) (by decide +kernel)) (by decide +kernel)
theorem kl_RX9_359 : sn_LV RX9 359 yX9_layHolds cX9_layHolds 4 (some .boolean) 1 := ⟨sn_lv5 km_RX9_359 kin_X9_layHolds ks_X9_layHolds ki_RX9 kc_X9_layHolds, by decide +kernel⟩
theorem kc_X9_fraudsOf : Cond.code yX9_fraudsOf cX9_fraudsOf 7 (some .int) ∈ sn_gw := sn_gwI (lb_6 (lt_16 (lt_16 (lt_16 (lt_16 (lt_16 (lt_16 (lt_16 (lt_16 (lt_16 (lt_16 (lt_16 (lt_16 (lt_4 lt_h)))))))))))))) gw_code
theorem km_RX9_362 : Cond.methodLink RX9 362 yX9_fraudsOf ∈ sn_gw := sn_gwI (lb_6 (lt_16 (lt_16 (lt_16 (lt_16 (lt_16 (lt_16 (lt_16 (lt_16 (lt_16 (lt_16 (lt_16 (lt_16 (lt_1 lt_h)))))))))))))) gw_methodLink
theorem kin_X9_fraudsOf : Cond.instanceMethod yX9_fraudsOf ∈ sn_gw := sn_gwI (lb_6 (lt_16 (lt_16 (lt_16 (lt_16 (lt_16 (lt_16 (lt_16 (lt_16 (lt_16 (lt_16 (lt_16 (lt_16 (lt_3 lt_h)))))))))))))) gw_instanceMethod
theorem ks_X9_fraudsOf : Cond.selects RX9 yX9_fraudsOf yX9_fraudsOf ∈ sn_gw := sn_gwS (q := (yX9_fraudsOf, 46)) (List.mem_of_getElem? (i := 85) (by decide +kernel)) (by decide +kernel)
theorem kl_RX9_362 : sn_LV RX9 362 yX9_fraudsOf cX9_fraudsOf 7 (some .int) 1 := ⟨sn_lv5 km_RX9_362 kin_X9_fraudsOf ks_X9_fraudsOf ki_RX9 kc_X9_fraudsOf, by decide +kernel⟩
theorem kf_RX9_82 : Cond.fieldLink RX9 82 (TX9 44).1 (TX9 44).2.1 (TX9 44).2.2.1 ∈ sn_gw := sn_gwI (lb_4 (lt_16 (lt_16 (lt_16 (lt_16 (lt_16 (lt_16 (lt_16 (lt_16 (lt_16 (lt_16 (lt_2 lt_h)))))))))))) gw_fieldLink
theorem fd_RX9_82 : sn_Fd RX9 82 9 44 := ⟨RX9, TX9, 46, rfl, ug_X9, by decide, kf_RX9_82⟩
theorem kf_RX9_76 : Cond.fieldLink RX9 76 (TX9 42).1 (TX9 42).2.1 (TX9 42).2.2.1 ∈ sn_gw := sn_gwI (lb_4 (lt_16 (lt_16 (lt_16 (lt_16 (lt_16 (lt_16 (lt_16 (lt_16 (lt_16 (lt_16 lt_h))))))))))) gw_fieldLink
theorem fd_RX9_76 : sn_Fd RX9 76 9 42 := ⟨RX9, TX9, 46, rfl, ug_X9, by decide, kf_RX9_76⟩
theorem kf_RX9_70 : Cond.fieldLink RX9 70 (TX9 34).1 (TX9 34).2.1 (TX9 34).2.2.1 ∈ sn_gw := sn_gwI (lb_4 (lt_16 (lt_16 (lt_16 (lt_16 (lt_16 (lt_16 (lt_16 (lt_16 (lt_16 (lt_8 lt_h))))))))))) gw_fieldLink
theorem fd_RX9_70 : sn_Fd RX9 70 9 34 := ⟨RX9, TX9, 46, rfl, ug_X9, by decide, kf_RX9_70⟩
theorem kf_RX9_372 : Cond.fieldLink RX9 372 (TX9 36).1 (TX9 36).2.1 (TX9 36).2.2.1 ∈ sn_gw := sn_gwI (lb_4 (lt_16 (lt_16 (lt_16 (lt_16 (lt_16 (lt_16 (lt_16 (lt_16 (lt_16 (lt_10 lt_h))))))))))) gw_fieldLink
theorem fd_RX9_372 : sn_Fd RX9 372 9 36 := ⟨RX9, TX9, 46, rfl, ug_X9, by decide, kf_RX9_372⟩
theorem kf_RX9_73 : Cond.fieldLink RX9 73 (TX9 35).1 (TX9 35).2.1 (TX9 35).2.2.1 ∈ sn_gw := sn_gwI (lb_4 (lt_16 (lt_16 (lt_16 (lt_16 (lt_16 (lt_16 (lt_16 (lt_16 (lt_16 (lt_9 lt_h))))))))))) gw_fieldLink
theorem fd_RX9_73 : sn_Fd RX9 73 9 35 := ⟨RX9, TX9, 46, rfl, ug_X9, by decide, kf_RX9_73⟩
theorem fp_RX9_372 : sn_Fp RX9 372 9 36 .int := ⟨RX9, TX9, 46, tyX9, rfl, ug_X9, by decide, kf_RX9_372, tyX9_ok, nmX9, rfl, by decide +kernel⟩
theorem kc_X9_numberAt : Cond.code yX9_numberAt cX9_numberAt 3 (some .long) ∈ sn_gw := sn_gwI (lb_6 (lt_16 (lt_16 (lt_16 (lt_16 (lt_16 (lt_16 (lt_16 (lt_16 (lt_16 (lt_16 (lt_16 (lt_16 (lt_16 (lt_7 lt_h))))))))))))))) gw_code
theorem km_RX9_368 : Cond.methodLink RX9 368 yX9_numberAt ∈ sn_gw := sn_gwI (lb_6 (lt_16 (lt_16 (lt_16 (lt_16 (lt_16 (lt_16 (lt_16 (lt_16 (lt_16 (lt_16 (lt_16 (lt_16 (lt_16 (lt_4 lt_h))))))))))))))) gw_methodLink
theorem kin_X9_numberAt : Cond.instanceMethod yX9_numberAt ∈ sn_gw := sn_gwI (lb_6 (lt_16 (lt_16 (lt_16 (lt_16 (lt_16 (lt_16 (lt_16 (lt_16 (lt_16 (lt_16 (lt_16 (lt_16 (lt_16 (lt_6 lt_h))))))))))))))) gw_instanceMethod
theorem ks_X9_numberAt : Cond.selects RX9 yX9_numberAt yX9_numberAt ∈ sn_gw := sn_gwS (q := (yX9_numberAt, 46)) (List.mem_of_getElem? (i := 87) (by decide +kernel)) (by decide +kernel)
theorem kl_RX9_368 : sn_LV RX9 368 yX9_numberAt cX9_numberAt 3 (some .long) 2 := ⟨sn_lv5 km_RX9_368 kin_X9_numberAt ks_X9_numberAt ki_RX9 kc_X9_numberAt, by decide +kernel⟩
theorem kc_X9_isSlot : Cond.code yX9_isSlot cX9_isSlot 1 (some .boolean) ∈ sn_gw := sn_gwI (lb_6 (lt_16 (lt_16 (lt_16 (lt_16 (lt_16 (lt_16 (lt_16 (lt_16 (lt_16 (lt_16 (lt_16 (lt_16 (lt_16 (lt_3 lt_h))))))))))))))) gw_code
theorem km_RX9_365 : Cond.methodLink RX9 365 yX9_isSlot ∈ sn_gw := sn_gwI (lb_6 (lt_16 (lt_16 (lt_16 (lt_16 (lt_16 (lt_16 (lt_16 (lt_16 (lt_16 (lt_16 (lt_16 (lt_16 (lt_16 (lt_1 lt_h))))))))))))))) gw_methodLink
theorem kst_X9_isSlot : Cond.static yX9_isSlot ∈ sn_gw := sn_gwI (lb_6 (lt_16 (lt_16 (lt_16 (lt_16 (lt_16 (lt_16 (lt_16 (lt_16 (lt_16 (lt_16 (lt_16 (lt_16 (lt_16 (lt_2 lt_h))))))))))))))) gw_static
theorem kl_RX9_365 : sn_LS RX9 365 yX9_isSlot cX9_isSlot 1 (some .boolean) 1 := ⟨sn_ls4 km_RX9_365 kst_X9_isSlot ki_RX9 kc_X9_isSlot, by decide +kernel⟩
theorem kc_X9_layPairs : Cond.code yX9_layPairs cX9_layPairs 6 (some .int) ∈ sn_gw := sn_gwI (lb_6 (lt_16 (lt_16 (lt_16 (lt_16 (lt_16 (lt_16 (lt_16 (lt_16 (lt_16 (lt_16 (lt_16 (lt_16 (lt_16 lt_h)))))))))))))) gw_code
theorem km_RX9_375 : Cond.methodLink RX9 375 yX9_layPairs ∈ sn_gw := sn_gwI (lb_6 (lt_16 (lt_16 (lt_16 (lt_16 (lt_16 (lt_16 (lt_16 (lt_16 (lt_16 (lt_16 (lt_16 (lt_16 (lt_13 lt_h)))))))))))))) gw_methodLink
theorem kin_X9_layPairs : Cond.instanceMethod yX9_layPairs ∈ sn_gw := sn_gwI (lb_6 (lt_16 (lt_16 (lt_16 (lt_16 (lt_16 (lt_16 (lt_16 (lt_16 (lt_16 (lt_16 (lt_16 (lt_16 (lt_15 lt_h)))))))))))))) gw_instanceMethod
theorem ks_X9_layPairs : Cond.selects RX9 yX9_layPairs yX9_layPairs ∈ sn_gw := sn_gwS (q := (yX9_layPairs, 46)) (List.mem_of_getElem? (i := 86) (by decide +kernel)) (by decide +kernel)
theorem kl_RX9_375 : sn_LV RX9 375 yX9_layPairs cX9_layPairs 6 (some .int) 1 := ⟨sn_lv5 km_RX9_375 kin_X9_layPairs ks_X9_layPairs ki_RX9 kc_X9_layPairs, by decide +kernel⟩
theorem kf_RX9_378 : Cond.fieldLink RX9 378 (TX9 37).1 (TX9 37).2.1 (TX9 37).2.2.1 ∈ sn_gw := sn_gwI (lb_4 (lt_16 (lt_16 (lt_16 (lt_16 (lt_16 (lt_16 (lt_16 (lt_16 (lt_16 (lt_11 lt_h))))))))))) gw_fieldLink
theorem fd_RX9_378 : sn_Fd RX9 378 9 37 := ⟨RX9, TX9, 46, rfl, ug_X9, by decide, kf_RX9_378⟩
theorem fp_RX9_378 : sn_Fp RX9 378 9 37 .int := ⟨RX9, TX9, 46, tyX9, rfl, ug_X9, by decide, kf_RX9_378, tyX9_ok, nmX9, rfl, by decide +kernel⟩
theorem kc_X9_askOf : Cond.code yX9_askOf cX9_askOf 7 (some .int) ∈ sn_gw := sn_gwI (lb_6 (lt_16 (lt_16 (lt_16 (lt_16 (lt_16 (lt_16 (lt_16 (lt_16 (lt_16 (lt_16 (lt_16 (lt_16 (lt_16 (lt_16 (lt_7 lt_h)))))))))))))))) gw_code
theorem km_RX9_381 : Cond.methodLink RX9 381 yX9_askOf ∈ sn_gw := sn_gwI (lb_6 (lt_16 (lt_16 (lt_16 (lt_16 (lt_16 (lt_16 (lt_16 (lt_16 (lt_16 (lt_16 (lt_16 (lt_16 (lt_16 (lt_16 (lt_4 lt_h)))))))))))))))) gw_methodLink
theorem kin_X9_askOf : Cond.instanceMethod yX9_askOf ∈ sn_gw := sn_gwI (lb_6 (lt_16 (lt_16 (lt_16 (lt_16 (lt_16 (lt_16 (lt_16 (lt_16 (lt_16 (lt_16 (lt_16 (lt_16 (lt_16 (lt_16 (lt_6 lt_h)))))))))))))))) gw_instanceMethod
theorem ks_X9_askOf : Cond.selects RX9 yX9_askOf yX9_askOf ∈ sn_gw := sn_gwS (q := (yX9_askOf, 46)) (List.mem_of_getElem? (i := 88) (by decide +kernel)) (by decide +kernel)
theorem kl_RX9_381 : sn_LV RX9 381 yX9_askOf cX9_askOf 7 (some .int) 0 := ⟨sn_lv5 km_RX9_381 kin_X9_askOf ks_X9_askOf ki_RX9 kc_X9_askOf, by decide +kernel⟩
theorem kc_X9_losesBy : Cond.code yX9_losesBy cX9_losesBy 8 (some .int) ∈ sn_gw := sn_gwI (lb_7 (lt_7 lt_h)) gw_code
theorem km_RX9_387 : Cond.methodLink RX9 387 yX9_losesBy ∈ sn_gw := sn_gwI (lb_7 (lt_4 lt_h)) gw_methodLink
theorem kin_X9_losesBy : Cond.instanceMethod yX9_losesBy ∈ sn_gw := sn_gwI (lb_7 (lt_6 lt_h)) gw_instanceMethod
theorem ks_X9_losesBy : Cond.selects RX9 yX9_losesBy yX9_losesBy ∈ sn_gw := sn_gwS (q := (yX9_losesBy, 46)) (List.mem_of_getElem? (i := 90) (by decide +kernel)) (by decide +kernel)
theorem kl_RX9_387 : sn_LV RX9 387 yX9_losesBy cX9_losesBy 8 (some .int) 5 := ⟨sn_lv5 km_RX9_387 kin_X9_losesBy ks_X9_losesBy ki_RX9 kc_X9_losesBy, by decide +kernel⟩
theorem kc_X9_areTwo : Cond.code yX9_areTwo cX9_areTwo 3 (some .boolean) ∈ sn_gw := sn_gwI (lb_7 (lt_3 lt_h)) gw_code
theorem km_RX9_384 : Cond.methodLink RX9 384 yX9_areTwo ∈ sn_gw := sn_gwI (lb_7 lt_h) gw_methodLink
theorem kin_X9_areTwo : Cond.instanceMethod yX9_areTwo ∈ sn_gw := sn_gwI (lb_7 (lt_2 lt_h)) gw_instanceMethod
theorem ks_X9_areTwo : Cond.selects RX9 yX9_areTwo yX9_areTwo ∈ sn_gw := sn_gwS (q := (yX9_areTwo, 46)) (List.mem_of_getElem? (i := 89) (by decide +kernel)) (by decide +kernel)
theorem kl_RX9_384 : sn_LV RX9 384 yX9_areTwo cX9_areTwo 3 (some .boolean) 2 := ⟨sn_lv5 km_RX9_384 kin_X9_areTwo ks_X9_areTwo ki_RX9 kc_X9_areTwo, by decide +kernel⟩
theorem kc_X9_allWithout : Cond.code yX9_allWithout cX9_allWithout 2 (some .int) ∈ sn_gw := sn_gwI (lb_7 (lt_16 (lt_3 lt_h))) gw_code
theorem km_RX9_391 : Cond.methodLink RX9 391 yX9_allWithout ∈ sn_gw := sn_gwI (lb_7 (lt_16 lt_h)) gw_methodLink
theorem kin_X9_allWithout : Cond.instanceMethod yX9_allWithout ∈ sn_gw := sn_gwI (lb_7 (lt_16 (lt_2 lt_h))) gw_instanceMethod
theorem ks_X9_allWithout : Cond.selects RX9 yX9_allWithout yX9_allWithout ∈ sn_gw := sn_gwS (q := (yX9_allWithout, 46)) (List.mem_of_getElem? (i := 91) (by decide +kernel)) (by decide +kernel)
theorem kl_RX9_391 : sn_LV RX9 391 yX9_allWithout cX9_allWithout 2 (some .int) 1 := ⟨sn_lv5 km_RX9_391 kin_X9_allWithout ks_X9_allWithout ki_RX9 kc_X9_allWithout, by decide +kernel⟩
theorem kc_X9_divisor : Cond.code yX9_divisor cX9_divisor 10 (some .long) ∈ sn_gw := sn_gwI (lb_7 (lt_16 (lt_16 (lt_11 lt_h)))) gw_code
theorem km_RX9_394 : Cond.methodLink RX9 394 yX9_divisor ∈ sn_gw := sn_gwI (lb_7 (lt_16 (lt_16 (lt_9 lt_h)))) gw_methodLink
theorem kst_X9_divisor : Cond.static yX9_divisor ∈ sn_gw := sn_gwI (lb_7 (lt_16 (lt_16 (lt_10 lt_h)))) gw_static
theorem kl_RX9_394 : sn_LS RX9 394 yX9_divisor cX9_divisor 10 (some .long) 2 := ⟨sn_ls4 km_RX9_394 kst_X9_divisor ki_RX9 kc_X9_divisor, by decide +kernel⟩
theorem kf_RX9_398 : Cond.fieldLink RX9 398 (TX9 38).1 (TX9 38).2.1 (TX9 38).2.2.1 ∈ sn_gw := sn_gwI (lb_4 (lt_16 (lt_16 (lt_16 (lt_16 (lt_16 (lt_16 (lt_16 (lt_16 (lt_16 (lt_12 lt_h))))))))))) gw_fieldLink
theorem fd_RX9_398 : sn_Fd RX9 398 9 38 := ⟨RX9, TX9, 46, rfl, ug_X9, by decide, kf_RX9_398⟩
theorem kf_RX9_402 : Cond.fieldLink RX9 402 (TX9 39).1 (TX9 39).2.1 (TX9 39).2.2.1 ∈ sn_gw := sn_gwI (lb_4 (lt_16 (lt_16 (lt_16 (lt_16 (lt_16 (lt_16 (lt_16 (lt_16 (lt_16 (lt_13 lt_h))))))))))) gw_fieldLink
theorem fd_RX9_402 : sn_Fd RX9 402 9 39 := ⟨RX9, TX9, 46, rfl, ug_X9, by decide, kf_RX9_402⟩
theorem kf_RX9_405 : Cond.fieldLink RX9 405 (TX9 40).1 (TX9 40).2.1 (TX9 40).2.2.1 ∈ sn_gw := sn_gwI (lb_4 (lt_16 (lt_16 (lt_16 (lt_16 (lt_16 (lt_16 (lt_16 (lt_16 (lt_16 (lt_14 lt_h))))))))))) gw_fieldLink
theorem fd_RX9_405 : sn_Fd RX9 405 9 40 := ⟨RX9, TX9, 46, rfl, ug_X9, by decide, kf_RX9_405⟩
theorem kf_RX9_408 : Cond.fieldLink RX9 408 (TX9 41).1 (TX9 41).2.1 (TX9 41).2.2.1 ∈ sn_gw := sn_gwI (lb_4 (lt_16 (lt_16 (lt_16 (lt_16 (lt_16 (lt_16 (lt_16 (lt_16 (lt_16 (lt_15 lt_h))))))))))) gw_fieldLink
theorem fd_RX9_408 : sn_Fd RX9 408 9 41 := ⟨RX9, TX9, 46, rfl, ug_X9, by decide, kf_RX9_408⟩
theorem fp_RX9_408 : sn_Fp RX9 408 9 41 .long := ⟨RX9, TX9, 46, tyX9, rfl, ug_X9, by decide, kf_RX9_408, tyX9_ok, nmX9, rfl, by decide +kernel⟩
theorem fp_RX9_405 : sn_Fp RX9 405 9 40 .long := ⟨RX9, TX9, 46, tyX9, rfl, ug_X9, by decide, kf_RX9_405, tyX9_ok, nmX9, rfl, by decide +kernel⟩
theorem fp_RX9_402 : sn_Fp RX9 402 9 39 .long := ⟨RX9, TX9, 46, tyX9, rfl, ug_X9, by decide, kf_RX9_402, tyX9_ok, nmX9, rfl, by decide +kernel⟩
theorem fp_RX9_398 : sn_Fp RX9 398 9 38 .long := ⟨RX9, TX9, 46, tyX9, rfl, ug_X9, by decide, kf_RX9_398, tyX9_ok, nmX9, rfl, by decide +kernel⟩
theorem kk_RX9_411 : Cond.constantLong RX9 411 (7) ∈ sn_gw := sn_gwI (lb_7 (lt_16 (lt_16 lt_h))) (by decide +kernel)
theorem kk_RX9_416 : Cond.constantLong RX9 416 (-2) ∈ sn_gw := sn_gwI (lb_7 (lt_16 (lt_16 (lt_1 lt_h)))) (by decide +kernel)
theorem kc_X9_isPuffs : Cond.code yX9_isPuffs cX9_isPuffs 3 (some .boolean) ∈ sn_gw := sn_gwI (lb_7 (lt_16 (lt_15 lt_h))) gw_code
theorem km_RX9_413 : Cond.methodLink RX9 413 yX9_isPuffs ∈ sn_gw := sn_gwI (lb_7 (lt_16 (lt_12 lt_h))) gw_methodLink
theorem kin_X9_isPuffs : Cond.instanceMethod yX9_isPuffs ∈ sn_gw := sn_gwI (lb_7 (lt_16 (lt_14 lt_h))) gw_instanceMethod
theorem ks_X9_isPuffs : Cond.selects RX9 yX9_isPuffs yX9_isPuffs ∈ sn_gw := sn_gwS (q := (yX9_isPuffs, 46)) (List.mem_of_getElem? (i := 92) (by decide +kernel)) (by decide +kernel)
theorem kl_RX9_413 : sn_LV RX9 413 yX9_isPuffs cX9_isPuffs 3 (some .boolean) 2 := ⟨sn_lv5 km_RX9_413 kin_X9_isPuffs ks_X9_isPuffs ki_RX9 kc_X9_isPuffs, by decide +kernel⟩
theorem kc_X9_layPuffs : Cond.code yX9_layPuffs cX9_layPuffs 8 none ∈ sn_gw := sn_gwI (lb_7 (lt_16 (lt_16 (lt_5 lt_h)))) gw_code
theorem km_RX9_418 : Cond.methodLink RX9 418 yX9_layPuffs ∈ sn_gw := sn_gwI (lb_7 (lt_16 (lt_16 (lt_2 lt_h)))) gw_methodLink
theorem kin_X9_layPuffs : Cond.instanceMethod yX9_layPuffs ∈ sn_gw := sn_gwI (lb_7 (lt_16 (lt_16 (lt_4 lt_h)))) gw_instanceMethod
theorem ks_X9_layPuffs : Cond.selects RX9 yX9_layPuffs yX9_layPuffs ∈ sn_gw := sn_gwS (q := (yX9_layPuffs, 46)) (List.mem_of_getElem? (i := 93) (by decide +kernel)) (by decide +kernel)
theorem kl_RX9_418 : sn_LV RX9 418 yX9_layPuffs cX9_layPuffs 8 none 3 := ⟨sn_lv5 km_RX9_418 kin_X9_layPuffs ks_X9_layPuffs ki_RX9 kc_X9_layPuffs, by decide +kernel⟩
theorem kc_X9_part : Cond.code yX9_part cX9_part 5 (some .long) ∈ sn_gw := sn_gwI (lb_7 (lt_16 (lt_16 (lt_8 lt_h)))) gw_code
theorem km_RX9_422 : Cond.methodLink RX9 422 yX9_part ∈ sn_gw := sn_gwI (lb_7 (lt_16 (lt_16 (lt_6 lt_h)))) gw_methodLink
theorem kst_X9_part : Cond.static yX9_part ∈ sn_gw := sn_gwI (lb_7 (lt_16 (lt_16 (lt_7 lt_h)))) gw_static
theorem kl_RX9_422 : sn_LS RX9 422 yX9_part cX9_part 5 (some .long) 3 := ⟨sn_ls4 km_RX9_422 kst_X9_part ki_RX9 kc_X9_part, by decide +kernel⟩
theorem kc_X9_keepAct : Cond.code yX9_keepAct cX9_keepAct 2 (some .int) ∈ sn_gw := sn_gwI (lb_7 (lt_16 (lt_16 (lt_16 (lt_11 lt_h))))) gw_code
theorem km_RX9_426 : Cond.methodLink RX9 426 yX9_keepAct ∈ sn_gw := sn_gwI (lb_7 (lt_16 (lt_16 (lt_16 (lt_8 lt_h))))) gw_methodLink
theorem kin_X9_keepAct : Cond.instanceMethod yX9_keepAct ∈ sn_gw := sn_gwI (lb_7 (lt_16 (lt_16 (lt_16 (lt_10 lt_h))))) gw_instanceMethod
theorem ks_X9_keepAct : Cond.selects RX9 yX9_keepAct yX9_keepAct ∈ sn_gw := sn_gwS (q := (yX9_keepAct, 46)) (List.mem_of_getElem? (i := 94) (by decide +kernel)) (by decide +kernel)
theorem kl_RX9_426 : sn_LV RX9 426 yX9_keepAct cX9_keepAct 2 (some .int) 1 := ⟨sn_lv5 km_RX9_426 kin_X9_keepAct ks_X9_keepAct ki_RX9 kc_X9_keepAct, by decide +kernel⟩
theorem kk_RX9_429 : Cond.constantLong RX9 429 (1103515245) ∈ sn_gw := sn_gwI (lb_7 (lt_16 (lt_16 (lt_16 (lt_16 (lt_16 (lt_4 lt_h))))))) (by decide +kernel)
theorem kk_RX9_431 : Cond.constantLong RX9 431 (12345) ∈ sn_gw := sn_gwI (lb_7 (lt_16 (lt_16 (lt_16 (lt_16 (lt_16 (lt_5 lt_h))))))) (by decide +kernel)
theorem kk_RX9_433 : Cond.constantLong RX9 433 (2147483648) ∈ sn_gw := sn_gwI (lb_7 (lt_16 (lt_16 (lt_16 (lt_16 (lt_16 (lt_6 lt_h))))))) (by decide +kernel)
theorem kk_RX9_435 : Cond.constantLong RX9 435 (65536) ∈ sn_gw := sn_gwI (lb_7 (lt_16 (lt_16 (lt_16 (lt_16 (lt_16 (lt_7 lt_h))))))) (by decide +kernel)
theorem kk_RX9_437 : Cond.constantLong RX9 437 (10) ∈ sn_gw := sn_gwI (lb_7 (lt_16 (lt_16 (lt_16 (lt_16 (lt_16 (lt_8 lt_h))))))) (by decide +kernel)
theorem kk_RX9_439 : Cond.constantLong RX9 439 (2000000000) ∈ sn_gw := sn_gwI (lb_7 (lt_16 (lt_16 (lt_16 (lt_16 (lt_15 lt_h)))))) (by decide +kernel)
theorem kc_X9_isSeed : Cond.code yX9_isSeed cX9_isSeed 1 (some .boolean) ∈ sn_gw := sn_gwI (lb_7 (lt_16 (lt_16 (lt_16 (lt_16 (lt_14 lt_h)))))) gw_code
theorem km_RX9_441 : Cond.methodLink RX9 441 yX9_isSeed ∈ sn_gw := sn_gwI (lb_7 (lt_16 (lt_16 (lt_16 (lt_16 (lt_12 lt_h)))))) gw_methodLink
theorem kst_X9_isSeed : Cond.static yX9_isSeed ∈ sn_gw := sn_gwI (lb_7 (lt_16 (lt_16 (lt_16 (lt_16 (lt_13 lt_h)))))) gw_static
theorem kl_RX9_441 : sn_LS RX9 441 yX9_isSeed cX9_isSeed 1 (some .boolean) 1 := ⟨sn_ls4 km_RX9_441 kst_X9_isSeed ki_RX9 kc_X9_isSeed, by decide +kernel⟩
theorem kc_X9_goDrawn : Cond.code yX9_goDrawn cX9_goDrawn 7 (some .int) ∈ sn_gw := sn_gwI (lb_7 (lt_16 (lt_16 (lt_16 (lt_16 (lt_16 (lt_3 lt_h))))))) gw_code
theorem km_RX9_444 : Cond.methodLink RX9 444 yX9_goDrawn ∈ sn_gw := sn_gwI (lb_7 (lt_16 (lt_16 (lt_16 (lt_16 (lt_16 lt_h)))))) gw_methodLink
theorem kin_X9_goDrawn : Cond.instanceMethod yX9_goDrawn ∈ sn_gw := sn_gwI (lb_7 (lt_16 (lt_16 (lt_16 (lt_16 (lt_16 (lt_2 lt_h))))))) gw_instanceMethod
theorem ks_X9_goDrawn : Cond.selects RX9 yX9_goDrawn yX9_goDrawn ∈ sn_gw := sn_gwS (q := (yX9_goDrawn, 46)) (List.mem_of_getElem? (i := 95) (by decide +kernel)) (by decide +kernel)
theorem kl_RX9_444 : sn_LV RX9 444 yX9_goDrawn cX9_goDrawn 7 (some .int) 1 := ⟨sn_lv5 km_RX9_444 kin_X9_goDrawn ks_X9_goDrawn ki_RX9 kc_X9_goDrawn, by decide +kernel⟩
theorem kk_RX9_448 : Cond.constantLong RX9 448 (20) ∈ sn_gw := sn_gwI (lb_7 (lt_16 (lt_16 (lt_16 (lt_16 (lt_16 (lt_13 lt_h))))))) (by decide +kernel)
theorem kk_RX9_450 : Cond.constantLong RX9 450 (99) ∈ sn_gw := sn_gwI (lb_7 (lt_16 (lt_16 (lt_16 (lt_16 (lt_16 (lt_16 (lt_2 lt_h)))))))) (by decide +kernel)
theorem kf_RX9_79 : Cond.fieldLink RX9 79 (TX9 43).1 (TX9 43).2.1 (TX9 43).2.2.1 ∈ sn_gw := sn_gwI (lb_4 (lt_16 (lt_16 (lt_16 (lt_16 (lt_16 (lt_16 (lt_16 (lt_16 (lt_16 (lt_16 (lt_1 lt_h)))))))))))) gw_fieldLink
theorem fd_RX9_79 : sn_Fd RX9 79 9 43 := ⟨RX9, TX9, 46, rfl, ug_X9, by decide, kf_RX9_79⟩
theorem kc_X9_cut_ : Cond.code yX9_cut_ cX9_cut_ 4 (some .long) ∈ sn_gw := sn_gwI (lb_7 (lt_16 (lt_16 (lt_16 (lt_16 (lt_16 (lt_16 (lt_16 (lt_1 lt_h))))))))) gw_code
theorem km_RX9_452 : Cond.methodLink RX9 452 yX9_cut_ ∈ sn_gw := sn_gwI (lb_7 (lt_16 (lt_16 (lt_16 (lt_16 (lt_16 (lt_16 (lt_15 lt_h)))))))) gw_methodLink
theorem kst_X9_cut_ : Cond.static yX9_cut_ ∈ sn_gw := sn_gwI (lb_7 (lt_16 (lt_16 (lt_16 (lt_16 (lt_16 (lt_16 (lt_16 lt_h)))))))) gw_static
theorem kl_RX9_452 : sn_LS RX9 452 yX9_cut_ cX9_cut_ 4 (some .long) 2 := ⟨sn_ls4 km_RX9_452 kst_X9_cut_ ki_RX9 kc_X9_cut_, by decide +kernel⟩
theorem kf_RX9_86 : Cond.fieldLink RX9 86 (TX9 45).1 (TX9 45).2.1 (TX9 45).2.2.1 ∈ sn_gw := sn_gwI (lb_4 (lt_16 (lt_16 (lt_16 (lt_16 (lt_16 (lt_16 (lt_16 (lt_16 (lt_16 (lt_16 (lt_3 lt_h)))))))))))) gw_fieldLink
theorem fd_RX9_86 : sn_Fd RX9 86 9 45 := ⟨RX9, TX9, 46, rfl, ug_X9, by decide, kf_RX9_86⟩
theorem kf_RX2_9 : Cond.fieldLink RX2 9 (TX2 0).1 (TX2 0).2.1 (TX2 0).2.2.1 ∈ sn_gw := sn_gwI (lb_0 (lt_16 (lt_16 (lt_1 lt_h)))) gw_fieldLink
theorem fd_RX2_9 : sn_Fd RX2 9 2 0 := ⟨RX2, TX2, 6, rfl, ug_X2, by decide, kf_RX2_9⟩
theorem kf_RX2_27 : Cond.fieldLink RX2 27 (TX2 5).1 (TX2 5).2.1 (TX2 5).2.2.1 ∈ sn_gw := sn_gwI (lb_0 (lt_16 (lt_16 (lt_16 (lt_4 lt_h))))) gw_fieldLink
theorem fd_RX2_27 : sn_Fd RX2 27 2 5 := ⟨RX2, TX2, 6, rfl, ug_X2, by decide, kf_RX2_27⟩
theorem kf_RX0_46 : Cond.fieldLink RX0 46 (TX2 0).1 (TX2 0).2.1 (TX2 0).2.2.1 ∈ sn_gw := sn_gwI (lb_0 (lt_16 (lt_16 (lt_2 lt_h)))) gw_fieldLink
theorem fd_RX0_46 : sn_Fd RX0 46 2 0 := ⟨RX2, TX2, 6, rfl, ug_X2, by decide, kf_RX0_46⟩
theorem kf_RX0_60 : Cond.fieldLink RX0 60 (TX2 3).1 (TX2 3).2.1 (TX2 3).2.2.1 ∈ sn_gw := sn_gwI (lb_0 (lt_16 (lt_16 (lt_15 lt_h)))) gw_fieldLink
theorem fd_RX0_60 : sn_Fd RX0 60 2 3 := ⟨RX2, TX2, 6, rfl, ug_X2, by decide, kf_RX0_60⟩
theorem kf_RX0_31 : Cond.fieldLink RX0 31 (TX0 9).1 (TX0 9).2.1 (TX0 9).2.2.1 ∈ sn_gw := sn_gwI (lb_0 (lt_16 (lt_16 (lt_16 (lt_16 (lt_16 (lt_16 (lt_16 (lt_16 (lt_16 (lt_15 lt_h))))))))))) gw_fieldLink
theorem fd_RX0_31 : sn_Fd RX0 31 0 9 := ⟨RX0, TX0, 14, rfl, ug_X0, by decide, kf_RX0_31⟩
theorem kf_RX0_54 : Cond.fieldLink RX0 54 (TX0 1).1 (TX0 1).2.1 (TX0 1).2.2.1 ∈ sn_gw := sn_gwI (lb_0 (lt_16 (lt_16 (lt_16 (lt_16 (lt_16 (lt_16 (lt_16 (lt_16 (lt_11 lt_h)))))))))) gw_fieldLink
theorem fd_RX0_54 : sn_Fd RX0 54 0 1 := ⟨RX0, TX0, 14, rfl, ug_X0, by decide, kf_RX0_54⟩
theorem kf_RX0_19 : Cond.fieldLink RX0 19 (TX0 5).1 (TX0 5).2.1 (TX0 5).2.2.1 ∈ sn_gw := sn_gwI (lb_0 (lt_16 (lt_16 (lt_16 (lt_16 (lt_16 (lt_16 (lt_16 (lt_16 (lt_16 (lt_5 lt_h))))))))))) gw_fieldLink
theorem fd_RX0_19 : sn_Fd RX0 19 0 5 := ⟨RX0, TX0, 14, rfl, ug_X0, by decide, kf_RX0_19⟩
theorem kf_RX0_67 : Cond.fieldLink RX0 67 (TX2 1).1 (TX2 1).2.1 (TX2 1).2.2.1 ∈ sn_gw := sn_gwI (lb_0 (lt_16 (lt_16 (lt_8 lt_h)))) gw_fieldLink
theorem fd_RX0_67 : sn_Fd RX0 67 2 1 := ⟨RX2, TX2, 6, rfl, ug_X2, by decide, kf_RX0_67⟩
theorem kf_RX0_22 : Cond.fieldLink RX0 22 (TX0 6).1 (TX0 6).2.1 (TX0 6).2.2.1 ∈ sn_gw := sn_gwI (lb_0 (lt_16 (lt_16 (lt_16 (lt_16 (lt_16 (lt_16 (lt_16 (lt_16 (lt_16 (lt_7 lt_h))))))))))) gw_fieldLink
theorem fd_RX0_22 : sn_Fd RX0 22 0 6 := ⟨RX0, TX0, 14, rfl, ug_X0, by decide, kf_RX0_22⟩
theorem kf_RX0_25 : Cond.fieldLink RX0 25 (TX0 7).1 (TX0 7).2.1 (TX0 7).2.2.1 ∈ sn_gw := sn_gwI (lb_0 (lt_16 (lt_16 (lt_16 (lt_16 (lt_16 (lt_16 (lt_16 (lt_16 (lt_16 (lt_10 lt_h))))))))))) gw_fieldLink
theorem fd_RX0_25 : sn_Fd RX0 25 0 7 := ⟨RX0, TX0, 14, rfl, ug_X0, by decide, kf_RX0_25⟩
theorem kf_RX0_28 : Cond.fieldLink RX0 28 (TX0 8).1 (TX0 8).2.1 (TX0 8).2.2.1 ∈ sn_gw := sn_gwI (lb_0 (lt_16 (lt_16 (lt_16 (lt_16 (lt_16 (lt_16 (lt_16 (lt_16 (lt_16 (lt_13 lt_h))))))))))) gw_fieldLink
theorem fd_RX0_28 : sn_Fd RX0 28 0 8 := ⟨RX0, TX0, 14, rfl, ug_X0, by decide, kf_RX0_28⟩
theorem kf_RX0_15 : Cond.fieldLink RX0 15 (TX0 4).1 (TX0 4).2.1 (TX0 4).2.2.1 ∈ sn_gw := sn_gwI (lb_0 (lt_16 (lt_16 (lt_16 (lt_16 (lt_16 (lt_16 (lt_16 (lt_16 (lt_16 (lt_1 lt_h))))))))))) gw_fieldLink
theorem fd_RX0_15 : sn_Fd RX0 15 0 4 := ⟨RX0, TX0, 14, rfl, ug_X0, by decide, kf_RX0_15⟩
theorem kf_RX0_80 : Cond.fieldLink RX0 80 (TX2 2).1 (TX2 2).2.1 (TX2 2).2.2.1 ∈ sn_gw := sn_gwI (lb_0 (lt_16 (lt_16 (lt_12 lt_h)))) gw_fieldLink
theorem fd_RX0_80 : sn_Fd RX0 80 2 2 := ⟨RX2, TX2, 6, rfl, ug_X2, by decide, kf_RX0_80⟩
theorem kc_J7_fill_53178 : Cond.code yJ7_fill_53178 cJ7_fill_53178 4 none ∈ sn_gw := sn_gwI (lb_0 (lt_16 (lt_16 (lt_16 (lt_16 (lt_16 (lt_16 (lt_16 (lt_1 lt_h))))))))) gw_code
theorem km_RX0_74 : Cond.methodLink RX0 74 yJ7_fill_53178 ∈ sn_gw := sn_gwI (lb_2 (lt_14 lt_h)) gw_methodLink
theorem kst_J7_fill_53178 : Cond.static yJ7_fill_53178 ∈ sn_gw := sn_gwI (lb_0 (lt_16 (lt_16 (lt_16 (lt_16 (lt_16 (lt_16 (lt_16 lt_h)))))))) gw_static
theorem ki_RJ7 : Cond.initialized RJ7 ∈ sn_gw := sn_gwI (lb_0 (lt_5 lt_h)) gw_initialized
theorem kl_RX0_74 : sn_LS RX0 74 yJ7_fill_53178 cJ7_fill_53178 4 none 2 := ⟨sn_ls4 km_RX0_74 kst_J7_fill_53178 ki_RJ7 kc_J7_fill_53178, by decide +kernel⟩
theorem kc_X2_minutesOfActs : Cond.code yX2_minutesOfActs cX2_minutesOfActs 5 (some .int) ∈ sn_gw := sn_gwI (lb_2 (lt_13 lt_h)) gw_code
theorem km_RX0_70 : Cond.methodLink RX0 70 yX2_minutesOfActs ∈ sn_gw := sn_gwI (lb_2 (lt_10 lt_h)) gw_methodLink
theorem kin_X2_minutesOfActs : Cond.instanceMethod yX2_minutesOfActs ∈ sn_gw := sn_gwI (lb_2 (lt_11 lt_h)) gw_instanceMethod
theorem ks_X2_minutesOfActs : Cond.selects RX2 yX2_minutesOfActs yX2_minutesOfActs ∈ sn_gw := sn_gwI (lb_2 (lt_12 lt_h)) gw_selects
theorem ki_RX2 : Cond.initialized RX2 ∈ sn_gw := sn_gwI (lb_0 (lt_2 lt_h)) gw_initialized
theorem kl_RX0_70 : sn_LV RX0 70 yX2_minutesOfActs cX2_minutesOfActs 5 (some .int) 2 := ⟨sn_lv5 km_RX0_70 kin_X2_minutesOfActs ks_X2_minutesOfActs ki_RX2 kc_X2_minutesOfActs, by decide +kernel⟩
theorem kf_RX0_51 : Cond.fieldLink RX0 51 (TX0 0).1 (TX0 0).2.1 (TX0 0).2.2.1 ∈ sn_gw := sn_gwI (lb_0 (lt_16 (lt_16 (lt_16 (lt_16 (lt_16 (lt_16 (lt_16 (lt_16 (lt_6 lt_h)))))))))) gw_fieldLink
theorem fp_RX0_51 : sn_Fp RX0 51 0 0 .int := ⟨RX0, TX0, 14, tyX0, rfl, ug_X0, by decide, kf_RX0_51, tyX0_ok, nmX0, rfl, by decide +kernel⟩
theorem fp_RX0_54 : sn_Fp RX0 54 0 1 .int := ⟨RX0, TX0, 14, tyX0, rfl, ug_X0, by decide, kf_RX0_54, tyX0_ok, nmX0, rfl, by decide +kernel⟩
theorem kf_RX0_57 : Cond.fieldLink RX0 57 (TX0 2).1 (TX0 2).2.1 (TX0 2).2.2.1 ∈ sn_gw := sn_gwI (lb_0 (lt_16 (lt_16 (lt_16 (lt_16 (lt_16 (lt_16 (lt_16 (lt_16 (lt_14 lt_h)))))))))) gw_fieldLink
theorem fp_RX0_57 : sn_Fp RX0 57 0 2 .int := ⟨RX0, TX0, 14, tyX0, rfl, ug_X0, by decide, kf_RX0_57, tyX0_ok, nmX0, rfl, by decide +kernel⟩
theorem kf_RX0_9 : Cond.fieldLink RX0 9 (TX0 3).1 (TX0 3).2.1 (TX0 3).2.2.1 ∈ sn_gw := sn_gwI (lb_0 (lt_16 (lt_16 (lt_16 (lt_16 (lt_16 (lt_16 (lt_16 (lt_16 (lt_15 lt_h)))))))))) gw_fieldLink
theorem fp_RX0_9 : sn_Fp RX0 9 0 3 .int := ⟨RX0, TX0, 14, tyX0, rfl, ug_X0, by decide, kf_RX0_9, tyX0_ok, nmX0, rfl, by decide +kernel⟩
theorem km_RX0_61 : Cond.methodLink RX0 61 arraycopyName ∈ sn_gw := sn_gwI (lb_2 (lt_9 lt_h)) gw_methodLink
theorem kst_copy : Cond.static arraycopyName ∈ sn_gw := sn_gwI (lb_1 (lt_16 (lt_16 (lt_16 (lt_16 (lt_16 (lt_16 (lt_16 (lt_16 (lt_16 (lt_16 (lt_16 (lt_16 (lt_16 (lt_16 (lt_15 lt_h)))))))))))))))) gw_static
theorem ki_System : Cond.initialized "java/lang/System" ∈ sn_gw := sn_gwI (lb_0 (lt_16 (lt_1 lt_h))) gw_initialized
theorem kna_copy : Cond.native arraycopyName ∈ sn_gw := sn_gwI (lb_2 lt_h) (by decide +kernel)
theorem fd_RX0_51 : sn_Fd RX0 51 0 0 := ⟨RX0, TX0, 14, rfl, ug_X0, by decide, kf_RX0_51⟩
theorem fd_RX0_57 : sn_Fd RX0 57 0 2 := ⟨RX0, TX0, 14, rfl, ug_X0, by decide, kf_RX0_57⟩
theorem fd_RX0_9 : sn_Fd RX0 9 0 3 := ⟨RX0, TX0, 14, rfl, ug_X0, by decide, kf_RX0_9⟩
theorem kf_RX0_34 : Cond.fieldLink RX0 34 (TX0 10).1 (TX0 10).2.1 (TX0 10).2.2.1 ∈ sn_gw := sn_gwI (lb_0 (lt_16 (lt_16 (lt_16 (lt_16 (lt_16 (lt_16 (lt_16 (lt_16 (lt_16 (lt_16 lt_h))))))))))) gw_fieldLink
theorem fd_RX0_34 : sn_Fd RX0 34 0 10 := ⟨RX0, TX0, 14, rfl, ug_X0, by decide, kf_RX0_34⟩
theorem kf_RX0_37 : Cond.fieldLink RX0 37 (TX0 11).1 (TX0 11).2.1 (TX0 11).2.2.1 ∈ sn_gw := sn_gwI (lb_0 (lt_16 (lt_16 (lt_16 (lt_16 (lt_16 (lt_16 (lt_16 (lt_16 (lt_16 (lt_16 (lt_1 lt_h)))))))))))) gw_fieldLink
theorem fd_RX0_37 : sn_Fd RX0 37 0 11 := ⟨RX0, TX0, 14, rfl, ug_X0, by decide, kf_RX0_37⟩
theorem kf_RX0_40 : Cond.fieldLink RX0 40 (TX0 12).1 (TX0 12).2.1 (TX0 12).2.2.1 ∈ sn_gw := sn_gwI (lb_0 (lt_16 (lt_16 (lt_16 (lt_16 (lt_16 (lt_16 (lt_16 (lt_16 (lt_16 (lt_16 (lt_2 lt_h)))))))))))) gw_fieldLink
theorem fd_RX0_40 : sn_Fd RX0 40 0 12 := ⟨RX0, TX0, 14, rfl, ug_X0, by decide, kf_RX0_40⟩
theorem kf_RX0_43 : Cond.fieldLink RX0 43 (TX0 13).1 (TX0 13).2.1 (TX0 13).2.2.1 ∈ sn_gw := sn_gwI (lb_0 (lt_16 (lt_16 (lt_16 (lt_16 (lt_16 (lt_16 (lt_16 (lt_16 (lt_16 (lt_16 (lt_4 lt_h)))))))))))) gw_fieldLink
theorem fd_RX0_43 : sn_Fd RX0 43 0 13 := ⟨RX0, TX0, 14, rfl, ug_X0, by decide, kf_RX0_43⟩
theorem kc_X8_hasBit : Cond.code yX8_hasBit cX8_hasBit 2 (some .boolean) ∈ sn_gw := sn_gwI (lb_2 (lt_16 (lt_16 lt_h))) gw_code
theorem kst_X8_hasBit : Cond.static yX8_hasBit ∈ sn_gw := sn_gwI (lb_2 (lt_16 (lt_15 lt_h))) gw_static
theorem ki_RX8 : Cond.initialized RX8 ∈ sn_gw := sn_gwI (lb_0 (lt_1 lt_h)) gw_initialized
theorem kl_RX0_98 : sn_LN RX0 98 yX8_hasBit RX8 cX8_hasBit 2 (some .boolean) 2 := ⟨sn_cg kc_X8_hasBit, (List.mem_of_getElem? (i := 10) rfl), kst_X8_hasBit, ki_RX8, by decide +kernel⟩
theorem kc_X0_cameAt : Cond.code yX0_cameAt cX0_cameAt 3 (some .int) ∈ sn_gw := sn_gwI (lb_2 (lt_16 (lt_16 (lt_12 lt_h)))) gw_code
theorem km_RX0_105 : Cond.methodLink RX0 105 yX0_cameAt ∈ sn_gw := sn_gwI (lb_2 (lt_16 (lt_16 (lt_9 lt_h)))) gw_methodLink
theorem kin_X0_cameAt : Cond.instanceMethod yX0_cameAt ∈ sn_gw := sn_gwI (lb_2 (lt_16 (lt_16 (lt_10 lt_h)))) gw_instanceMethod
theorem ks_X0_cameAt : Cond.selects RX0 yX0_cameAt yX0_cameAt ∈ sn_gw := sn_gwI (lb_2 (lt_16 (lt_16 (lt_11 lt_h)))) gw_selects
theorem ki_RX0 : Cond.initialized RX0 ∈ sn_gw := sn_gwI (lb_0 (lt_6 lt_h)) gw_initialized
theorem kl_RX0_105 : sn_LV RX0 105 yX0_cameAt cX0_cameAt 3 (some .int) 2 := ⟨sn_lv5 km_RX0_105 kin_X0_cameAt ks_X0_cameAt ki_RX0 kc_X0_cameAt, by decide +kernel⟩
theorem kc_X0_comesTo : Cond.code yX0_comesTo cX0_comesTo 4 (some .int) ∈ sn_gw := sn_gwI (lb_2 (lt_16 (lt_16 (lt_8 lt_h)))) gw_code
theorem km_RX0_102 : Cond.methodLink RX0 102 yX0_comesTo ∈ sn_gw := sn_gwI (lb_2 (lt_16 (lt_16 (lt_5 lt_h)))) gw_methodLink
theorem kin_X0_comesTo : Cond.instanceMethod yX0_comesTo ∈ sn_gw := sn_gwI (lb_2 (lt_16 (lt_16 (lt_6 lt_h)))) gw_instanceMethod
theorem ks_X0_comesTo : Cond.selects RX0 yX0_comesTo yX0_comesTo ∈ sn_gw := sn_gwI (lb_2 (lt_16 (lt_16 (lt_7 lt_h)))) gw_selects
theorem kl_RX0_102 : sn_LV RX0 102 yX0_comesTo cX0_comesTo 4 (some .int) 2 := ⟨sn_lv5 km_RX0_102 kin_X0_comesTo ks_X0_comesTo ki_RX0 kc_X0_comesTo, by decide +kernel⟩
theorem kc_X0_tickleByNets : Cond.code yX0_tickleByNets cX0_tickleByNets 7 none ∈ sn_gw := sn_gwI (lb_2 (lt_16 (lt_13 lt_h))) gw_code
theorem km_RX0_91 : Cond.methodLink RX0 91 yX0_tickleByNets ∈ sn_gw := sn_gwI (lb_2 (lt_16 (lt_10 lt_h))) gw_methodLink
theorem kin_X0_tickleByNets : Cond.instanceMethod yX0_tickleByNets ∈ sn_gw := sn_gwI (lb_2 (lt_16 (lt_12 lt_h))) gw_instanceMethod
theorem ks_X0_tickleByNets : Cond.selects RX0 yX0_tickleByNets yX0_tickleByNets ∈ sn_gw := sn_gwS (q := (yX0_tickleByNets, 14)) (List.mem_of_getElem? (i := 15) (by decide +kernel)) (by decide +kernel)
theorem kl_RX0_91 : sn_LV RX0 91 yX0_tickleByNets cX0_tickleByNets 7 none 1 := ⟨sn_lv5 km_RX0_91 kin_X0_tickleByNets ks_X0_tickleByNets ki_RX0 kc_X0_tickleByNets, by decide +kernel⟩
theorem kc_X0_liveMinute : Cond.code yX0_liveMinute cX0_liveMinute 6 none ∈ sn_gw := sn_gwI (lb_2 (lt_16 (lt_16 (lt_4 lt_h)))) gw_code
theorem km_RX0_95 : Cond.methodLink RX0 95 yX0_liveMinute ∈ sn_gw := sn_gwI (lb_2 (lt_16 (lt_16 (lt_1 lt_h)))) gw_methodLink
theorem kin_X0_liveMinute : Cond.instanceMethod yX0_liveMinute ∈ sn_gw := sn_gwI (lb_2 (lt_16 (lt_16 (lt_3 lt_h)))) gw_instanceMethod
theorem ks_X0_liveMinute : Cond.selects RX0 yX0_liveMinute yX0_liveMinute ∈ sn_gw := sn_gwS (q := (yX0_liveMinute, 14)) (List.mem_of_getElem? (i := 16) (by decide +kernel)) (by decide +kernel)
theorem kl_RX0_95 : sn_LV RX0 95 yX0_liveMinute cX0_liveMinute 6 none 1 := ⟨sn_lv5 km_RX0_95 kin_X0_liveMinute ks_X0_liveMinute ki_RX0 kc_X0_liveMinute, by decide +kernel⟩
theorem kc_X8_firstMinutes : Cond.code yX8_firstMinutes cX8_firstMinutes 1 (some .int) ∈ sn_gw := sn_gwI (lb_2 (lt_16 (lt_9 lt_h))) gw_code
theorem kst_X8_firstMinutes : Cond.static yX8_firstMinutes ∈ sn_gw := sn_gwI (lb_2 (lt_16 (lt_8 lt_h))) gw_static
theorem kl_RX0_87 : sn_LN RX0 87 yX8_firstMinutes RX8 cX8_firstMinutes 1 (some .int) 1 := ⟨sn_cg kc_X8_firstMinutes, (List.mem_of_getElem? (i := 9) rfl), kst_X8_firstMinutes, ki_RX8, by decide +kernel⟩
theorem kc_X0_live : Cond.code yX0_live cX0_live 4 none ∈ sn_gw := sn_gwI (lb_2 (lt_16 (lt_6 lt_h))) gw_code
theorem km_RX0_83 : Cond.methodLink RX0 83 yX0_live ∈ sn_gw := sn_gwI (lb_2 (lt_16 (lt_3 lt_h))) gw_methodLink
theorem kin_X0_live : Cond.instanceMethod yX0_live ∈ sn_gw := sn_gwI (lb_2 (lt_16 (lt_4 lt_h))) gw_instanceMethod
theorem ks_X0_live : Cond.selects RX0 yX0_live yX0_live ∈ sn_gw := sn_gwI (lb_2 (lt_16 (lt_5 lt_h))) gw_selects
theorem kl_RX0_83 : sn_LV RX0 83 yX0_live cX0_live 4 none 2 := ⟨sn_lv5 km_RX0_83 kin_X0_live ks_X0_live ki_RX0 kc_X0_live, by decide +kernel⟩
theorem kk_RJ6_265 : Cond.constant RJ6 265 (1431655765) ∈ sn_gw := sn_gwI (lb_2 (lt_16 (lt_16 (lt_16 (lt_16 (lt_16 (lt_16 (lt_4 lt_h)))))))) (by decide +kernel)
theorem kk_RJ6_266 : Cond.constant RJ6 266 (858993459) ∈ sn_gw := sn_gwI (lb_2 (lt_16 (lt_16 (lt_16 (lt_16 (lt_16 (lt_16 (lt_5 lt_h)))))))) (by decide +kernel)
theorem kk_RJ6_267 : Cond.constant RJ6 267 (252645135) ∈ sn_gw := sn_gwI (lb_2 (lt_16 (lt_16 (lt_16 (lt_16 (lt_16 (lt_16 (lt_6 lt_h)))))))) (by decide +kernel)
theorem kc_J6_bitCount_0f7a4 : Cond.code yJ6_bitCount_0f7a4 cJ6_bitCount_0f7a4 1 (some .int) ∈ sn_gw := sn_gwI (lb_2 (lt_16 (lt_16 (lt_16 (lt_16 (lt_16 (lt_16 (lt_3 lt_h)))))))) gw_code
theorem km_RX0_108 : Cond.methodLink RX0 108 yJ6_bitCount_0f7a4 ∈ sn_gw := sn_gwI (lb_2 (lt_16 (lt_16 (lt_16 (lt_16 (lt_16 (lt_16 (lt_16 (lt_3 lt_h))))))))) gw_methodLink
theorem kst_J6_bitCount_0f7a4 : Cond.static yJ6_bitCount_0f7a4 ∈ sn_gw := sn_gwI (lb_2 (lt_16 (lt_16 (lt_16 (lt_16 (lt_16 (lt_16 (lt_2 lt_h)))))))) gw_static
theorem ki_RJ6 : Cond.initialized RJ6 ∈ sn_gw := sn_gwI (lb_0 (lt_16 (lt_2 lt_h))) gw_initialized
theorem kl_RX0_108 : sn_LS RX0 108 yJ6_bitCount_0f7a4 cJ6_bitCount_0f7a4 1 (some .int) 1 := ⟨sn_ls4 km_RX0_108 kst_J6_bitCount_0f7a4 ki_RJ6 kc_J6_bitCount_0f7a4, by decide +kernel⟩
theorem kf_RX2_24 : Cond.fieldLink RX2 24 (TX2 4).1 (TX2 4).2.1 (TX2 4).2.2.1 ∈ sn_gw := sn_gwI (lb_0 (lt_16 (lt_16 (lt_16 (lt_1 lt_h))))) gw_fieldLink
theorem fd_RX2_24 : sn_Fd RX2 24 2 4 := ⟨RX2, TX2, 6, rfl, ug_X2, by decide, kf_RX2_24⟩
theorem kf_RX1_9 : Cond.fieldLink RX1 9 (TX1 0).1 (TX1 0).2.1 (TX1 0).2.2.1 ∈ sn_gw := sn_gwI (lb_0 (lt_16 (lt_16 (lt_16 (lt_16 (lt_16 (lt_16 (lt_16 (lt_16 (lt_16 (lt_16 (lt_16 (lt_16 (lt_16 (lt_16 (lt_3 lt_h)))))))))))))))) gw_fieldLink
theorem fd_RX1_9 : sn_Fd RX1 9 1 0 := ⟨RX1, TX1, 2, rfl, ug_X1, by decide, kf_RX1_9⟩
theorem kf_RX1_51 : Cond.fieldLink RX1 51 (TX0 6).1 (TX0 6).2.1 (TX0 6).2.2.1 ∈ sn_gw := sn_gwI (lb_0 (lt_16 (lt_16 (lt_16 (lt_16 (lt_16 (lt_16 (lt_16 (lt_16 (lt_16 (lt_8 lt_h))))))))))) gw_fieldLink
theorem fd_RX1_51 : sn_Fd RX1 51 0 6 := ⟨RX0, TX0, 14, rfl, ug_X0, by decide, kf_RX1_51⟩
theorem kk_RX1_58 : Cond.constantLong RX1 58 (1073741824) ∈ sn_gw := sn_gwI (lb_3 (lt_16 (lt_16 (lt_16 (lt_16 (lt_16 (lt_16 (lt_16 (lt_12 lt_h))))))))) (by decide +kernel)
theorem kf_RX1_32 : Cond.fieldLink RX1 32 (TX1 1).1 (TX1 1).2.1 (TX1 1).2.2.1 ∈ sn_gw := sn_gwI (lb_0 (lt_16 (lt_16 (lt_16 (lt_16 (lt_16 (lt_16 (lt_16 (lt_16 (lt_16 (lt_16 (lt_16 (lt_16 (lt_16 (lt_16 (lt_4 lt_h)))))))))))))))) gw_fieldLink
theorem fd_RX1_32 : sn_Fd RX1 32 1 1 := ⟨RX1, TX1, 2, rfl, ug_X1, by decide, kf_RX1_32⟩
theorem km_RX1_55 : Cond.methodLink RX1 55 Lib.MathLoose.min_long.x ∈ sn_gw := sn_gwI (lb_3 (lt_16 (lt_16 (lt_16 (lt_16 (lt_16 (lt_16 (lt_16 (lt_9 lt_h))))))))) gw_methodLink
theorem kst_minL : Cond.static Lib.MathLoose.min_long.x ∈ sn_gw := sn_gwI (lb_3 (lt_16 (lt_16 (lt_16 (lt_16 (lt_16 (lt_16 (lt_16 (lt_10 lt_h))))))))) gw_static
theorem kc_minL : Cond.code Lib.MathLoose.min_long.x Lib.MathLoose.min_long.code 4 (some .long) ∈ sn_gw := sn_gwI (lb_3 (lt_16 (lt_16 (lt_16 (lt_16 (lt_16 (lt_16 (lt_16 (lt_11 lt_h))))))))) gw_code
theorem fp_RX1_32 : sn_Fp RX1 32 1 1 .long := ⟨RX1, TX1, 2, tyX1, rfl, ug_X1, by decide, kf_RX1_32, tyX1_ok, nmX1, rfl, by decide +kernel⟩
theorem km_RX1_48 : Cond.methodLink RX1 48 yX0_comesTo ∈ sn_gw := sn_gwI (lb_3 (lt_16 (lt_16 (lt_16 (lt_16 (lt_16 (lt_16 (lt_16 (lt_8 lt_h))))))))) gw_methodLink
theorem kl_RX1_48 : sn_LV RX1 48 yX0_comesTo cX0_comesTo 4 (some .int) 2 := ⟨sn_lv5 km_RX1_48 kin_X0_comesTo ks_X0_comesTo ki_RX0 kc_X0_comesTo, by decide +kernel⟩
theorem kf_RX1_21 : Cond.fieldLink RX1 21 (TX0 0).1 (TX0 0).2.1 (TX0 0).2.2.1 ∈ sn_gw := sn_gwI (lb_0 (lt_16 (lt_16 (lt_16 (lt_16 (lt_16 (lt_16 (lt_16 (lt_16 (lt_7 lt_h)))))))))) gw_fieldLink
theorem fd_RX1_21 : sn_Fd RX1 21 0 0 := ⟨RX0, TX0, 14, rfl, ug_X0, by decide, kf_RX1_21⟩
theorem kk_RX1_36 : Cond.constantLong RX1 36 (4611686018427387904) ∈ sn_gw := sn_gwI (lb_3 (lt_16 (lt_16 (lt_16 (lt_16 (lt_16 (lt_16 (lt_16 lt_h)))))))) (by decide +kernel)
theorem kc_X2_ofPolicy : Cond.code yX2_ofPolicy cX2_ofPolicy 3 (some .int) ∈ sn_gw := sn_gwI (lb_2 (lt_16 (lt_16 (lt_16 (lt_16 (lt_5 lt_h)))))) gw_code
theorem km_RX1_15 : Cond.methodLink RX1 15 yX2_ofPolicy ∈ sn_gw := sn_gwI (lb_3 (lt_16 (lt_16 (lt_16 (lt_16 (lt_16 (lt_16 (lt_14 lt_h)))))))) gw_methodLink
theorem kin_X2_ofPolicy : Cond.instanceMethod yX2_ofPolicy ∈ sn_gw := sn_gwI (lb_2 (lt_16 (lt_16 (lt_16 (lt_16 (lt_3 lt_h)))))) gw_instanceMethod
theorem ks_X2_ofPolicy : Cond.selects RX2 yX2_ofPolicy yX2_ofPolicy ∈ sn_gw := sn_gwI (lb_2 (lt_16 (lt_16 (lt_16 (lt_16 (lt_4 lt_h)))))) gw_selects
theorem kl_RX1_15 : sn_LV RX1 15 yX2_ofPolicy cX2_ofPolicy 3 (some .int) 2 := ⟨sn_lv5 km_RX1_15 kin_X2_ofPolicy ks_X2_ofPolicy ki_RX2 kc_X2_ofPolicy, by decide +kernel⟩
theorem kc_X1_goOn : Cond.code yX1_goOn cX1_goOn 10 none ∈ sn_gw := sn_gwI (lb_3 (lt_16 (lt_16 (lt_16 (lt_16 (lt_16 (lt_16 (lt_16 (lt_7 lt_h))))))))) gw_code
theorem km_RX1_44 : Cond.methodLink RX1 44 yX1_goOn ∈ sn_gw := sn_gwI (lb_3 (lt_16 (lt_16 (lt_16 (lt_16 (lt_16 (lt_16 (lt_16 (lt_4 lt_h))))))))) gw_methodLink
theorem kin_X1_goOn : Cond.instanceMethod yX1_goOn ∈ sn_gw := sn_gwI (lb_3 (lt_16 (lt_16 (lt_16 (lt_16 (lt_16 (lt_16 (lt_16 (lt_6 lt_h))))))))) gw_instanceMethod
theorem ks_X1_goOn : Cond.selects RX1 yX1_goOn yX1_goOn ∈ sn_gw := sn_gwS (q := (yX1_goOn, 2)) (List.mem_of_getElem? (i := 30) (by decide +kernel)) (by decide +kernel)
theorem ki_RX1 : Cond.initialized RX1 ∈ sn_gw := sn_gwI (lb_0 (lt_8 lt_h)) gw_initialized
theorem kl_RX1_44 : sn_LV RX1 44 yX1_goOn cX1_goOn 10 none 5 := ⟨sn_lv5 km_RX1_44 kin_X1_goOn ks_X1_goOn ki_RX1 kc_X1_goOn, by decide +kernel⟩
theorem km_RX1_27 : Cond.methodLink RX1 27 Lib.Math.min.name ∈ sn_gw := sn_gwI (lb_3 (lt_16 (lt_16 (lt_16 (lt_16 (lt_16 (lt_16 (lt_15 lt_h)))))))) gw_methodLink
theorem kc_J7_fill_d0a16 : Cond.code yJ7_fill_d0a16 cJ7_fill_d0a16 5 none ∈ sn_gw := sn_gwI (lb_3 (lt_16 (lt_16 (lt_16 (lt_16 (lt_16 (lt_16 (lt_16 (lt_3 lt_h))))))))) gw_code
theorem km_RX1_38 : Cond.methodLink RX1 38 yJ7_fill_d0a16 ∈ sn_gw := sn_gwI (lb_3 (lt_16 (lt_16 (lt_16 (lt_16 (lt_16 (lt_16 (lt_16 (lt_1 lt_h))))))))) gw_methodLink
theorem kst_J7_fill_d0a16 : Cond.static yJ7_fill_d0a16 ∈ sn_gw := sn_gwI (lb_3 (lt_16 (lt_16 (lt_16 (lt_16 (lt_16 (lt_16 (lt_16 (lt_2 lt_h))))))))) gw_static
theorem kl_RX1_38 : sn_LS RX1 38 yJ7_fill_d0a16 cJ7_fill_d0a16 5 none 2 := ⟨sn_ls4 km_RX1_38 kst_J7_fill_d0a16 ki_RJ7 kc_J7_fill_d0a16, by decide +kernel⟩
theorem km_RX2_30 : Cond.methodLink RX2 30 yJ7_fill_53178 ∈ sn_gw := sn_gwI (lb_1 (lt_16 (lt_16 (lt_16 (lt_16 (lt_16 (lt_16 (lt_13 lt_h)))))))) gw_methodLink
theorem kl_RX2_30 : sn_LS RX2 30 yJ7_fill_53178 cJ7_fill_53178 4 none 2 := ⟨sn_ls4 km_RX2_30 kst_J7_fill_53178 ki_RJ7 kc_J7_fill_53178, by decide +kernel⟩
theorem kf_RX2_15 : Cond.fieldLink RX2 15 (TX2 1).1 (TX2 1).2.1 (TX2 1).2.2.1 ∈ sn_gw := sn_gwI (lb_0 (lt_16 (lt_16 (lt_7 lt_h)))) gw_fieldLink
theorem fd_RX2_15 : sn_Fd RX2 15 2 1 := ⟨RX2, TX2, 6, rfl, ug_X2, by decide, kf_RX2_15⟩
theorem kf_RX2_18 : Cond.fieldLink RX2 18 (TX2 2).1 (TX2 2).2.1 (TX2 2).2.2.1 ∈ sn_gw := sn_gwI (lb_0 (lt_16 (lt_16 (lt_11 lt_h)))) gw_fieldLink
theorem fd_RX2_18 : sn_Fd RX2 18 2 2 := ⟨RX2, TX2, 6, rfl, ug_X2, by decide, kf_RX2_18⟩
theorem kf_RX2_21 : Cond.fieldLink RX2 21 (TX2 3).1 (TX2 3).2.1 (TX2 3).2.2.1 ∈ sn_gw := sn_gwI (lb_0 (lt_16 (lt_16 (lt_14 lt_h)))) gw_fieldLink
theorem fd_RX2_21 : sn_Fd RX2 21 2 3 := ⟨RX2, TX2, 6, rfl, ug_X2, by decide, kf_RX2_21⟩
theorem km_RX2_36 : Cond.methodLink RX2 36 arraycopyName ∈ sn_gw := sn_gwI (lb_1 (lt_16 (lt_16 (lt_16 (lt_16 (lt_16 (lt_16 (lt_16 (lt_16 (lt_16 (lt_16 (lt_16 (lt_16 (lt_16 (lt_16 (lt_14 lt_h)))))))))))))))) gw_methodLink
theorem kc_X2_window : Cond.code yX2_window cX2_window 3 (some .int) ∈ sn_gw := sn_gwI (lb_2 (lt_16 (lt_16 (lt_16 (lt_16 (lt_16 (lt_16 (lt_16 (lt_16 (lt_16 (lt_16 (lt_16 (lt_1 lt_h))))))))))))) gw_code
theorem km_RX3_54 : Cond.methodLink RX3 54 yX2_window ∈ sn_gw := sn_gwI (lb_3 (lt_6 lt_h)) gw_methodLink
theorem kin_X2_window : Cond.instanceMethod yX2_window ∈ sn_gw := sn_gwI (lb_2 (lt_16 (lt_16 (lt_16 (lt_16 (lt_16 (lt_16 (lt_16 (lt_16 (lt_16 (lt_16 (lt_15 lt_h)))))))))))) gw_instanceMethod
theorem ks_X2_window : Cond.selects RX2 yX2_window yX2_window ∈ sn_gw := sn_gwI (lb_2 (lt_16 (lt_16 (lt_16 (lt_16 (lt_16 (lt_16 (lt_16 (lt_16 (lt_16 (lt_16 (lt_16 lt_h)))))))))))) gw_selects
theorem kl_RX3_54 : sn_LV RX3 54 yX2_window cX2_window 3 (some .int) 1 := ⟨sn_lv5 km_RX3_54 kin_X2_window ks_X2_window ki_RX2 kc_X2_window, by decide +kernel⟩
theorem kc_X2_gustMinutes : Cond.code yX2_gustMinutes cX2_gustMinutes 3 (some .int) ∈ sn_gw := sn_gwI (lb_3 (lt_10 lt_h)) gw_code
theorem km_RX3_57 : Cond.methodLink RX3 57 yX2_gustMinutes ∈ sn_gw := sn_gwI (lb_3 (lt_7 lt_h)) gw_methodLink
theorem kin_X2_gustMinutes : Cond.instanceMethod yX2_gustMinutes ∈ sn_gw := sn_gwI (lb_3 (lt_8 lt_h)) gw_instanceMethod
theorem ks_X2_gustMinutes : Cond.selects RX2 yX2_gustMinutes yX2_gustMinutes ∈ sn_gw := sn_gwI (lb_3 (lt_9 lt_h)) gw_selects
theorem kl_RX3_57 : sn_LV RX3 57 yX2_gustMinutes cX2_gustMinutes 3 (some .int) 0 := ⟨sn_lv5 km_RX3_57 kin_X2_gustMinutes ks_X2_gustMinutes ki_RX2 kc_X2_gustMinutes, by decide +kernel⟩
theorem km_RX8_165 : Cond.methodLink RX8 165 yJ6_bitCount_0f7a4 ∈ sn_gw := sn_gwI (lb_2 (lt_16 (lt_16 (lt_16 (lt_16 (lt_16 (lt_16 (lt_1 lt_h)))))))) gw_methodLink
theorem kl_RX8_165 : sn_LS RX8 165 yJ6_bitCount_0f7a4 cJ6_bitCount_0f7a4 1 (some .int) 1 := ⟨sn_ls4 km_RX8_165 kst_J6_bitCount_0f7a4 ki_RJ6 kc_J6_bitCount_0f7a4, by decide +kernel⟩
theorem kc_X3_counting : Cond.code yX3_counting cX3_counting 5 (some .int) ∈ sn_gw := sn_gwI (lb_3 (lt_5 lt_h)) gw_code
theorem km_RX3_46 : Cond.methodLink RX3 46 yX3_counting ∈ sn_gw := sn_gwI (lb_3 (lt_3 lt_h)) gw_methodLink
theorem kst_X3_counting : Cond.static yX3_counting ∈ sn_gw := sn_gwI (lb_3 (lt_4 lt_h)) gw_static
theorem ki_RX3 : Cond.initialized RX3 ∈ sn_gw := sn_gwI (lb_0 (lt_7 lt_h)) gw_initialized
theorem kl_RX3_46 : sn_LS RX3 46 yX3_counting cX3_counting 5 (some .int) 4 := ⟨sn_ls4 km_RX3_46 kst_X3_counting ki_RX3 kc_X3_counting, by decide +kernel⟩
theorem km_RX3_30 : Cond.methodLink RX3 30 yX2_ofPolicy ∈ sn_gw := sn_gwI (lb_2 (lt_16 (lt_16 (lt_16 (lt_16 (lt_16 (lt_16 (lt_16 (lt_16 (lt_16 (lt_16 (lt_16 (lt_16 (lt_16 (lt_16 (lt_15 lt_h)))))))))))))))) gw_methodLink
theorem kl_RX3_30 : sn_LV RX3 30 yX2_ofPolicy cX2_ofPolicy 3 (some .int) 2 := ⟨sn_lv5 km_RX3_30 kin_X2_ofPolicy ks_X2_ofPolicy ki_RX2 kc_X2_ofPolicy, by decide +kernel⟩
theorem kc_X8_lowestBit : Cond.code yX8_lowestBit cX8_lowestBit 1 (some .int) ∈ sn_gw := sn_gwI (lb_2 (lt_16 (lt_16 (lt_16 (lt_16 (lt_16 (lt_16 lt_h))))))) gw_code
theorem kst_X8_lowestBit : Cond.static yX8_lowestBit ∈ sn_gw := sn_gwI (lb_2 (lt_16 (lt_16 (lt_16 (lt_16 (lt_16 (lt_15 lt_h))))))) gw_static
theorem kl_RX3_50 : sn_LN RX3 50 yX8_lowestBit RX8 cX8_lowestBit 1 (some .int) 1 := ⟨sn_cg kc_X8_lowestBit, (List.mem_of_getElem? (i := 11) rfl), kst_X8_lowestBit, ki_RX8, by decide +kernel⟩
theorem kl_RX3_71 : sn_LN RX3 71 yX8_firstMinutes RX8 cX8_firstMinutes 1 (some .int) 1 := ⟨sn_cg kc_X8_firstMinutes, (List.mem_of_getElem? (i := 12) rfl), kst_X8_firstMinutes, ki_RX8, by decide +kernel⟩
theorem km_RX3_61 : Cond.methodLink RX3 61 yJ6_bitCount_0f7a4 ∈ sn_gw := sn_gwI (lb_3 (lt_11 lt_h)) gw_methodLink
theorem kl_RX3_61 : sn_LS RX3 61 yJ6_bitCount_0f7a4 cJ6_bitCount_0f7a4 1 (some .int) 1 := ⟨sn_ls4 km_RX3_61 kst_J6_bitCount_0f7a4 ki_RJ6 kc_J6_bitCount_0f7a4, by decide +kernel⟩
theorem km_RX3_66 : Cond.methodLink RX3 66 Lib.Math.min.name ∈ sn_gw := sn_gwI (lb_3 (lt_12 lt_h)) gw_methodLink
theorem kf_RX3_18 : Cond.fieldLink RX3 18 (TX2 0).1 (TX2 0).2.1 (TX2 0).2.2.1 ∈ sn_gw := sn_gwI (lb_0 (lt_16 (lt_16 (lt_3 lt_h)))) gw_fieldLink
theorem fd_RX3_18 : sn_Fd RX3 18 2 0 := ⟨RX2, TX2, 6, rfl, ug_X2, by decide, kf_RX3_18⟩
theorem kf_RX3_23 : Cond.fieldLink RX3 23 (TX3 2).1 (TX3 2).2.1 (TX3 2).2.2.1 ∈ sn_gw := sn_gwI (lb_0 (lt_16 (lt_16 (lt_16 (lt_16 (lt_16 (lt_16 (lt_16 (lt_16 (lt_16 (lt_16 (lt_16 (lt_16 (lt_16 (lt_1 lt_h))))))))))))))) gw_fieldLink
theorem fd_RX3_23 : sn_Fd RX3 23 3 2 := ⟨RX3, TX3, 4, rfl, ug_X3, by decide, kf_RX3_23⟩
theorem kf_RX3_34 : Cond.fieldLink RX3 34 (TX0 13).1 (TX0 13).2.1 (TX0 13).2.2.1 ∈ sn_gw := sn_gwI (lb_0 (lt_16 (lt_16 (lt_16 (lt_16 (lt_16 (lt_16 (lt_16 (lt_16 (lt_16 (lt_16 (lt_5 lt_h)))))))))))) gw_fieldLink
theorem fd_RX3_34 : sn_Fd RX3 34 0 13 := ⟨RX0, TX0, 14, rfl, ug_X0, by decide, kf_RX3_34⟩
theorem kf_RX3_27 : Cond.fieldLink RX3 27 (TX3 3).1 (TX3 3).2.1 (TX3 3).2.2.1 ∈ sn_gw := sn_gwI (lb_0 (lt_16 (lt_16 (lt_16 (lt_16 (lt_16 (lt_16 (lt_16 (lt_16 (lt_16 (lt_16 (lt_16 (lt_16 (lt_16 (lt_3 lt_h))))))))))))))) gw_fieldLink
theorem fd_RX3_27 : sn_Fd RX3 27 3 3 := ⟨RX3, TX3, 4, rfl, ug_X3, by decide, kf_RX3_27⟩
theorem kf_RX3_9 : Cond.fieldLink RX3 9 (TX3 0).1 (TX3 0).2.1 (TX3 0).2.2.1 ∈ sn_gw := sn_gwI (lb_0 (lt_16 (lt_16 (lt_16 (lt_16 (lt_16 (lt_16 (lt_16 (lt_16 (lt_16 (lt_16 (lt_16 (lt_16 (lt_12 lt_h)))))))))))))) gw_fieldLink
theorem fd_RX3_9 : sn_Fd RX3 9 3 0 := ⟨RX3, TX3, 4, rfl, ug_X3, by decide, kf_RX3_9⟩
theorem kf_RX3_39 : Cond.fieldLink RX3 39 (TX0 7).1 (TX0 7).2.1 (TX0 7).2.2.1 ∈ sn_gw := sn_gwI (lb_0 (lt_16 (lt_16 (lt_16 (lt_16 (lt_16 (lt_16 (lt_16 (lt_16 (lt_16 (lt_11 lt_h))))))))))) gw_fieldLink
theorem fd_RX3_39 : sn_Fd RX3 39 0 7 := ⟨RX0, TX0, 14, rfl, ug_X0, by decide, kf_RX3_39⟩
theorem kf_RX3_15 : Cond.fieldLink RX3 15 (TX3 1).1 (TX3 1).2.1 (TX3 1).2.2.1 ∈ sn_gw := sn_gwI (lb_0 (lt_16 (lt_16 (lt_16 (lt_16 (lt_16 (lt_16 (lt_16 (lt_16 (lt_16 (lt_16 (lt_16 (lt_16 (lt_15 lt_h)))))))))))))) gw_fieldLink
theorem fd_RX3_15 : sn_Fd RX3 15 3 1 := ⟨RX3, TX3, 4, rfl, ug_X3, by decide, kf_RX3_15⟩
theorem fp_RX3_27 : sn_Fp RX3 27 3 3 .int := ⟨RX3, TX3, 4, tyX3, rfl, ug_X3, by decide, kf_RX3_27, tyX3_ok, nmX3, rfl, by decide +kernel⟩
theorem kc_X3_claimBy : Cond.code yX3_claimBy cX3_claimBy 8 (some .int) ∈ sn_gw := sn_gwI (lb_3 (lt_2 lt_h)) gw_code
theorem km_RX3_42 : Cond.methodLink RX3 42 yX3_claimBy ∈ sn_gw := sn_gwI (lb_3 lt_h) gw_methodLink
theorem kst_X3_claimBy : Cond.static yX3_claimBy ∈ sn_gw := sn_gwI (lb_3 (lt_1 lt_h)) gw_static
theorem kl_RX3_42 : sn_LS RX3 42 yX3_claimBy cX3_claimBy 8 (some .int) 5 := ⟨sn_ls4 km_RX3_42 kst_X3_claimBy ki_RX3 kc_X3_claimBy, by decide +kernel⟩
theorem fp_RX3_23 : sn_Fp RX3 23 3 2 .int := ⟨RX3, TX3, 4, tyX3, rfl, ug_X3, by decide, kf_RX3_23, tyX3_ok, nmX3, rfl, by decide +kernel⟩
theorem kc_X3_moneyAt : Cond.code yX3_moneyAt cX3_moneyAt 4 (some .int) ∈ sn_gw := sn_gwI (lb_3 (lt_16 (lt_16 (lt_3 lt_h)))) gw_code
theorem km_RX3_74 : Cond.methodLink RX3 74 yX3_moneyAt ∈ sn_gw := sn_gwI (lb_3 (lt_16 (lt_16 (lt_12 lt_h)))) gw_methodLink
theorem kin_X3_moneyAt : Cond.instanceMethod yX3_moneyAt ∈ sn_gw := sn_gwI (lb_3 (lt_16 (lt_16 (lt_1 lt_h)))) gw_instanceMethod
theorem ks_X3_moneyAt : Cond.selects RX3 yX3_moneyAt yX3_moneyAt ∈ sn_gw := sn_gwI (lb_3 (lt_16 (lt_16 (lt_2 lt_h)))) gw_selects
theorem kl_RX3_74 : sn_LV RX3 74 yX3_moneyAt cX3_moneyAt 4 (some .int) 1 := ⟨sn_lv5 km_RX3_74 kin_X3_moneyAt ks_X3_moneyAt ki_RX3 kc_X3_moneyAt, by decide +kernel⟩
theorem kf_RX4_9 : Cond.fieldLink RX4 9 (TX4 2).1 (TX4 2).2.1 (TX4 2).2.2.1 ∈ sn_gw := sn_gwI (lb_1 (lt_16 (lt_16 (lt_2 lt_h)))) gw_fieldLink
theorem fd_RX4_9 : sn_Fd RX4 9 4 2 := ⟨RX4, TX4, 5, rfl, ug_X4, by decide, kf_RX4_9⟩
theorem kf_RX4_25 : Cond.fieldLink RX4 25 (TX4 4).1 (TX4 4).2.1 (TX4 4).2.2.1 ∈ sn_gw := sn_gwI (lb_1 (lt_16 (lt_16 (lt_4 lt_h)))) gw_fieldLink
theorem fd_RX4_25 : sn_Fd RX4 25 4 4 := ⟨RX4, TX4, 5, rfl, ug_X4, by decide, kf_RX4_25⟩
theorem kf_RX4_18 : Cond.fieldLink RX4 18 (TX4 3).1 (TX4 3).2.1 (TX4 3).2.2.1 ∈ sn_gw := sn_gwI (lb_1 (lt_16 (lt_16 (lt_3 lt_h)))) gw_fieldLink
theorem fd_RX4_18 : sn_Fd RX4 18 4 3 := ⟨RX4, TX4, 5, rfl, ug_X4, by decide, kf_RX4_18⟩
theorem kf_RX4_29 : Cond.fieldLink RX4 29 (TX2 0).1 (TX2 0).2.1 (TX2 0).2.2.1 ∈ sn_gw := sn_gwI (lb_0 (lt_16 (lt_16 (lt_4 lt_h)))) gw_fieldLink
theorem fd_RX4_29 : sn_Fd RX4 29 2 0 := ⟨RX2, TX2, 6, rfl, ug_X2, by decide, kf_RX4_29⟩
theorem kf_RX4_89 : Cond.fieldLink RX4 89 (TX3 0).1 (TX3 0).2.1 (TX3 0).2.2.1 ∈ sn_gw := sn_gwI (lb_0 (lt_16 (lt_16 (lt_16 (lt_16 (lt_16 (lt_16 (lt_16 (lt_16 (lt_16 (lt_16 (lt_16 (lt_16 (lt_13 lt_h)))))))))))))) gw_fieldLink
theorem fd_RX4_89 : sn_Fd RX4 89 3 0 := ⟨RX3, TX3, 4, rfl, ug_X3, by decide, kf_RX4_89⟩
theorem kf_RX4_82 : Cond.fieldLink RX4 82 (TX0 13).1 (TX0 13).2.1 (TX0 13).2.2.1 ∈ sn_gw := sn_gwI (lb_0 (lt_16 (lt_16 (lt_16 (lt_16 (lt_16 (lt_16 (lt_16 (lt_16 (lt_16 (lt_16 (lt_6 lt_h)))))))))))) gw_fieldLink
theorem fd_RX4_82 : sn_Fd RX4 82 0 13 := ⟨RX0, TX0, 14, rfl, ug_X0, by decide, kf_RX4_82⟩
theorem kc_X3_reckon : Cond.code yX3_reckon cX3_reckon 7 none ∈ sn_gw := sn_gwI (lb_2 (lt_16 (lt_16 (lt_16 (lt_16 (lt_16 (lt_16 (lt_16 (lt_16 (lt_16 (lt_16 (lt_16 (lt_16 (lt_16 (lt_16 (lt_14 lt_h)))))))))))))))) gw_code
theorem km_RX4_85 : Cond.methodLink RX4 85 yX3_reckon ∈ sn_gw := sn_gwI (lb_4 (lt_10 lt_h)) gw_methodLink
theorem kin_X3_reckon : Cond.instanceMethod yX3_reckon ∈ sn_gw := sn_gwI (lb_2 (lt_16 (lt_16 (lt_16 (lt_16 (lt_16 (lt_16 (lt_16 (lt_16 (lt_16 (lt_16 (lt_16 (lt_16 (lt_16 (lt_16 (lt_12 lt_h)))))))))))))))) gw_instanceMethod
theorem ks_X3_reckon : Cond.selects RX3 yX3_reckon yX3_reckon ∈ sn_gw := sn_gwI (lb_2 (lt_16 (lt_16 (lt_16 (lt_16 (lt_16 (lt_16 (lt_16 (lt_16 (lt_16 (lt_16 (lt_16 (lt_16 (lt_16 (lt_16 (lt_13 lt_h)))))))))))))))) gw_selects
theorem kl_RX4_85 : sn_LV RX4 85 yX3_reckon cX3_reckon 7 none 3 := ⟨sn_lv5 km_RX4_85 kin_X3_reckon ks_X3_reckon ki_RX3 kc_X3_reckon, by decide +kernel⟩
theorem kc_X3_firstBelow : Cond.code yX3_firstBelow cX3_firstBelow 3 (some .int) ∈ sn_gw := sn_gwI (lb_3 (lt_16 (lt_16 (lt_16 (lt_4 lt_h))))) gw_code
theorem km_RX4_92 : Cond.methodLink RX4 92 yX3_firstBelow ∈ sn_gw := sn_gwI (lb_4 (lt_11 lt_h)) gw_methodLink
theorem kin_X3_firstBelow : Cond.instanceMethod yX3_firstBelow ∈ sn_gw := sn_gwI (lb_3 (lt_16 (lt_16 (lt_16 (lt_2 lt_h))))) gw_instanceMethod
theorem ks_X3_firstBelow : Cond.selects RX3 yX3_firstBelow yX3_firstBelow ∈ sn_gw := sn_gwI (lb_3 (lt_16 (lt_16 (lt_16 (lt_3 lt_h))))) gw_selects
theorem kl_RX4_92 : sn_LV RX4 92 yX3_firstBelow cX3_firstBelow 3 (some .int) 1 := ⟨sn_lv5 km_RX4_92 kin_X3_firstBelow ks_X3_firstBelow ki_RX3 kc_X3_firstBelow, by decide +kernel⟩
theorem kf_RX4_43 : Cond.fieldLink RX4 43 (TX4 0).1 (TX4 0).2.1 (TX4 0).2.2.1 ∈ sn_gw := sn_gwI (lb_1 (lt_16 (lt_14 lt_h))) gw_fieldLink
theorem fd_RX4_43 : sn_Fd RX4 43 4 0 := ⟨RX4, TX4, 5, rfl, ug_X4, by decide, kf_RX4_43⟩
theorem kf_RX4_74 : Cond.fieldLink RX4 74 (TX4 1).1 (TX4 1).2.1 (TX4 1).2.2.1 ∈ sn_gw := sn_gwI (lb_1 (lt_16 (lt_16 lt_h))) gw_fieldLink
theorem fd_RX4_74 : sn_Fd RX4 74 4 1 := ⟨RX4, TX4, 5, rfl, ug_X4, by decide, kf_RX4_74⟩
theorem fp_RX4_43 : sn_Fp RX4 43 4 0 .long := ⟨RX4, TX4, 5, tyX4, rfl, ug_X4, by decide, kf_RX4_43, tyX4_ok, nmX4, rfl, by decide +kernel⟩
theorem fp_RX4_74 : sn_Fp RX4 74 4 1 .long := ⟨RX4, TX4, 5, tyX4, rfl, ug_X4, by decide, kf_RX4_74, tyX4_ok, nmX4, rfl, by decide +kernel⟩
theorem kf_RX4_51 : Cond.fieldLink RX4 51 (TX0 4).1 (TX0 4).2.1 (TX0 4).2.2.1 ∈ sn_gw := sn_gwI (lb_0 (lt_16 (lt_16 (lt_16 (lt_16 (lt_16 (lt_16 (lt_16 (lt_16 (lt_16 (lt_2 lt_h))))))))))) gw_fieldLink
theorem fd_RX4_51 : sn_Fd RX4 51 0 4 := ⟨RX0, TX0, 14, rfl, ug_X0, by decide, kf_RX4_51⟩
theorem kf_RX4_58 : Cond.fieldLink RX4 58 (TX0 0).1 (TX0 0).2.1 (TX0 0).2.2.1 ∈ sn_gw := sn_gwI (lb_0 (lt_16 (lt_16 (lt_16 (lt_16 (lt_16 (lt_16 (lt_16 (lt_16 (lt_8 lt_h)))))))))) gw_fieldLink
theorem fd_RX4_58 : sn_Fd RX4 58 0 0 := ⟨RX0, TX0, 14, rfl, ug_X0, by decide, kf_RX4_58⟩
theorem kk_RX4_77 : Cond.constantLong RX4 77 (10) ∈ sn_gw := sn_gwI (lb_4 (lt_12 lt_h)) (by decide +kernel)
theorem kc_X4_lower : Cond.code yX4_lower cX4_lower 8 none ∈ sn_gw := sn_gwI (lb_4 (lt_16 lt_h)) gw_code
theorem km_RX4_79 : Cond.methodLink RX4 79 yX4_lower ∈ sn_gw := sn_gwI (lb_4 (lt_13 lt_h)) gw_methodLink
theorem kin_X4_lower : Cond.instanceMethod yX4_lower ∈ sn_gw := sn_gwI (lb_4 (lt_15 lt_h)) gw_instanceMethod
theorem ks_X4_lower : Cond.selects RX4 yX4_lower yX4_lower ∈ sn_gw := sn_gwS (q := (yX4_lower, 5)) (List.mem_of_getElem? (i := 39) (by decide +kernel)) (by decide +kernel)
theorem ki_RX4 : Cond.initialized RX4 ∈ sn_gw := sn_gwI (lb_0 (lt_10 lt_h)) gw_initialized
theorem kl_RX4_79 : sn_LV RX4 79 yX4_lower cX4_lower 8 none 0 := ⟨sn_lv5 km_RX4_79 kin_X4_lower ks_X4_lower ki_RX4 kc_X4_lower, by decide +kernel⟩
theorem km_RX4_62 : Cond.methodLink RX4 62 yX0_live ∈ sn_gw := sn_gwI (lb_4 (lt_4 lt_h)) gw_methodLink
theorem kl_RX4_62 : sn_LV RX4 62 yX0_live cX0_live 4 none 2 := ⟨sn_lv5 km_RX4_62 kin_X0_live ks_X0_live ki_RX0 kc_X0_live, by decide +kernel⟩
theorem km_RX4_65 : Cond.methodLink RX4 65 yJ6_bitCount_0f7a4 ∈ sn_gw := sn_gwI (lb_4 (lt_5 lt_h)) gw_methodLink
theorem kl_RX4_65 : sn_LS RX4 65 yJ6_bitCount_0f7a4 cJ6_bitCount_0f7a4 1 (some .int) 1 := ⟨sn_ls4 km_RX4_65 kst_J6_bitCount_0f7a4 ki_RJ6 kc_J6_bitCount_0f7a4, by decide +kernel⟩
theorem kc_X4_worth : Cond.code yX4_worth cX4_worth 5 (some .long) ∈ sn_gw := sn_gwI (lb_4 (lt_9 lt_h)) gw_code
theorem km_RX4_70 : Cond.methodLink RX4 70 yX4_worth ∈ sn_gw := sn_gwI (lb_4 (lt_6 lt_h)) gw_methodLink
theorem kin_X4_worth : Cond.instanceMethod yX4_worth ∈ sn_gw := sn_gwI (lb_4 (lt_8 lt_h)) gw_instanceMethod
theorem ks_X4_worth : Cond.selects RX4 yX4_worth yX4_worth ∈ sn_gw := sn_gwS (q := (yX4_worth, 5)) (List.mem_of_getElem? (i := 38) (by decide +kernel)) (by decide +kernel)
theorem kl_RX4_70 : sn_LV RX4 70 yX4_worth cX4_worth 5 (some .long) 4 := ⟨sn_lv5 km_RX4_70 kin_X4_worth ks_X4_worth ki_RX4 kc_X4_worth, by decide +kernel⟩
theorem kl_RX4_54 : sn_LN RX4 54 yX8_hasBit RX8 cX8_hasBit 2 (some .boolean) 2 := ⟨sn_cg kc_X8_hasBit, (List.mem_of_getElem? (i := 15) rfl), kst_X8_hasBit, ki_RX8, by decide +kernel⟩
theorem kl_RX4_47 : sn_LN RX4 47 yX8_lowestBit RX8 cX8_lowestBit 1 (some .int) 1 := ⟨sn_cg kc_X8_lowestBit, (List.mem_of_getElem? (i := 14) rfl), kst_X8_lowestBit, ki_RX8, by decide +kernel⟩
theorem kc_X4_weigh : Cond.code yX4_weigh cX4_weigh 7 none ∈ sn_gw := sn_gwI (lb_4 lt_h) gw_code
theorem km_RX4_35 : Cond.methodLink RX4 35 yX4_weigh ∈ sn_gw := sn_gwI (lb_3 (lt_16 (lt_16 (lt_16 (lt_16 (lt_16 (lt_16 (lt_16 (lt_16 (lt_16 (lt_16 (lt_16 (lt_16 (lt_16 (lt_16 (lt_13 lt_h)))))))))))))))) gw_methodLink
theorem kin_X4_weigh : Cond.instanceMethod yX4_weigh ∈ sn_gw := sn_gwI (lb_3 (lt_16 (lt_16 (lt_16 (lt_16 (lt_16 (lt_16 (lt_16 (lt_16 (lt_16 (lt_16 (lt_16 (lt_16 (lt_16 (lt_16 (lt_15 lt_h)))))))))))))))) gw_instanceMethod
theorem ks_X4_weigh : Cond.selects RX4 yX4_weigh yX4_weigh ∈ sn_gw := sn_gwS (q := (yX4_weigh, 5)) (List.mem_of_getElem? (i := 37) (by decide +kernel)) (by decide +kernel)
theorem kl_RX4_35 : sn_LV RX4 35 yX4_weigh cX4_weigh 7 none 2 := ⟨sn_lv5 km_RX4_35 kin_X4_weigh ks_X4_weigh ki_RX4 kc_X4_weigh, by decide +kernel⟩
theorem kc_X0_copyFrom : Cond.code yX0_copyFrom cX0_copyFrom 2 none ∈ sn_gw := sn_gwI (lb_2 (lt_16 (lt_16 (lt_16 (lt_16 (lt_16 (lt_16 (lt_16 (lt_16 (lt_16 (lt_16 (lt_16 (lt_16 (lt_1 lt_h)))))))))))))) gw_code
theorem km_RX4_39 : Cond.methodLink RX4 39 yX0_copyFrom ∈ sn_gw := sn_gwI (lb_4 (lt_1 lt_h)) gw_methodLink
theorem kin_X0_copyFrom : Cond.instanceMethod yX0_copyFrom ∈ sn_gw := sn_gwI (lb_2 (lt_16 (lt_16 (lt_16 (lt_16 (lt_16 (lt_16 (lt_16 (lt_16 (lt_16 (lt_16 (lt_16 (lt_15 lt_h))))))))))))) gw_instanceMethod
theorem ks_X0_copyFrom : Cond.selects RX0 yX0_copyFrom yX0_copyFrom ∈ sn_gw := sn_gwI (lb_2 (lt_16 (lt_16 (lt_16 (lt_16 (lt_16 (lt_16 (lt_16 (lt_16 (lt_16 (lt_16 (lt_16 (lt_16 lt_h))))))))))))) gw_selects
theorem kl_RX4_39 : sn_LV RX4 39 yX0_copyFrom cX0_copyFrom 2 none 1 := ⟨sn_lv5 km_RX4_39 kin_X0_copyFrom ks_X0_copyFrom ki_RX0 kc_X0_copyFrom, by decide +kernel⟩
theorem kf_RX5_19 : Cond.fieldLink RX5 19 (TX5 1).1 (TX5 1).2.1 (TX5 1).2.2.1 ∈ sn_gw := sn_gwI (lb_0 (lt_16 (lt_16 (lt_16 (lt_16 (lt_12 lt_h)))))) gw_fieldLink
theorem fd_RX5_19 : sn_Fd RX5 19 5 1 := ⟨RX5, TX5, 8, rfl, ug_X5, by decide, kf_RX5_19⟩
theorem kf_RX5_9 : Cond.fieldLink RX5 9 (TX5 0).1 (TX5 0).2.1 (TX5 0).2.2.1 ∈ sn_gw := sn_gwI (lb_0 (lt_16 (lt_16 (lt_16 (lt_16 (lt_10 lt_h)))))) gw_fieldLink
theorem fd_RX5_9 : sn_Fd RX5 9 5 0 := ⟨RX5, TX5, 8, rfl, ug_X5, by decide, kf_RX5_9⟩
theorem fp_RX5_19 : sn_Fp RX5 19 5 1 .int := ⟨RX5, TX5, 8, tyX5, rfl, ug_X5, by decide, kf_RX5_19, tyX5_ok, nmX5, rfl, by decide +kernel⟩
theorem kf_RX5_34 : Cond.fieldLink RX5 34 (TX5 5).1 (TX5 5).2.1 (TX5 5).2.2.1 ∈ sn_gw := sn_gwI (lb_0 (lt_16 (lt_16 (lt_16 (lt_16 (lt_16 (lt_2 lt_h))))))) gw_fieldLink
theorem fd_RX5_34 : sn_Fd RX5 34 5 5 := ⟨RX5, TX5, 8, rfl, ug_X5, by decide, kf_RX5_34⟩
theorem kf_RX5_131 : Cond.fieldLink RX5 131 (TX5 4).1 (TX5 4).2.1 (TX5 4).2.2.1 ∈ sn_gw := sn_gwI (lb_0 (lt_16 (lt_16 (lt_16 (lt_16 (lt_16 (lt_1 lt_h))))))) gw_fieldLink
theorem fd_RX5_131 : sn_Fd RX5 131 5 4 := ⟨RX5, TX5, 8, rfl, ug_X5, by decide, kf_RX5_131⟩
theorem kf_RX5_40 : Cond.fieldLink RX5 40 (TX5 6).1 (TX5 6).2.1 (TX5 6).2.2.1 ∈ sn_gw := sn_gwI (lb_0 (lt_16 (lt_16 (lt_16 (lt_16 (lt_16 (lt_3 lt_h))))))) gw_fieldLink
theorem fd_RX5_40 : sn_Fd RX5 40 5 6 := ⟨RX5, TX5, 8, rfl, ug_X5, by decide, kf_RX5_40⟩
theorem kc_X5_kindAt : Cond.code yX5_kindAt cX5_kindAt 3 (some .int) ∈ sn_gw := sn_gwI (lb_1 (lt_16 (lt_16 (lt_16 (lt_16 (lt_16 (lt_16 (lt_16 (lt_5 lt_h))))))))) gw_code
theorem km_RX5_148 : Cond.methodLink RX5 148 yX5_kindAt ∈ sn_gw := sn_gwI (lb_1 (lt_16 (lt_16 (lt_16 (lt_16 (lt_16 (lt_16 (lt_16 (lt_2 lt_h))))))))) gw_methodLink
theorem kin_X5_kindAt : Cond.instanceMethod yX5_kindAt ∈ sn_gw := sn_gwI (lb_1 (lt_16 (lt_16 (lt_16 (lt_16 (lt_16 (lt_16 (lt_16 (lt_4 lt_h))))))))) gw_instanceMethod
theorem ks_X5_kindAt : Cond.selects RX5 yX5_kindAt yX5_kindAt ∈ sn_gw := sn_gwS (q := (yX5_kindAt, 8)) (List.mem_of_getElem? (i := 1) (by decide +kernel)) (by decide +kernel)
theorem ki_RX5 : Cond.initialized RX5 ∈ sn_gw := sn_gwI (lb_0 (lt_3 lt_h)) gw_initialized
theorem kl_RX5_148 : sn_LV RX5 148 yX5_kindAt cX5_kindAt 3 (some .int) 1 := ⟨sn_lv5 km_RX5_148 kin_X5_kindAt ks_X5_kindAt ki_RX5 kc_X5_kindAt, by decide +kernel⟩
theorem fp_RX5_34 : sn_Fp RX5 34 5 5 .int := ⟨RX5, TX5, 8, tyX5, rfl, ug_X5, by decide, kf_RX5_34, tyX5_ok, nmX5, rfl, by decide +kernel⟩
theorem fp_RX5_40 : sn_Fp RX5 40 5 6 .int := ⟨RX5, TX5, 8, tyX5, rfl, ug_X5, by decide, kf_RX5_40, tyX5_ok, nmX5, rfl, by decide +kernel⟩
theorem km_RX5_134 : Cond.methodLink RX5 134 Lib.Math.min.name ∈ sn_gw := sn_gwI (lb_1 (lt_16 (lt_16 (lt_16 (lt_16 (lt_16 (lt_16 (lt_16 (lt_6 lt_h))))))))) gw_methodLink
theorem fp_RX5_131 : sn_Fp RX5 131 5 4 .int := ⟨RX5, TX5, 8, tyX5, rfl, ug_X5, by decide, kf_RX5_131, tyX5_ok, nmX5, rfl, by decide +kernel⟩
theorem km_RX5_144 : Cond.methodLink RX5 144 yJ0_charAt_5068e ∈ sn_gw := sn_gwI (lb_1 (lt_16 (lt_16 (lt_16 (lt_16 (lt_16 (lt_16 (lt_16 (lt_16 (lt_16 lt_h)))))))))) gw_methodLink
theorem kl_RX5_144 : sn_LV RX5 144 yJ0_charAt_5068e cJ0_charAt_5068e 2 (some .char) 1 := ⟨sn_lv5 km_RX5_144 kin_J0_charAt_5068e ks_J0_charAt_5068e ki_RJ0 kc_J0_charAt_5068e, by decide +kernel⟩
theorem km_RX5_140 : Cond.methodLink RX5 140 yJ0_length_8abf5 ∈ sn_gw := sn_gwI (lb_1 (lt_16 (lt_16 (lt_16 (lt_16 (lt_16 (lt_16 (lt_16 (lt_16 (lt_6 lt_h)))))))))) gw_methodLink
theorem kl_RX5_140 : sn_LV RX5 140 yJ0_length_8abf5 cJ0_length_8abf5 1 (some .int) 0 := ⟨sn_lv5 km_RX5_140 kin_J0_length_8abf5 ks_J0_length_8abf5 ki_RJ0 kc_J0_length_8abf5, by decide +kernel⟩
theorem kf_RX5_31 : Cond.fieldLink RX5 31 (TX5 2).1 (TX5 2).2.1 (TX5 2).2.2.1 ∈ sn_gw := sn_gwI (lb_0 (lt_16 (lt_16 (lt_16 (lt_16 (lt_13 lt_h)))))) gw_fieldLink
theorem fd_RX5_31 : sn_Fd RX5 31 5 2 := ⟨RX5, TX5, 8, rfl, ug_X5, by decide, kf_RX5_31⟩
theorem fp_RX5_31 : sn_Fp RX5 31 5 2 .int := ⟨RX5, TX5, 8, tyX5, rfl, ug_X5, by decide, kf_RX5_31, tyX5_ok, nmX5, rfl, by decide +kernel⟩
theorem kf_RX5_15 : Cond.fieldLink RX5 15 (TX5 3).1 (TX5 3).2.1 (TX5 3).2.2.1 ∈ sn_gw := sn_gwI (lb_0 (lt_16 (lt_16 (lt_16 (lt_16 (lt_15 lt_h)))))) gw_fieldLink
theorem fp_RX5_15 : sn_Fp RX5 15 5 3 .int := ⟨RX5, TX5, 8, tyX5, rfl, ug_X5, by decide, kf_RX5_15, tyX5_ok, nmX5, rfl, by decide +kernel⟩
theorem kc_X5_isWord : Cond.code yX5_isWord cX5_isWord 3 (some .boolean) ∈ sn_gw := sn_gwI (lb_1 (lt_16 (lt_16 (lt_16 (lt_16 (lt_16 (lt_16 (lt_16 (lt_16 (lt_5 lt_h)))))))))) gw_code
theorem km_RX5_77 : Cond.methodLink RX5 77 yX5_isWord ∈ sn_gw := sn_gwI (lb_1 (lt_16 (lt_16 (lt_16 (lt_16 (lt_16 (lt_16 (lt_16 (lt_16 (lt_2 lt_h)))))))))) gw_methodLink
theorem kin_X5_isWord : Cond.instanceMethod yX5_isWord ∈ sn_gw := sn_gwI (lb_1 (lt_16 (lt_16 (lt_16 (lt_16 (lt_16 (lt_16 (lt_16 (lt_16 (lt_4 lt_h)))))))))) gw_instanceMethod
theorem ks_X5_isWord : Cond.selects RX5 yX5_isWord yX5_isWord ∈ sn_gw := sn_gwS (q := (yX5_isWord, 8)) (List.mem_of_getElem? (i := 4) (by decide +kernel)) (by decide +kernel)
theorem kl_RX5_77 : sn_LV RX5 77 yX5_isWord cX5_isWord 3 (some .boolean) 1 := ⟨sn_lv5 km_RX5_77 kin_X5_isWord ks_X5_isWord ki_RX5 kc_X5_isWord, by decide +kernel⟩
theorem kc_X5_blame : Cond.code yX5_blame cX5_blame 2 none ∈ sn_gw := sn_gwI (lb_1 (lt_16 (lt_16 (lt_16 (lt_16 (lt_16 (lt_16 (lt_16 (lt_16 (lt_16 (lt_16 (lt_16 (lt_9 lt_h))))))))))))) gw_code
theorem km_RX5_100 : Cond.methodLink RX5 100 yX5_blame ∈ sn_gw := sn_gwI (lb_1 (lt_16 (lt_16 (lt_16 (lt_16 (lt_16 (lt_16 (lt_16 (lt_16 (lt_16 (lt_16 (lt_16 (lt_6 lt_h))))))))))))) gw_methodLink
theorem kin_X5_blame : Cond.instanceMethod yX5_blame ∈ sn_gw := sn_gwI (lb_1 (lt_16 (lt_16 (lt_16 (lt_16 (lt_16 (lt_16 (lt_16 (lt_16 (lt_16 (lt_16 (lt_16 (lt_8 lt_h))))))))))))) gw_instanceMethod
theorem ks_X5_blame : Cond.selects RX5 yX5_blame yX5_blame ∈ sn_gw := sn_gwS (q := (yX5_blame, 8)) (List.mem_of_getElem? (i := 5) (by decide +kernel)) (by decide +kernel)
theorem kl_RX5_100 : sn_LV RX5 100 yX5_blame cX5_blame 2 none 1 := ⟨sn_lv5 km_RX5_100 kin_X5_blame ks_X5_blame ki_RX5 kc_X5_blame, by decide +kernel⟩
theorem kc_X5_step : Cond.code yX5_step cX5_step 1 none ∈ sn_gw := sn_gwI (lb_1 (lt_16 (lt_16 (lt_16 (lt_16 (lt_16 (lt_16 (lt_16 (lt_1 lt_h))))))))) gw_code
theorem km_RX5_37 : Cond.methodLink RX5 37 yX5_step ∈ sn_gw := sn_gwI (lb_1 (lt_16 (lt_16 (lt_16 (lt_16 (lt_16 (lt_16 (lt_14 lt_h)))))))) gw_methodLink
theorem kin_X5_step : Cond.instanceMethod yX5_step ∈ sn_gw := sn_gwI (lb_1 (lt_16 (lt_16 (lt_16 (lt_16 (lt_16 (lt_16 (lt_16 lt_h)))))))) gw_instanceMethod
theorem ks_X5_step : Cond.selects RX5 yX5_step yX5_step ∈ sn_gw := sn_gwS (q := (yX5_step, 8)) (List.mem_of_getElem? (i := 0) (by decide +kernel)) (by decide +kernel)
theorem kl_RX5_37 : sn_LV RX5 37 yX5_step cX5_step 1 none 0 := ⟨sn_lv5 km_RX5_37 kin_X5_step ks_X5_step ki_RX5 kc_X5_step, by decide +kernel⟩
theorem kk_RX5_133 : Cond.constant RX5 133 (1000000) ∈ sn_gw := sn_gwI (lb_1 (lt_16 (lt_16 (lt_16 (lt_16 (lt_16 (lt_16 (lt_16 (lt_16 (lt_16 (lt_16 (lt_16 (lt_16 (lt_3 lt_h)))))))))))))) (by decide +kernel)
theorem kc_X5_value : Cond.code yX5_value cX5_value 3 (some .int) ∈ sn_gw := sn_gwI (lb_1 (lt_16 (lt_16 (lt_16 (lt_16 (lt_16 (lt_16 (lt_16 (lt_16 (lt_16 (lt_16 (lt_16 (lt_16 (lt_2 lt_h)))))))))))))) gw_code
theorem km_RX5_127 : Cond.methodLink RX5 127 yX5_value ∈ sn_gw := sn_gwI (lb_1 (lt_16 (lt_16 (lt_16 (lt_16 (lt_16 (lt_16 (lt_16 (lt_16 (lt_16 (lt_16 (lt_16 (lt_15 lt_h))))))))))))) gw_methodLink
theorem kin_X5_value : Cond.instanceMethod yX5_value ∈ sn_gw := sn_gwI (lb_1 (lt_16 (lt_16 (lt_16 (lt_16 (lt_16 (lt_16 (lt_16 (lt_16 (lt_16 (lt_16 (lt_16 (lt_16 (lt_1 lt_h)))))))))))))) gw_instanceMethod
theorem ks_X5_value : Cond.selects RX5 yX5_value yX5_value ∈ sn_gw := sn_gwS (q := (yX5_value, 8)) (List.mem_of_getElem? (i := 7) (by decide +kernel)) (by decide +kernel)
theorem kl_RX5_127 : sn_LV RX5 127 yX5_value cX5_value 3 (some .int) 0 := ⟨sn_lv5 km_RX5_127 kin_X5_value ks_X5_value ki_RX5 kc_X5_value, by decide +kernel⟩
theorem kf_RX5_22 : Cond.fieldLink RX5 22 (TX5 7).1 (TX5 7).2.1 (TX5 7).2.2.1 ∈ sn_gw := sn_gwI (lb_0 (lt_16 (lt_16 (lt_16 (lt_16 (lt_16 (lt_4 lt_h))))))) gw_fieldLink
theorem fd_RX5_22 : sn_Fd RX5 22 5 7 := ⟨RX5, TX5, 8, rfl, ug_X5, by decide, kf_RX5_22⟩
theorem kf_RX5_49 : Cond.fieldLink RX5 49 (TX2 0).1 (TX2 0).2.1 (TX2 0).2.2.1 ∈ sn_gw := sn_gwI (lb_0 (lt_16 (lt_16 (lt_5 lt_h)))) gw_fieldLink
theorem fd_RX5_49 : sn_Fd RX5 49 2 0 := ⟨RX2, TX2, 6, rfl, ug_X2, by decide, kf_RX5_49⟩
theorem kc_X5_word : Cond.code yX5_word cX5_word 2 none ∈ sn_gw := sn_gwI (lb_1 (lt_16 (lt_16 (lt_16 (lt_16 (lt_16 (lt_16 (lt_16 (lt_16 (lt_1 lt_h)))))))))) gw_code
theorem km_RX5_54 : Cond.methodLink RX5 54 yX5_word ∈ sn_gw := sn_gwI (lb_1 (lt_16 (lt_16 (lt_16 (lt_16 (lt_16 (lt_16 (lt_16 (lt_14 lt_h))))))))) gw_methodLink
theorem kin_X5_word : Cond.instanceMethod yX5_word ∈ sn_gw := sn_gwI (lb_1 (lt_16 (lt_16 (lt_16 (lt_16 (lt_16 (lt_16 (lt_16 (lt_16 lt_h))))))))) gw_instanceMethod
theorem ks_X5_word : Cond.selects RX5 yX5_word yX5_word ∈ sn_gw := sn_gwS (q := (yX5_word, 8)) (List.mem_of_getElem? (i := 3) (by decide +kernel)) (by decide +kernel)
theorem kl_RX5_54 : sn_LV RX5 54 yX5_word cX5_word 2 none 1 := ⟨sn_lv5 km_RX5_54 kin_X5_word ks_X5_word ki_RX5 kc_X5_word, by decide +kernel⟩
theorem kc_X5_number : Cond.code yX5_number cX5_number 5 (some .int) ∈ sn_gw := sn_gwI (lb_1 (lt_16 (lt_16 (lt_16 (lt_16 (lt_16 (lt_16 (lt_16 (lt_16 (lt_16 (lt_16 (lt_16 (lt_14 lt_h))))))))))))) gw_code
theorem km_RX5_60 : Cond.methodLink RX5 60 yX5_number ∈ sn_gw := sn_gwI (lb_1 (lt_16 (lt_16 (lt_16 (lt_16 (lt_16 (lt_16 (lt_16 (lt_16 (lt_16 (lt_16 (lt_16 (lt_11 lt_h))))))))))))) gw_methodLink
theorem kin_X5_number : Cond.instanceMethod yX5_number ∈ sn_gw := sn_gwI (lb_1 (lt_16 (lt_16 (lt_16 (lt_16 (lt_16 (lt_16 (lt_16 (lt_16 (lt_16 (lt_16 (lt_16 (lt_13 lt_h))))))))))))) gw_instanceMethod
theorem ks_X5_number : Cond.selects RX5 yX5_number yX5_number ∈ sn_gw := sn_gwS (q := (yX5_number, 8)) (List.mem_of_getElem? (i := 6) (by decide +kernel)) (by decide +kernel)
theorem kl_RX5_60 : sn_LV RX5 60 yX5_number cX5_number 5 (some .int) 3 := ⟨sn_lv5 km_RX5_60 kin_X5_number ks_X5_number ki_RX5 kc_X5_number, by decide +kernel⟩
theorem kc_X5_sign : Cond.code yX5_sign cX5_sign 1 none ∈ sn_gw := sn_gwI (lb_1 (lt_16 (lt_16 (lt_16 (lt_16 (lt_16 (lt_16 (lt_16 (lt_16 (lt_16 (lt_16 (lt_16 (lt_16 (lt_11 lt_h)))))))))))))) gw_code
theorem km_RX5_72 : Cond.methodLink RX5 72 yX5_sign ∈ sn_gw := sn_gwI (lb_1 (lt_16 (lt_16 (lt_16 (lt_16 (lt_16 (lt_16 (lt_16 (lt_16 (lt_16 (lt_16 (lt_16 (lt_16 (lt_8 lt_h)))))))))))))) gw_methodLink
theorem kin_X5_sign : Cond.instanceMethod yX5_sign ∈ sn_gw := sn_gwI (lb_1 (lt_16 (lt_16 (lt_16 (lt_16 (lt_16 (lt_16 (lt_16 (lt_16 (lt_16 (lt_16 (lt_16 (lt_16 (lt_10 lt_h)))))))))))))) gw_instanceMethod
theorem ks_X5_sign : Cond.selects RX5 yX5_sign yX5_sign ∈ sn_gw := sn_gwS (q := (yX5_sign, 8)) (List.mem_of_getElem? (i := 8) (by decide +kernel)) (by decide +kernel)
theorem kl_RX5_72 : sn_LV RX5 72 yX5_sign cX5_sign 1 none 0 := ⟨sn_lv5 km_RX5_72 kin_X5_sign ks_X5_sign ki_RX5 kc_X5_sign, by decide +kernel⟩
theorem kf_RX5_103 : Cond.fieldLink RX5 103 (TX2 1).1 (TX2 1).2.1 (TX2 1).2.2.1 ∈ sn_gw := sn_gwI (lb_0 (lt_16 (lt_16 (lt_9 lt_h)))) gw_fieldLink
theorem fd_RX5_103 : sn_Fd RX5 103 2 1 := ⟨RX2, TX2, 6, rfl, ug_X2, by decide, kf_RX5_103⟩
theorem kf_RX5_108 : Cond.fieldLink RX5 108 (TX2 2).1 (TX2 2).2.1 (TX2 2).2.2.1 ∈ sn_gw := sn_gwI (lb_0 (lt_16 (lt_16 (lt_13 lt_h)))) gw_fieldLink
theorem fd_RX5_108 : sn_Fd RX5 108 2 2 := ⟨RX2, TX2, 6, rfl, ug_X2, by decide, kf_RX5_108⟩
theorem kf_RX5_113 : Cond.fieldLink RX5 113 (TX2 3).1 (TX2 3).2.1 (TX2 3).2.2.1 ∈ sn_gw := sn_gwI (lb_0 (lt_16 (lt_16 (lt_16 lt_h)))) gw_fieldLink
theorem fd_RX5_113 : sn_Fd RX5 113 2 3 := ⟨RX2, TX2, 6, rfl, ug_X2, by decide, kf_RX5_113⟩
theorem kf_RX5_116 : Cond.fieldLink RX5 116 (TX2 4).1 (TX2 4).2.1 (TX2 4).2.2.1 ∈ sn_gw := sn_gwI (lb_0 (lt_16 (lt_16 (lt_16 (lt_2 lt_h))))) gw_fieldLink
theorem fd_RX5_116 : sn_Fd RX5 116 2 4 := ⟨RX2, TX2, 6, rfl, ug_X2, by decide, kf_RX5_116⟩
theorem kc_X5_readPolicy : Cond.code yX5_readPolicy cX5_readPolicy 4 none ∈ sn_gw := sn_gwI (lb_1 (lt_16 (lt_16 (lt_16 (lt_16 (lt_16 (lt_16 (lt_16 (lt_16 (lt_16 (lt_16 (lt_16 (lt_16 (lt_16 (lt_16 (lt_5 lt_h)))))))))))))))) gw_code
theorem km_RX5_97 : Cond.methodLink RX5 97 yX5_readPolicy ∈ sn_gw := sn_gwI (lb_1 (lt_16 (lt_16 (lt_16 (lt_16 (lt_16 (lt_16 (lt_16 (lt_16 (lt_16 (lt_16 (lt_16 (lt_16 (lt_16 (lt_16 (lt_2 lt_h)))))))))))))))) gw_methodLink
theorem kin_X5_readPolicy : Cond.instanceMethod yX5_readPolicy ∈ sn_gw := sn_gwI (lb_1 (lt_16 (lt_16 (lt_16 (lt_16 (lt_16 (lt_16 (lt_16 (lt_16 (lt_16 (lt_16 (lt_16 (lt_16 (lt_16 (lt_16 (lt_4 lt_h)))))))))))))))) gw_instanceMethod
theorem ks_X5_readPolicy : Cond.selects RX5 yX5_readPolicy yX5_readPolicy ∈ sn_gw := sn_gwS (q := (yX5_readPolicy, 8)) (List.mem_of_getElem? (i := 13) (by decide +kernel)) (by decide +kernel)
theorem kl_RX5_97 : sn_LV RX5 97 yX5_readPolicy cX5_readPolicy 4 none 1 := ⟨sn_lv5 km_RX5_97 kin_X5_readPolicy ks_X5_readPolicy ki_RX5 kc_X5_readPolicy, by decide +kernel⟩
theorem kc_X5_readNet : Cond.code yX5_readNet cX5_readNet 3 none ∈ sn_gw := sn_gwI (lb_1 (lt_16 (lt_16 (lt_16 (lt_16 (lt_16 (lt_16 (lt_16 (lt_16 (lt_16 (lt_16 (lt_16 (lt_16 (lt_16 (lt_16 lt_h))))))))))))))) gw_code
theorem km_RX5_92 : Cond.methodLink RX5 92 yX5_readNet ∈ sn_gw := sn_gwI (lb_1 (lt_16 (lt_16 (lt_16 (lt_16 (lt_16 (lt_16 (lt_16 (lt_16 (lt_16 (lt_16 (lt_16 (lt_16 (lt_16 (lt_13 lt_h))))))))))))))) gw_methodLink
theorem kin_X5_readNet : Cond.instanceMethod yX5_readNet ∈ sn_gw := sn_gwI (lb_1 (lt_16 (lt_16 (lt_16 (lt_16 (lt_16 (lt_16 (lt_16 (lt_16 (lt_16 (lt_16 (lt_16 (lt_16 (lt_16 (lt_15 lt_h))))))))))))))) gw_instanceMethod
theorem ks_X5_readNet : Cond.selects RX5 yX5_readNet yX5_readNet ∈ sn_gw := sn_gwS (q := (yX5_readNet, 8)) (List.mem_of_getElem? (i := 12) (by decide +kernel)) (by decide +kernel)
theorem kl_RX5_92 : sn_LV RX5 92 yX5_readNet cX5_readNet 3 none 1 := ⟨sn_lv5 km_RX5_92 kin_X5_readNet ks_X5_readNet ki_RX5 kc_X5_readNet, by decide +kernel⟩
theorem kc_X5_readGust : Cond.code yX5_readGust cX5_readGust 2 none ∈ sn_gw := sn_gwI (lb_1 (lt_16 (lt_16 (lt_16 (lt_16 (lt_16 (lt_16 (lt_16 (lt_16 (lt_16 (lt_16 (lt_16 (lt_16 (lt_16 (lt_10 lt_h))))))))))))))) gw_code
theorem km_RX5_87 : Cond.methodLink RX5 87 yX5_readGust ∈ sn_gw := sn_gwI (lb_1 (lt_16 (lt_16 (lt_16 (lt_16 (lt_16 (lt_16 (lt_16 (lt_16 (lt_16 (lt_16 (lt_16 (lt_16 (lt_16 (lt_7 lt_h))))))))))))))) gw_methodLink
theorem kin_X5_readGust : Cond.instanceMethod yX5_readGust ∈ sn_gw := sn_gwI (lb_1 (lt_16 (lt_16 (lt_16 (lt_16 (lt_16 (lt_16 (lt_16 (lt_16 (lt_16 (lt_16 (lt_16 (lt_16 (lt_16 (lt_9 lt_h))))))))))))))) gw_instanceMethod
theorem ks_X5_readGust : Cond.selects RX5 yX5_readGust yX5_readGust ∈ sn_gw := sn_gwS (q := (yX5_readGust, 8)) (List.mem_of_getElem? (i := 11) (by decide +kernel)) (by decide +kernel)
theorem kl_RX5_87 : sn_LV RX5 87 yX5_readGust cX5_readGust 2 none 1 := ⟨sn_lv5 km_RX5_87 kin_X5_readGust ks_X5_readGust ki_RX5 kc_X5_readGust, by decide +kernel⟩
theorem kc_X5_readNose : Cond.code yX5_readNose cX5_readNose 2 none ∈ sn_gw := sn_gwI (lb_1 (lt_16 (lt_16 (lt_16 (lt_16 (lt_16 (lt_16 (lt_16 (lt_16 (lt_16 (lt_16 (lt_16 (lt_16 (lt_16 (lt_4 lt_h))))))))))))))) gw_code
theorem km_RX5_81 : Cond.methodLink RX5 81 yX5_readNose ∈ sn_gw := sn_gwI (lb_1 (lt_16 (lt_16 (lt_16 (lt_16 (lt_16 (lt_16 (lt_16 (lt_16 (lt_16 (lt_16 (lt_16 (lt_16 (lt_16 (lt_1 lt_h))))))))))))))) gw_methodLink
theorem kin_X5_readNose : Cond.instanceMethod yX5_readNose ∈ sn_gw := sn_gwI (lb_1 (lt_16 (lt_16 (lt_16 (lt_16 (lt_16 (lt_16 (lt_16 (lt_16 (lt_16 (lt_16 (lt_16 (lt_16 (lt_16 (lt_3 lt_h))))))))))))))) gw_instanceMethod
theorem ks_X5_readNose : Cond.selects RX5 yX5_readNose yX5_readNose ∈ sn_gw := sn_gwS (q := (yX5_readNose, 8)) (List.mem_of_getElem? (i := 10) (by decide +kernel)) (by decide +kernel)
theorem kl_RX5_81 : sn_LV RX5 81 yX5_readNose cX5_readNose 2 none 1 := ⟨sn_lv5 km_RX5_81 kin_X5_readNose ks_X5_readNose ki_RX5 kc_X5_readNose, by decide +kernel⟩
theorem kc_X5_readLine : Cond.code yX5_readLine cX5_readLine 1 none ∈ sn_gw := sn_gwI (lb_1 (lt_16 (lt_16 (lt_16 (lt_16 (lt_16 (lt_16 (lt_16 (lt_16 (lt_16 (lt_16 (lt_16 (lt_16 (lt_15 lt_h)))))))))))))) gw_code
theorem km_RX5_46 : Cond.methodLink RX5 46 yX5_readLine ∈ sn_gw := sn_gwI (lb_1 (lt_16 (lt_16 (lt_16 (lt_16 (lt_16 (lt_16 (lt_16 (lt_16 (lt_16 (lt_16 (lt_16 (lt_16 (lt_12 lt_h)))))))))))))) gw_methodLink
theorem kin_X5_readLine : Cond.instanceMethod yX5_readLine ∈ sn_gw := sn_gwI (lb_1 (lt_16 (lt_16 (lt_16 (lt_16 (lt_16 (lt_16 (lt_16 (lt_16 (lt_16 (lt_16 (lt_16 (lt_16 (lt_14 lt_h)))))))))))))) gw_instanceMethod
theorem ks_X5_readLine : Cond.selects RX5 yX5_readLine yX5_readLine ∈ sn_gw := sn_gwS (q := (yX5_readLine, 8)) (List.mem_of_getElem? (i := 9) (by decide +kernel)) (by decide +kernel)
theorem kl_RX5_46 : sn_LV RX5 46 yX5_readLine cX5_readLine 1 none 0 := ⟨sn_lv5 km_RX5_46 kin_X5_readLine ks_X5_readLine ki_RX5 kc_X5_readLine, by decide +kernel⟩
theorem kc_X5_readHouse : Cond.code yX5_readHouse cX5_readHouse 1 none ∈ sn_gw := sn_gwI (lb_1 (lt_16 (lt_16 (lt_16 (lt_16 (lt_16 (lt_16 (lt_16 (lt_12 lt_h))))))))) gw_code
theorem km_RX5_43 : Cond.methodLink RX5 43 yX5_readHouse ∈ sn_gw := sn_gwI (lb_1 (lt_16 (lt_16 (lt_16 (lt_16 (lt_16 (lt_16 (lt_16 (lt_9 lt_h))))))))) gw_methodLink
theorem kin_X5_readHouse : Cond.instanceMethod yX5_readHouse ∈ sn_gw := sn_gwI (lb_1 (lt_16 (lt_16 (lt_16 (lt_16 (lt_16 (lt_16 (lt_16 (lt_11 lt_h))))))))) gw_instanceMethod
theorem ks_X5_readHouse : Cond.selects RX5 yX5_readHouse yX5_readHouse ∈ sn_gw := sn_gwS (q := (yX5_readHouse, 8)) (List.mem_of_getElem? (i := 2) (by decide +kernel)) (by decide +kernel)
theorem kl_RX5_43 : sn_LV RX5 43 yX5_readHouse cX5_readHouse 1 none 0 := ⟨sn_lv5 km_RX5_43 kin_X5_readHouse ks_X5_readHouse ki_RX5 kc_X5_readHouse, by decide +kernel⟩
theorem fp_RX5_22 : sn_Fp RX5 22 5 7 (.object "PepperPolicy$House") := ⟨RX5, TX5, 8, tyX5, rfl, ug_X5, by decide, kf_RX5_22, tyX5_ok, nmX5, rfl, by decide +kernel⟩
theorem kc_X2_clear : Cond.code yX2_clear cX2_clear 1 none ∈ sn_gw := sn_gwI (lb_1 (lt_16 (lt_16 (lt_16 (lt_16 (lt_16 (lt_16 (lt_12 lt_h)))))))) gw_code
theorem km_RX5_26 : Cond.methodLink RX5 26 yX2_clear ∈ sn_gw := sn_gwI (lb_1 (lt_16 (lt_16 (lt_16 (lt_16 (lt_16 (lt_16 (lt_9 lt_h)))))))) gw_methodLink
theorem kin_X2_clear : Cond.instanceMethod yX2_clear ∈ sn_gw := sn_gwI (lb_1 (lt_16 (lt_16 (lt_16 (lt_16 (lt_16 (lt_16 (lt_10 lt_h)))))))) gw_instanceMethod
theorem ks_X2_clear : Cond.selects RX2 yX2_clear yX2_clear ∈ sn_gw := sn_gwI (lb_1 (lt_16 (lt_16 (lt_16 (lt_16 (lt_16 (lt_16 (lt_11 lt_h)))))))) gw_selects
theorem kl_RX5_26 : sn_LV RX5 26 yX2_clear cX2_clear 1 none 0 := ⟨sn_lv5 km_RX5_26 kin_X2_clear ks_X2_clear ki_RX2 kc_X2_clear, by decide +kernel⟩
theorem kf_RX6_20 : Cond.fieldLink RX6 20 (TX6 2).1 (TX6 2).2.1 (TX6 2).2.2.1 ∈ sn_gw := sn_gwI (lb_0 (lt_16 (lt_16 (lt_16 (lt_16 (lt_16 (lt_16 (lt_16 (lt_6 lt_h))))))))) gw_fieldLink
theorem fd_RX6_20 : sn_Fd RX6 20 6 2 := ⟨RX6, TX6, 3, rfl, ug_X6, by decide, kf_RX6_20⟩
theorem kc_X6_has : Cond.code yX6_has cX6_has 2 (some .boolean) ∈ sn_gw := sn_gwI (lb_3 (lt_16 (lt_16 (lt_16 (lt_16 (lt_16 (lt_16 (lt_16 (lt_16 (lt_16 (lt_16 (lt_4 lt_h)))))))))))) gw_code
theorem km_RX6_29 : Cond.methodLink RX6 29 yX6_has ∈ sn_gw := sn_gwI (lb_4 (lt_16 (lt_16 (lt_16 (lt_16 (lt_14 lt_h)))))) gw_methodLink
theorem kin_X6_has : Cond.instanceMethod yX6_has ∈ sn_gw := sn_gwI (lb_3 (lt_16 (lt_16 (lt_16 (lt_16 (lt_16 (lt_16 (lt_16 (lt_16 (lt_16 (lt_16 (lt_2 lt_h)))))))))))) gw_instanceMethod
theorem ks_X6_has : Cond.selects RX6 yX6_has yX6_has ∈ sn_gw := sn_gwI (lb_3 (lt_16 (lt_16 (lt_16 (lt_16 (lt_16 (lt_16 (lt_16 (lt_16 (lt_16 (lt_16 (lt_3 lt_h)))))))))))) gw_selects
theorem ki_RX6 : Cond.initialized RX6 ∈ sn_gw := sn_gwI (lb_0 (lt_4 lt_h)) gw_initialized
theorem kl_RX6_29 : sn_LV RX6 29 yX6_has cX6_has 2 (some .boolean) 1 := ⟨sn_lv5 km_RX6_29 kin_X6_has ks_X6_has ki_RX6 kc_X6_has, by decide +kernel⟩
theorem kf_RX6_16 : Cond.fieldLink RX6 16 (TX6 1).1 (TX6 1).2.1 (TX6 1).2.2.1 ∈ sn_gw := sn_gwI (lb_0 (lt_16 (lt_16 (lt_16 (lt_16 (lt_16 (lt_16 (lt_16 (lt_4 lt_h))))))))) gw_fieldLink
theorem fd_RX6_16 : sn_Fd RX6 16 6 1 := ⟨RX6, TX6, 3, rfl, ug_X6, by decide, kf_RX6_16⟩
theorem kf_RX6_11 : Cond.fieldLink RX6 11 (TX6 0).1 (TX6 0).2.1 (TX6 0).2.2.1 ∈ sn_gw := sn_gwI (lb_0 (lt_16 (lt_16 (lt_16 (lt_16 (lt_16 (lt_16 (lt_16 (lt_2 lt_h))))))))) gw_fieldLink
theorem fd_RX6_11 : sn_Fd RX6 11 6 0 := ⟨RX6, TX6, 3, rfl, ug_X6, by decide, kf_RX6_11⟩
theorem km_RX6_33 : Cond.methodLink RX6 33 yJ7_fill_d0a16 ∈ sn_gw := sn_gwI (lb_4 (lt_16 (lt_16 (lt_16 (lt_16 (lt_16 (lt_15 lt_h))))))) gw_methodLink
theorem kl_RX6_33 : sn_LS RX6 33 yJ7_fill_d0a16 cJ7_fill_d0a16 5 none 2 := ⟨sn_ls4 km_RX6_33 kst_J7_fill_d0a16 ki_RJ7 kc_J7_fill_d0a16, by decide +kernel⟩
theorem kf_RX7_9 : Cond.fieldLink RX7 9 (TX7 0).1 (TX7 0).2.1 (TX7 0).2.2.1 ∈ sn_gw := sn_gwI (lb_1 lt_h) gw_fieldLink
theorem fd_RX7_9 : sn_Fd RX7 9 7 0 := ⟨RX7, TX7, 5, rfl, ug_X7, by decide, kf_RX7_9⟩
theorem kf_RX7_15 : Cond.fieldLink RX7 15 (TX7 4).1 (TX7 4).2.1 (TX7 4).2.2.1 ∈ sn_gw := sn_gwI (lb_1 (lt_8 lt_h)) gw_fieldLink
theorem fd_RX7_15 : sn_Fd RX7 15 7 4 := ⟨RX7, TX7, 5, rfl, ug_X7, by decide, kf_RX7_15⟩
theorem km_RX7_18 : Cond.methodLink RX7 18 yJ7_fill_53178 ∈ sn_gw := sn_gwI (lb_3 (lt_16 (lt_16 (lt_16 (lt_16 (lt_16 (lt_16 (lt_16 (lt_16 (lt_16 (lt_16 (lt_9 lt_h)))))))))))) gw_methodLink
theorem kl_RX7_18 : sn_LS RX7 18 yJ7_fill_53178 cJ7_fill_53178 4 none 2 := ⟨sn_ls4 km_RX7_18 kst_J7_fill_53178 ki_RJ7 kc_J7_fill_53178, by decide +kernel⟩
theorem kf_RX7_24 : Cond.fieldLink RX7 24 (TX7 1).1 (TX7 1).2.1 (TX7 1).2.2.1 ∈ sn_gw := sn_gwI (lb_1 (lt_2 lt_h)) gw_fieldLink
theorem fp_RX7_24 : sn_Fp RX7 24 7 1 .int := ⟨RX7, TX7, 5, tyX7, rfl, ug_X7, by decide, kf_RX7_24, tyX7_ok, nmX7, rfl, by decide +kernel⟩
theorem kf_RX7_28 : Cond.fieldLink RX7 28 (TX7 2).1 (TX7 2).2.1 (TX7 2).2.2.1 ∈ sn_gw := sn_gwI (lb_1 (lt_4 lt_h)) gw_fieldLink
theorem fp_RX7_28 : sn_Fp RX7 28 7 2 .int := ⟨RX7, TX7, 5, tyX7, rfl, ug_X7, by decide, kf_RX7_28, tyX7_ok, nmX7, rfl, by decide +kernel⟩
theorem kf_RX7_31 : Cond.fieldLink RX7 31 (TX7 3).1 (TX7 3).2.1 (TX7 3).2.2.1 ∈ sn_gw := sn_gwI (lb_1 (lt_6 lt_h)) gw_fieldLink
theorem fp_RX7_31 : sn_Fp RX7 31 7 3 .int := ⟨RX7, TX7, 5, tyX7, rfl, ug_X7, by decide, kf_RX7_31, tyX7_ok, nmX7, rfl, by decide +kernel⟩
theorem kf_RX7_60 : Cond.fieldLink RX7 60 (TX0 1).1 (TX0 1).2.1 (TX0 1).2.2.1 ∈ sn_gw := sn_gwI (lb_0 (lt_16 (lt_16 (lt_16 (lt_16 (lt_16 (lt_16 (lt_16 (lt_16 (lt_12 lt_h)))))))))) gw_fieldLink
theorem fd_RX7_60 : sn_Fd RX7 60 0 1 := ⟨RX0, TX0, 14, rfl, ug_X0, by decide, kf_RX7_60⟩
theorem kf_RX7_63 : Cond.fieldLink RX7 63 (TX0 13).1 (TX0 13).2.1 (TX0 13).2.2.1 ∈ sn_gw := sn_gwI (lb_0 (lt_16 (lt_16 (lt_16 (lt_16 (lt_16 (lt_16 (lt_16 (lt_16 (lt_16 (lt_16 (lt_7 lt_h)))))))))))) gw_fieldLink
theorem fd_RX7_63 : sn_Fd RX7 63 0 13 := ⟨RX0, TX0, 14, rfl, ug_X0, by decide, kf_RX7_63⟩
theorem fd_RX7_24 : sn_Fd RX7 24 7 1 := ⟨RX7, TX7, 5, rfl, ug_X7, by decide, kf_RX7_24⟩
theorem fd_RX7_28 : sn_Fd RX7 28 7 2 := ⟨RX7, TX7, 5, rfl, ug_X7, by decide, kf_RX7_28⟩
theorem km_RX7_66 : Cond.methodLink RX7 66 yJ6_bitCount_0f7a4 ∈ sn_gw := sn_gwI (lb_3 (lt_16 (lt_16 (lt_16 (lt_16 (lt_16 (lt_16 (lt_16 (lt_16 (lt_16 (lt_16 (lt_16 (lt_9 lt_h))))))))))))) gw_methodLink
theorem kl_RX7_66 : sn_LS RX7 66 yJ6_bitCount_0f7a4 cJ6_bitCount_0f7a4 1 (some .int) 1 := ⟨sn_ls4 km_RX7_66 kst_J6_bitCount_0f7a4 ki_RJ6 kc_J6_bitCount_0f7a4, by decide +kernel⟩
theorem kf_RX7_40 : Cond.fieldLink RX7 40 (TX0 0).1 (TX0 0).2.1 (TX0 0).2.2.1 ∈ sn_gw := sn_gwI (lb_0 (lt_16 (lt_16 (lt_16 (lt_16 (lt_16 (lt_16 (lt_16 (lt_16 (lt_9 lt_h)))))))))) gw_fieldLink
theorem fd_RX7_40 : sn_Fd RX7 40 0 0 := ⟨RX0, TX0, 14, rfl, ug_X0, by decide, kf_RX7_40⟩
theorem kf_RX7_49 : Cond.fieldLink RX7 49 (TX0 4).1 (TX0 4).2.1 (TX0 4).2.2.1 ∈ sn_gw := sn_gwI (lb_0 (lt_16 (lt_16 (lt_16 (lt_16 (lt_16 (lt_16 (lt_16 (lt_16 (lt_16 (lt_3 lt_h))))))))))) gw_fieldLink
theorem fd_RX7_49 : sn_Fd RX7 49 0 4 := ⟨RX0, TX0, 14, rfl, ug_X0, by decide, kf_RX7_49⟩
theorem km_RX7_52 : Cond.methodLink RX7 52 yX0_live ∈ sn_gw := sn_gwI (lb_3 (lt_16 (lt_16 (lt_16 (lt_16 (lt_16 (lt_16 (lt_16 (lt_16 (lt_16 (lt_16 (lt_16 (lt_4 lt_h))))))))))))) gw_methodLink
theorem kl_RX7_52 : sn_LV RX7 52 yX0_live cX0_live 4 none 2 := ⟨sn_lv5 km_RX7_52 kin_X0_live ks_X0_live ki_RX0 kc_X0_live, by decide +kernel⟩
theorem kl_RX7_41 : sn_LN RX7 41 yX8_firstMinutes RX8 cX8_firstMinutes 1 (some .int) 1 := ⟨sn_cg kc_X8_firstMinutes, (List.mem_of_getElem? (i := 13) rfl), kst_X8_firstMinutes, ki_RX8, by decide +kernel⟩
theorem kc_X7_meets : Cond.code yX7_meets cX7_meets 4 (some .boolean) ∈ sn_gw := sn_gwI (lb_3 (lt_16 (lt_16 (lt_16 (lt_16 (lt_16 (lt_16 (lt_16 (lt_16 (lt_16 (lt_16 (lt_16 (lt_3 lt_h))))))))))))) gw_code
theorem km_RX7_45 : Cond.methodLink RX7 45 yX7_meets ∈ sn_gw := sn_gwI (lb_3 (lt_16 (lt_16 (lt_16 (lt_16 (lt_16 (lt_16 (lt_16 (lt_16 (lt_16 (lt_16 (lt_16 lt_h)))))))))))) gw_methodLink
theorem kin_X7_meets : Cond.instanceMethod yX7_meets ∈ sn_gw := sn_gwI (lb_3 (lt_16 (lt_16 (lt_16 (lt_16 (lt_16 (lt_16 (lt_16 (lt_16 (lt_16 (lt_16 (lt_16 (lt_2 lt_h))))))))))))) gw_instanceMethod
theorem ks_X7_meets : Cond.selects RX7 yX7_meets yX7_meets ∈ sn_gw := sn_gwS (q := (yX7_meets, 5)) (List.mem_of_getElem? (i := 33) (by decide +kernel)) (by decide +kernel)
theorem ki_RX7 : Cond.initialized RX7 ∈ sn_gw := sn_gwI (lb_0 (lt_9 lt_h)) gw_initialized
theorem kl_RX7_45 : sn_LV RX7 45 yX7_meets cX7_meets 4 (some .boolean) 2 := ⟨sn_lv5 km_RX7_45 kin_X7_meets ks_X7_meets ki_RX7 kc_X7_meets, by decide +kernel⟩
theorem kc_X7_note : Cond.code yX7_note cX7_note 5 none ∈ sn_gw := sn_gwI (lb_3 (lt_16 (lt_16 (lt_16 (lt_16 (lt_16 (lt_16 (lt_16 (lt_16 (lt_16 (lt_16 (lt_16 (lt_8 lt_h))))))))))))) gw_code
theorem km_RX7_56 : Cond.methodLink RX7 56 yX7_note ∈ sn_gw := sn_gwI (lb_3 (lt_16 (lt_16 (lt_16 (lt_16 (lt_16 (lt_16 (lt_16 (lt_16 (lt_16 (lt_16 (lt_16 (lt_5 lt_h))))))))))))) gw_methodLink
theorem kin_X7_note : Cond.instanceMethod yX7_note ∈ sn_gw := sn_gwI (lb_3 (lt_16 (lt_16 (lt_16 (lt_16 (lt_16 (lt_16 (lt_16 (lt_16 (lt_16 (lt_16 (lt_16 (lt_7 lt_h))))))))))))) gw_instanceMethod
theorem ks_X7_note : Cond.selects RX7 yX7_note yX7_note ∈ sn_gw := sn_gwS (q := (yX7_note, 5)) (List.mem_of_getElem? (i := 34) (by decide +kernel)) (by decide +kernel)
theorem kl_RX7_56 : sn_LV RX7 56 yX7_note cX7_note 5 none 3 := ⟨sn_lv5 km_RX7_56 kin_X7_note ks_X7_note ki_RX7 kc_X7_note, by decide +kernel⟩
theorem km_RX7_34 : Cond.methodLink RX7 34 yX0_copyFrom ∈ sn_gw := sn_gwI (lb_3 (lt_16 (lt_16 (lt_16 (lt_16 (lt_16 (lt_16 (lt_16 (lt_16 (lt_16 (lt_16 (lt_14 lt_h)))))))))))) gw_methodLink
theorem kl_RX7_34 : sn_LV RX7 34 yX0_copyFrom cX0_copyFrom 2 none 1 := ⟨sn_lv5 km_RX7_34 kin_X0_copyFrom ks_X0_copyFrom ki_RX0 kc_X0_copyFrom, by decide +kernel⟩
theorem km_RX7_71 : Cond.methodLink RX7 71 Lib.Math.max.name ∈ sn_gw := sn_gwI (lb_3 (lt_16 (lt_16 (lt_16 (lt_16 (lt_16 (lt_16 (lt_16 (lt_16 (lt_16 (lt_16 (lt_16 (lt_16 (lt_14 lt_h)))))))))))))) gw_methodLink
theorem kc_X7_atWorst : Cond.code yX7_atWorst cX7_atWorst 4 (some .int) ∈ sn_gw := sn_gwI (lb_3 (lt_16 (lt_16 (lt_16 (lt_16 (lt_16 (lt_16 (lt_16 (lt_16 (lt_16 (lt_16 (lt_16 (lt_16 (lt_13 lt_h)))))))))))))) gw_code
theorem km_RX7_77 : Cond.methodLink RX7 77 yX7_atWorst ∈ sn_gw := sn_gwI (lb_3 (lt_16 (lt_16 (lt_16 (lt_16 (lt_16 (lt_16 (lt_16 (lt_16 (lt_16 (lt_16 (lt_16 (lt_16 (lt_10 lt_h)))))))))))))) gw_methodLink
theorem kin_X7_atWorst : Cond.instanceMethod yX7_atWorst ∈ sn_gw := sn_gwI (lb_3 (lt_16 (lt_16 (lt_16 (lt_16 (lt_16 (lt_16 (lt_16 (lt_16 (lt_16 (lt_16 (lt_16 (lt_16 (lt_11 lt_h)))))))))))))) gw_instanceMethod
theorem ks_X7_atWorst : Cond.selects RX7 yX7_atWorst yX7_atWorst ∈ sn_gw := sn_gwI (lb_3 (lt_16 (lt_16 (lt_16 (lt_16 (lt_16 (lt_16 (lt_16 (lt_16 (lt_16 (lt_16 (lt_16 (lt_16 (lt_12 lt_h)))))))))))))) gw_selects
theorem kl_RX7_77 : sn_LV RX7 77 yX7_atWorst cX7_atWorst 4 (some .int) 1 := ⟨sn_lv5 km_RX7_77 kin_X7_atWorst ks_X7_atWorst ki_RX7 kc_X7_atWorst, by decide +kernel⟩
theorem kf_RX8_30 : Cond.fieldLink RX8 30 (TX8 4).1 (TX8 4).2.1 (TX8 4).2.2.1 ∈ sn_gw := sn_gwI (lb_1 (lt_16 (lt_16 (lt_16 (lt_4 lt_h))))) gw_fieldLink
theorem fd_RX8_30 : sn_Fd RX8 30 8 4 := ⟨RX8, TX8, 12, rfl, ug_X8, by decide, kf_RX8_30⟩
theorem kf_RX8_79 : Cond.fieldLink RX8 79 (TX5 1).1 (TX5 1).2.1 (TX5 1).2.2.1 ∈ sn_gw := sn_gwI (lb_0 (lt_16 (lt_16 (lt_16 (lt_16 (lt_11 lt_h)))))) gw_fieldLink
theorem fd_RX8_79 : sn_Fd RX8 79 5 1 := ⟨RX5, TX5, 8, rfl, ug_X5, by decide, kf_RX8_79⟩
theorem kc_X5_put : Cond.code yX5_put cX5_put 3 none ∈ sn_gw := sn_gwI (lb_1 (lt_16 (lt_16 (lt_16 (lt_16 (lt_16 (lt_12 lt_h))))))) gw_code
theorem km_RX8_83 : Cond.methodLink RX8 83 yX5_put ∈ sn_gw := sn_gwI (lb_1 (lt_16 (lt_16 (lt_16 (lt_16 (lt_16 (lt_9 lt_h))))))) gw_methodLink
theorem kin_X5_put : Cond.instanceMethod yX5_put ∈ sn_gw := sn_gwI (lb_1 (lt_16 (lt_16 (lt_16 (lt_16 (lt_16 (lt_10 lt_h))))))) gw_instanceMethod
theorem ks_X5_put : Cond.selects RX5 yX5_put yX5_put ∈ sn_gw := sn_gwI (lb_1 (lt_16 (lt_16 (lt_16 (lt_16 (lt_16 (lt_11 lt_h))))))) gw_selects
theorem kl_RX8_83 : sn_LV RX8 83 yX5_put cX5_put 3 none 1 := ⟨sn_lv5 km_RX8_83 kin_X5_put ks_X5_put ki_RX5 kc_X5_put, by decide +kernel⟩
theorem fp_RX8_79 : sn_Fp RX8 79 5 1 .int := ⟨RX5, TX5, 8, tyX5, rfl, ug_X5, by decide, kf_RX8_79, tyX5_ok, nmX5, rfl, by decide +kernel⟩
theorem kf_RX8_44 : Cond.fieldLink RX8 44 (TX8 6).1 (TX8 6).2.1 (TX8 6).2.2.1 ∈ sn_gw := sn_gwI (lb_1 (lt_16 (lt_16 (lt_16 (lt_6 lt_h))))) gw_fieldLink
theorem fd_RX8_44 : sn_Fd RX8 44 8 6 := ⟨RX8, TX8, 12, rfl, ug_X8, by decide, kf_RX8_44⟩
theorem kf_RX8_10 : Cond.fieldLink RX8 10 (TX8 0).1 (TX8 0).2.1 (TX8 0).2.2.1 ∈ sn_gw := sn_gwI (lb_1 (lt_16 (lt_16 (lt_16 lt_h)))) gw_fieldLink
theorem fd_RX8_10 : sn_Fd RX8 10 8 0 := ⟨RX8, TX8, 12, rfl, ug_X8, by decide, kf_RX8_10⟩
theorem kc_X0_tellFrom : Cond.code yX0_tellFrom cX0_tellFrom 3 none ∈ sn_gw := sn_gwI (lb_2 (lt_8 lt_h)) gw_code
theorem km_RX8_373 : Cond.methodLink RX8 373 yX0_tellFrom ∈ sn_gw := sn_gwI (lb_2 (lt_5 lt_h)) gw_methodLink
theorem kin_X0_tellFrom : Cond.instanceMethod yX0_tellFrom ∈ sn_gw := sn_gwI (lb_2 (lt_6 lt_h)) gw_instanceMethod
theorem ks_X0_tellFrom : Cond.selects RX0 yX0_tellFrom yX0_tellFrom ∈ sn_gw := sn_gwI (lb_2 (lt_7 lt_h)) gw_selects
theorem kl_RX8_373 : sn_LV RX8 373 yX0_tellFrom cX0_tellFrom 3 none 1 := ⟨sn_lv5 km_RX8_373 kin_X0_tellFrom ks_X0_tellFrom ki_RX0 kc_X0_tellFrom, by decide +kernel⟩
theorem kc_X0_liveWhole : Cond.code yX0_liveWhole cX0_liveWhole 1 none ∈ sn_gw := sn_gwI (lb_2 (lt_16 (lt_2 lt_h))) gw_code
theorem km_RX8_189 : Cond.methodLink RX8 189 yX0_liveWhole ∈ sn_gw := sn_gwI (lb_2 (lt_15 lt_h)) gw_methodLink
theorem kin_X0_liveWhole : Cond.instanceMethod yX0_liveWhole ∈ sn_gw := sn_gwI (lb_2 (lt_16 lt_h)) gw_instanceMethod
theorem ks_X0_liveWhole : Cond.selects RX0 yX0_liveWhole yX0_liveWhole ∈ sn_gw := sn_gwI (lb_2 (lt_16 (lt_1 lt_h))) gw_selects
theorem kl_RX8_189 : sn_LV RX8 189 yX0_liveWhole cX0_liveWhole 1 none 0 := ⟨sn_lv5 km_RX8_189 kin_X0_liveWhole ks_X0_liveWhole ki_RX0 kc_X0_liveWhole, by decide +kernel⟩
theorem kf_RX8_16 : Cond.fieldLink RX8 16 (TX8 1).1 (TX8 1).2.1 (TX8 1).2.2.1 ∈ sn_gw := sn_gwI (lb_1 (lt_16 (lt_16 (lt_16 (lt_1 lt_h))))) gw_fieldLink
theorem fd_RX8_16 : sn_Fd RX8 16 8 1 := ⟨RX8, TX8, 12, rfl, ug_X8, by decide, kf_RX8_16⟩
theorem kf_RX8_91 : Cond.fieldLink RX8 91 (TX5 2).1 (TX5 2).2.1 (TX5 2).2.2.1 ∈ sn_gw := sn_gwI (lb_0 (lt_16 (lt_16 (lt_16 (lt_16 (lt_14 lt_h)))))) gw_fieldLink
theorem fd_RX8_91 : sn_Fd RX8 91 5 2 := ⟨RX5, TX5, 8, rfl, ug_X5, by decide, kf_RX8_91⟩
theorem kf_RX8_100 : Cond.fieldLink RX8 100 (TX2 0).1 (TX2 0).2.1 (TX2 0).2.2.1 ∈ sn_gw := sn_gwI (lb_0 (lt_16 (lt_16 (lt_6 lt_h)))) gw_fieldLink
theorem fd_RX8_100 : sn_Fd RX8 100 2 0 := ⟨RX2, TX2, 6, rfl, ug_X2, by decide, kf_RX8_100⟩
theorem kc_X5_read : Cond.code yX5_read cX5_read 3 none ∈ sn_gw := sn_gwI (lb_1 (lt_16 (lt_16 (lt_16 (lt_16 (lt_16 (lt_16 (lt_8 lt_h)))))))) gw_code
theorem km_RX8_87 : Cond.methodLink RX8 87 yX5_read ∈ sn_gw := sn_gwI (lb_1 (lt_16 (lt_16 (lt_16 (lt_16 (lt_16 (lt_16 (lt_5 lt_h)))))))) gw_methodLink
theorem kin_X5_read : Cond.instanceMethod yX5_read ∈ sn_gw := sn_gwI (lb_1 (lt_16 (lt_16 (lt_16 (lt_16 (lt_16 (lt_16 (lt_6 lt_h)))))))) gw_instanceMethod
theorem ks_X5_read : Cond.selects RX5 yX5_read yX5_read ∈ sn_gw := sn_gwI (lb_1 (lt_16 (lt_16 (lt_16 (lt_16 (lt_16 (lt_16 (lt_7 lt_h)))))))) gw_selects
theorem kl_RX8_87 : sn_LV RX8 87 yX5_read cX5_read 3 none 1 := ⟨sn_lv5 km_RX8_87 kin_X5_read ks_X5_read ki_RX5 kc_X5_read, by decide +kernel⟩
theorem kc_X2_copyFrom : Cond.code yX2_copyFrom cX2_copyFrom 2 none ∈ sn_gw := sn_gwI (lb_1 (lt_16 (lt_16 (lt_16 (lt_16 (lt_16 (lt_16 (lt_16 (lt_16 (lt_16 (lt_16 (lt_16 (lt_16 (lt_16 (lt_16 (lt_13 lt_h)))))))))))))))) gw_code
theorem km_RX8_94 : Cond.methodLink RX8 94 yX2_copyFrom ∈ sn_gw := sn_gwI (lb_1 (lt_16 (lt_16 (lt_16 (lt_16 (lt_16 (lt_16 (lt_16 (lt_16 (lt_16 (lt_16 (lt_16 (lt_16 (lt_16 (lt_16 (lt_10 lt_h)))))))))))))))) gw_methodLink
theorem kin_X2_copyFrom : Cond.instanceMethod yX2_copyFrom ∈ sn_gw := sn_gwI (lb_1 (lt_16 (lt_16 (lt_16 (lt_16 (lt_16 (lt_16 (lt_16 (lt_16 (lt_16 (lt_16 (lt_16 (lt_16 (lt_16 (lt_16 (lt_11 lt_h)))))))))))))))) gw_instanceMethod
theorem ks_X2_copyFrom : Cond.selects RX2 yX2_copyFrom yX2_copyFrom ∈ sn_gw := sn_gwI (lb_1 (lt_16 (lt_16 (lt_16 (lt_16 (lt_16 (lt_16 (lt_16 (lt_16 (lt_16 (lt_16 (lt_16 (lt_16 (lt_16 (lt_16 (lt_12 lt_h)))))))))))))))) gw_selects
theorem kl_RX8_94 : sn_LV RX8 94 yX2_copyFrom cX2_copyFrom 2 none 1 := ⟨sn_lv5 km_RX8_94 kin_X2_copyFrom ks_X2_copyFrom ki_RX2 kc_X2_copyFrom, by decide +kernel⟩
theorem kc_X8_liveAnew : Cond.code yX8_liveAnew cX8_liveAnew 1 none ∈ sn_gw := sn_gwI (lb_2 (lt_4 lt_h)) gw_code
theorem km_RX8_97 : Cond.methodLink RX8 97 yX8_liveAnew ∈ sn_gw := sn_gwI (lb_2 (lt_1 lt_h)) gw_methodLink
theorem kin_X8_liveAnew : Cond.instanceMethod yX8_liveAnew ∈ sn_gw := sn_gwI (lb_2 (lt_3 lt_h)) gw_instanceMethod
theorem ks_X8_liveAnew : Cond.selects RX8 yX8_liveAnew yX8_liveAnew ∈ sn_gw := sn_gwS (q := (yX8_liveAnew, 12)) (List.mem_of_getElem? (i := 14) (by decide +kernel)) (by decide +kernel)
theorem kl_RX8_97 : sn_LV RX8 97 yX8_liveAnew cX8_liveAnew 1 none 0 := ⟨sn_lv5 km_RX8_97 kin_X8_liveAnew ks_X8_liveAnew ki_RX8 kc_X8_liveAnew, by decide +kernel⟩
theorem kf_RX8_104 : Cond.fieldLink RX8 104 (TX5 3).1 (TX5 3).2.1 (TX5 3).2.2.1 ∈ sn_gw := sn_gwI (lb_0 (lt_16 (lt_16 (lt_16 (lt_16 (lt_16 lt_h)))))) gw_fieldLink
theorem fd_RX8_104 : sn_Fd RX8 104 5 3 := ⟨RX5, TX5, 8, rfl, ug_X5, by decide, kf_RX8_104⟩
theorem kf_RX8_111 : Cond.fieldLink RX8 111 (TX2 1).1 (TX2 1).2.1 (TX2 1).2.2.1 ∈ sn_gw := sn_gwI (lb_0 (lt_16 (lt_16 (lt_10 lt_h)))) gw_fieldLink
theorem fd_RX8_111 : sn_Fd RX8 111 2 1 := ⟨RX2, TX2, 6, rfl, ug_X2, by decide, kf_RX8_111⟩
theorem kc_X8_isPerson : Cond.code yX8_isPerson cX8_isPerson 2 (some .boolean) ∈ sn_gw := sn_gwI (lb_2 (lt_16 (lt_16 (lt_16 (lt_9 lt_h))))) gw_code
theorem km_RX8_107 : Cond.methodLink RX8 107 yX8_isPerson ∈ sn_gw := sn_gwI (lb_2 (lt_16 (lt_16 (lt_16 (lt_6 lt_h))))) gw_methodLink
theorem kin_X8_isPerson : Cond.instanceMethod yX8_isPerson ∈ sn_gw := sn_gwI (lb_2 (lt_16 (lt_16 (lt_16 (lt_8 lt_h))))) gw_instanceMethod
theorem ks_X8_isPerson : Cond.selects RX8 yX8_isPerson yX8_isPerson ∈ sn_gw := sn_gwS (q := (yX8_isPerson, 12)) (List.mem_of_getElem? (i := 17) (by decide +kernel)) (by decide +kernel)
theorem kl_RX8_107 : sn_LV RX8 107 yX8_isPerson cX8_isPerson 2 (some .boolean) 1 := ⟨sn_lv5 km_RX8_107 kin_X8_isPerson ks_X8_isPerson ki_RX8 kc_X8_isPerson, by decide +kernel⟩
theorem kc_X8_isPolicy : Cond.code yX8_isPolicy cX8_isPolicy 2 (some .boolean) ∈ sn_gw := sn_gwI (lb_2 (lt_16 (lt_16 (lt_16 (lt_16 (lt_1 lt_h)))))) gw_code
theorem km_RX8_114 : Cond.methodLink RX8 114 yX8_isPolicy ∈ sn_gw := sn_gwI (lb_2 (lt_16 (lt_16 (lt_16 (lt_14 lt_h))))) gw_methodLink
theorem kin_X8_isPolicy : Cond.instanceMethod yX8_isPolicy ∈ sn_gw := sn_gwI (lb_2 (lt_16 (lt_16 (lt_16 (lt_16 lt_h))))) gw_instanceMethod
theorem ks_X8_isPolicy : Cond.selects RX8 yX8_isPolicy yX8_isPolicy ∈ sn_gw := sn_gwS (q := (yX8_isPolicy, 12)) (List.mem_of_getElem? (i := 18) (by decide +kernel)) (by decide +kernel)
theorem kl_RX8_114 : sn_LV RX8 114 yX8_isPolicy cX8_isPolicy 2 (some .boolean) 1 := ⟨sn_lv5 km_RX8_114 kin_X8_isPolicy ks_X8_isPolicy ki_RX8 kc_X8_isPolicy, by decide +kernel⟩
theorem km_RX8_117 : Cond.methodLink RX8 117 yX2_ofPolicy ∈ sn_gw := sn_gwI (lb_2 (lt_16 (lt_16 (lt_16 (lt_16 (lt_2 lt_h)))))) gw_methodLink
theorem kl_RX8_117 : sn_LV RX8 117 yX2_ofPolicy cX2_ofPolicy 3 (some .int) 2 := ⟨sn_lv5 km_RX8_117 kin_X2_ofPolicy ks_X2_ofPolicy ki_RX2 kc_X2_ofPolicy, by decide +kernel⟩
theorem kc_X2_neighbours : Cond.code yX2_neighbours cX2_neighbours 4 (some .int) ∈ sn_gw := sn_gwI (lb_2 (lt_16 (lt_16 (lt_16 (lt_16 (lt_13 lt_h)))))) gw_code
theorem km_RX8_121 : Cond.methodLink RX8 121 yX2_neighbours ∈ sn_gw := sn_gwI (lb_2 (lt_16 (lt_16 (lt_16 (lt_16 (lt_10 lt_h)))))) gw_methodLink
theorem kin_X2_neighbours : Cond.instanceMethod yX2_neighbours ∈ sn_gw := sn_gwI (lb_2 (lt_16 (lt_16 (lt_16 (lt_16 (lt_11 lt_h)))))) gw_instanceMethod
theorem ks_X2_neighbours : Cond.selects RX2 yX2_neighbours yX2_neighbours ∈ sn_gw := sn_gwI (lb_2 (lt_16 (lt_16 (lt_16 (lt_16 (lt_12 lt_h)))))) gw_selects
theorem kl_RX8_121 : sn_LV RX8 121 yX2_neighbours cX2_neighbours 4 (some .int) 1 := ⟨sn_lv5 km_RX8_121 kin_X2_neighbours ks_X2_neighbours ki_RX2 kc_X2_neighbours, by decide +kernel⟩
theorem kf_RX8_128 : Cond.fieldLink RX8 128 (TX0 4).1 (TX0 4).2.1 (TX0 4).2.2.1 ∈ sn_gw := sn_gwI (lb_0 (lt_16 (lt_16 (lt_16 (lt_16 (lt_16 (lt_16 (lt_16 (lt_16 (lt_16 (lt_4 lt_h))))))))))) gw_fieldLink
theorem fd_RX8_128 : sn_Fd RX8 128 0 4 := ⟨RX0, TX0, 14, rfl, ug_X0, by decide, kf_RX8_128⟩
theorem kc_X8_isMinute : Cond.code yX8_isMinute cX8_isMinute 2 (some .boolean) ∈ sn_gw := sn_gwI (lb_2 (lt_16 (lt_16 (lt_16 (lt_16 (lt_16 (lt_5 lt_h))))))) gw_code
theorem km_RX8_125 : Cond.methodLink RX8 125 yX8_isMinute ∈ sn_gw := sn_gwI (lb_2 (lt_16 (lt_16 (lt_16 (lt_16 (lt_16 (lt_2 lt_h))))))) gw_methodLink
theorem kin_X8_isMinute : Cond.instanceMethod yX8_isMinute ∈ sn_gw := sn_gwI (lb_2 (lt_16 (lt_16 (lt_16 (lt_16 (lt_16 (lt_4 lt_h))))))) gw_instanceMethod
theorem ks_X8_isMinute : Cond.selects RX8 yX8_isMinute yX8_isMinute ∈ sn_gw := sn_gwS (q := (yX8_isMinute, 12)) (List.mem_of_getElem? (i := 19) (by decide +kernel)) (by decide +kernel)
theorem kl_RX8_125 : sn_LV RX8 125 yX8_isMinute cX8_isMinute 2 (some .boolean) 1 := ⟨sn_lv5 km_RX8_125 kin_X8_isMinute ks_X8_isMinute ki_RX8 kc_X8_isMinute, by decide +kernel⟩
theorem kf_RX8_131 : Cond.fieldLink RX8 131 (TX0 13).1 (TX0 13).2.1 (TX0 13).2.2.1 ∈ sn_gw := sn_gwI (lb_0 (lt_16 (lt_16 (lt_16 (lt_16 (lt_16 (lt_16 (lt_16 (lt_16 (lt_16 (lt_16 (lt_8 lt_h)))))))))))) gw_fieldLink
theorem fd_RX8_131 : sn_Fd RX8 131 0 13 := ⟨RX0, TX0, 14, rfl, ug_X0, by decide, kf_RX8_131⟩
theorem km_RX8_134 : Cond.methodLink RX8 134 yX8_lowestBit ∈ sn_gw := sn_gwI (lb_2 (lt_16 (lt_16 (lt_16 (lt_16 (lt_16 (lt_14 lt_h))))))) gw_methodLink
theorem kl_RX8_134 : sn_LS RX8 134 yX8_lowestBit cX8_lowestBit 1 (some .int) 1 := ⟨sn_ls4 km_RX8_134 kst_X8_lowestBit ki_RX8 kc_X8_lowestBit, by decide +kernel⟩
theorem kc_X8_isHouse : Cond.code yX8_isHouse cX8_isHouse 1 (some .boolean) ∈ sn_gw := sn_gwI (lb_2 (lt_16 (lt_16 (lt_16 (lt_16 (lt_16 (lt_16 (lt_14 lt_h)))))))) gw_code
theorem km_RX8_137 : Cond.methodLink RX8 137 yX8_isHouse ∈ sn_gw := sn_gwI (lb_2 (lt_16 (lt_16 (lt_16 (lt_16 (lt_16 (lt_16 (lt_11 lt_h)))))))) gw_methodLink
theorem kin_X8_isHouse : Cond.instanceMethod yX8_isHouse ∈ sn_gw := sn_gwI (lb_2 (lt_16 (lt_16 (lt_16 (lt_16 (lt_16 (lt_16 (lt_13 lt_h)))))))) gw_instanceMethod
theorem ks_X8_isHouse : Cond.selects RX8 yX8_isHouse yX8_isHouse ∈ sn_gw := sn_gwS (q := (yX8_isHouse, 12)) (List.mem_of_getElem? (i := 20) (by decide +kernel)) (by decide +kernel)
theorem kl_RX8_137 : sn_LV RX8 137 yX8_isHouse cX8_isHouse 1 (some .boolean) 0 := ⟨sn_lv5 km_RX8_137 kin_X8_isHouse ks_X8_isHouse ki_RX8 kc_X8_isHouse, by decide +kernel⟩
theorem kc_X0_total : Cond.code yX0_total cX0_total 3 (some .int) ∈ sn_gw := sn_gwI (lb_2 (lt_16 (lt_16 (lt_16 (lt_16 (lt_16 (lt_16 (lt_16 (lt_2 lt_h))))))))) gw_code
theorem km_RX8_141 : Cond.methodLink RX8 141 yX0_total ∈ sn_gw := sn_gwI (lb_2 (lt_16 (lt_16 (lt_16 (lt_16 (lt_16 (lt_16 (lt_15 lt_h)))))))) gw_methodLink
theorem kin_X0_total : Cond.instanceMethod yX0_total ∈ sn_gw := sn_gwI (lb_2 (lt_16 (lt_16 (lt_16 (lt_16 (lt_16 (lt_16 (lt_16 lt_h)))))))) gw_instanceMethod
theorem ks_X0_total : Cond.selects RX0 yX0_total yX0_total ∈ sn_gw := sn_gwI (lb_2 (lt_16 (lt_16 (lt_16 (lt_16 (lt_16 (lt_16 (lt_16 (lt_1 lt_h))))))))) gw_selects
theorem kl_RX8_141 : sn_LV RX8 141 yX0_total cX0_total 3 (some .int) 0 := ⟨sn_lv5 km_RX8_141 kin_X0_total ks_X0_total ki_RX0 kc_X0_total, by decide +kernel⟩
theorem kf_RX8_145 : Cond.fieldLink RX8 145 (TX0 12).1 (TX0 12).2.1 (TX0 12).2.2.1 ∈ sn_gw := sn_gwI (lb_0 (lt_16 (lt_16 (lt_16 (lt_16 (lt_16 (lt_16 (lt_16 (lt_16 (lt_16 (lt_16 (lt_3 lt_h)))))))))))) gw_fieldLink
theorem fd_RX8_145 : sn_Fd RX8 145 0 12 := ⟨RX0, TX0, 14, rfl, ug_X0, by decide, kf_RX8_145⟩
theorem kc_X0_tickleAt : Cond.code yX0_tickleAt cX0_tickleAt 3 (some .int) ∈ sn_gw := sn_gwI (lb_2 (lt_16 (lt_16 (lt_16 (lt_16 (lt_16 (lt_16 (lt_16 (lt_15 lt_h))))))))) gw_code
theorem km_RX8_148 : Cond.methodLink RX8 148 yX0_tickleAt ∈ sn_gw := sn_gwI (lb_2 (lt_16 (lt_16 (lt_16 (lt_16 (lt_16 (lt_16 (lt_16 (lt_12 lt_h))))))))) gw_methodLink
theorem kin_X0_tickleAt : Cond.instanceMethod yX0_tickleAt ∈ sn_gw := sn_gwI (lb_2 (lt_16 (lt_16 (lt_16 (lt_16 (lt_16 (lt_16 (lt_16 (lt_13 lt_h))))))))) gw_instanceMethod
theorem ks_X0_tickleAt : Cond.selects RX0 yX0_tickleAt yX0_tickleAt ∈ sn_gw := sn_gwI (lb_2 (lt_16 (lt_16 (lt_16 (lt_16 (lt_16 (lt_16 (lt_16 (lt_14 lt_h))))))))) gw_selects
theorem kl_RX8_148 : sn_LV RX8 148 yX0_tickleAt cX0_tickleAt 3 (some .int) 2 := ⟨sn_lv5 km_RX8_148 kin_X0_tickleAt ks_X0_tickleAt ki_RX0 kc_X0_tickleAt, by decide +kernel⟩
theorem kf_RX8_151 : Cond.fieldLink RX8 151 (TX0 0).1 (TX0 0).2.1 (TX0 0).2.2.1 ∈ sn_gw := sn_gwI (lb_0 (lt_16 (lt_16 (lt_16 (lt_16 (lt_16 (lt_16 (lt_16 (lt_16 (lt_10 lt_h)))))))))) gw_fieldLink
theorem fd_RX8_151 : sn_Fd RX8 151 0 0 := ⟨RX0, TX0, 14, rfl, ug_X0, by decide, kf_RX8_151⟩
theorem km_RX8_154 : Cond.methodLink RX8 154 Lib.Math.max.name ∈ sn_gw := sn_gwI (lb_2 (lt_16 (lt_16 (lt_16 (lt_16 (lt_16 (lt_16 (lt_16 (lt_16 (lt_4 lt_h)))))))))) gw_methodLink
theorem km_RX8_159 : Cond.methodLink RX8 159 yX0_cameAt ∈ sn_gw := sn_gwI (lb_2 (lt_16 (lt_16 (lt_16 (lt_16 (lt_16 (lt_16 (lt_16 (lt_16 (lt_11 lt_h)))))))))) gw_methodLink
theorem kl_RX8_159 : sn_LV RX8 159 yX0_cameAt cX0_cameAt 3 (some .int) 2 := ⟨sn_lv5 km_RX8_159 kin_X0_cameAt ks_X0_cameAt ki_RX0 kc_X0_cameAt, by decide +kernel⟩
theorem kf_RX8_162 : Cond.fieldLink RX8 162 (TX0 1).1 (TX0 1).2.1 (TX0 1).2.2.1 ∈ sn_gw := sn_gwI (lb_0 (lt_16 (lt_16 (lt_16 (lt_16 (lt_16 (lt_16 (lt_16 (lt_16 (lt_13 lt_h)))))))))) gw_fieldLink
theorem fd_RX8_162 : sn_Fd RX8 162 0 1 := ⟨RX0, TX0, 14, rfl, ug_X0, by decide, kf_RX8_162⟩
theorem km_RX8_170 : Cond.methodLink RX8 170 yX8_hasBit ∈ sn_gw := sn_gwI (lb_2 (lt_16 (lt_16 (lt_16 (lt_16 (lt_16 (lt_16 (lt_16 (lt_16 (lt_16 (lt_16 lt_h))))))))))) gw_methodLink
theorem kl_RX8_170 : sn_LS RX8 170 yX8_hasBit cX8_hasBit 2 (some .boolean) 2 := ⟨sn_ls4 km_RX8_170 kst_X8_hasBit ki_RX8 kc_X8_hasBit, by decide +kernel⟩
theorem km_RX8_174 : Cond.methodLink RX8 174 yX8_firstMinutes ∈ sn_gw := sn_gwI (lb_2 (lt_16 (lt_16 (lt_16 (lt_16 (lt_16 (lt_16 (lt_16 (lt_16 (lt_16 (lt_16 (lt_5 lt_h)))))))))))) gw_methodLink
theorem kl_RX8_174 : sn_LS RX8 174 yX8_firstMinutes cX8_firstMinutes 1 (some .int) 1 := ⟨sn_ls4 km_RX8_174 kst_X8_firstMinutes ki_RX8 kc_X8_firstMinutes, by decide +kernel⟩
theorem km_RX8_180 : Cond.methodLink RX8 180 yX2_window ∈ sn_gw := sn_gwI (lb_2 (lt_16 (lt_16 (lt_16 (lt_16 (lt_16 (lt_16 (lt_16 (lt_16 (lt_16 (lt_16 (lt_14 lt_h)))))))))))) gw_methodLink
theorem kl_RX8_180 : sn_LV RX8 180 yX2_window cX2_window 3 (some .int) 1 := ⟨sn_lv5 km_RX8_180 kin_X2_window ks_X2_window ki_RX2 kc_X2_window, by decide +kernel⟩
theorem kc_X8_minutesCovered : Cond.code yX8_minutesCovered cX8_minutesCovered 4 (some .int) ∈ sn_gw := sn_gwI (lb_2 (lt_16 (lt_16 (lt_16 (lt_16 (lt_16 (lt_16 (lt_16 (lt_16 (lt_16 (lt_16 (lt_13 lt_h)))))))))))) gw_code
theorem km_RX8_177 : Cond.methodLink RX8 177 yX8_minutesCovered ∈ sn_gw := sn_gwI (lb_2 (lt_16 (lt_16 (lt_16 (lt_16 (lt_16 (lt_16 (lt_16 (lt_16 (lt_16 (lt_16 (lt_10 lt_h)))))))))))) gw_methodLink
theorem kin_X8_minutesCovered : Cond.instanceMethod yX8_minutesCovered ∈ sn_gw := sn_gwI (lb_2 (lt_16 (lt_16 (lt_16 (lt_16 (lt_16 (lt_16 (lt_16 (lt_16 (lt_16 (lt_16 (lt_12 lt_h)))))))))))) gw_instanceMethod
theorem ks_X8_minutesCovered : Cond.selects RX8 yX8_minutesCovered yX8_minutesCovered ∈ sn_gw := sn_gwS (q := (yX8_minutesCovered, 12)) (List.mem_of_getElem? (i := 21) (by decide +kernel)) (by decide +kernel)
theorem kl_RX8_177 : sn_LV RX8 177 yX8_minutesCovered cX8_minutesCovered 4 (some .int) 1 := ⟨sn_lv5 km_RX8_177 kin_X8_minutesCovered ks_X8_minutesCovered ki_RX8 kc_X8_minutesCovered, by decide +kernel⟩
theorem kf_RX8_48 : Cond.fieldLink RX8 48 (TX8 7).1 (TX8 7).2.1 (TX8 7).2.2.1 ∈ sn_gw := sn_gwI (lb_1 (lt_16 (lt_16 (lt_16 (lt_7 lt_h))))) gw_fieldLink
theorem fd_RX8_48 : sn_Fd RX8 48 8 7 := ⟨RX8, TX8, 12, rfl, ug_X8, by decide, kf_RX8_48⟩
theorem kf_RX8_186 : Cond.fieldLink RX8 186 (TX0 5).1 (TX0 5).2.1 (TX0 5).2.2.1 ∈ sn_gw := sn_gwI (lb_0 (lt_16 (lt_16 (lt_16 (lt_16 (lt_16 (lt_16 (lt_16 (lt_16 (lt_16 (lt_6 lt_h))))))))))) gw_fieldLink
theorem fd_RX8_186 : sn_Fd RX8 186 0 5 := ⟨RX0, TX0, 14, rfl, ug_X0, by decide, kf_RX8_186⟩
theorem km_RX8_183 : Cond.methodLink RX8 183 yX0_copyFrom ∈ sn_gw := sn_gwI (lb_2 (lt_16 (lt_16 (lt_16 (lt_16 (lt_16 (lt_16 (lt_16 (lt_16 (lt_16 (lt_16 (lt_16 (lt_14 lt_h))))))))))))) gw_methodLink
theorem kl_RX8_183 : sn_LV RX8 183 yX0_copyFrom cX0_copyFrom 2 none 1 := ⟨sn_lv5 km_RX8_183 kin_X0_copyFrom ks_X0_copyFrom ki_RX0 kc_X0_copyFrom, by decide +kernel⟩
theorem kf_RX8_192 : Cond.fieldLink RX8 192 (TX0 6).1 (TX0 6).2.1 (TX0 6).2.2.1 ∈ sn_gw := sn_gwI (lb_0 (lt_16 (lt_16 (lt_16 (lt_16 (lt_16 (lt_16 (lt_16 (lt_16 (lt_16 (lt_9 lt_h))))))))))) gw_fieldLink
theorem fd_RX8_192 : sn_Fd RX8 192 0 6 := ⟨RX0, TX0, 14, rfl, ug_X0, by decide, kf_RX8_192⟩
theorem kk_RX8_195 : Cond.constant RX8 195 (1000000) ∈ sn_gw := sn_gwI (lb_2 (lt_16 (lt_16 (lt_16 (lt_16 (lt_16 (lt_16 (lt_16 (lt_16 (lt_16 (lt_16 (lt_16 (lt_16 (lt_6 lt_h)))))))))))))) (by decide +kernel)
theorem kf_RX8_196 : Cond.fieldLink RX8 196 (TX0 7).1 (TX0 7).2.1 (TX0 7).2.2.1 ∈ sn_gw := sn_gwI (lb_0 (lt_16 (lt_16 (lt_16 (lt_16 (lt_16 (lt_16 (lt_16 (lt_16 (lt_16 (lt_12 lt_h))))))))))) gw_fieldLink
theorem fd_RX8_196 : sn_Fd RX8 196 0 7 := ⟨RX0, TX0, 14, rfl, ug_X0, by decide, kf_RX8_196⟩
theorem kf_RX8_205 : Cond.fieldLink RX8 205 (TX0 3).1 (TX0 3).2.1 (TX0 3).2.2.1 ∈ sn_gw := sn_gwI (lb_0 (lt_16 (lt_16 (lt_16 (lt_16 (lt_16 (lt_16 (lt_16 (lt_16 (lt_16 lt_h)))))))))) gw_fieldLink
theorem fp_RX8_205 : sn_Fp RX8 205 0 3 .int := ⟨RX0, TX0, 14, tyX0, rfl, ug_X0, by decide, kf_RX8_205, tyX0_ok, nmX0, rfl, by decide +kernel⟩
theorem kc_X8_isNet : Cond.code yX8_isNet cX8_isNet 2 (some .boolean) ∈ sn_gw := sn_gwI (lb_2 (lt_16 (lt_16 (lt_16 (lt_16 (lt_16 (lt_16 (lt_16 (lt_16 (lt_16 (lt_16 (lt_16 (lt_16 (lt_16 (lt_10 lt_h))))))))))))))) gw_code
theorem km_RX8_199 : Cond.methodLink RX8 199 yX8_isNet ∈ sn_gw := sn_gwI (lb_2 (lt_16 (lt_16 (lt_16 (lt_16 (lt_16 (lt_16 (lt_16 (lt_16 (lt_16 (lt_16 (lt_16 (lt_16 (lt_16 (lt_7 lt_h))))))))))))))) gw_methodLink
theorem kin_X8_isNet : Cond.instanceMethod yX8_isNet ∈ sn_gw := sn_gwI (lb_2 (lt_16 (lt_16 (lt_16 (lt_16 (lt_16 (lt_16 (lt_16 (lt_16 (lt_16 (lt_16 (lt_16 (lt_16 (lt_16 (lt_9 lt_h))))))))))))))) gw_instanceMethod
theorem ks_X8_isNet : Cond.selects RX8 yX8_isNet yX8_isNet ∈ sn_gw := sn_gwS (q := (yX8_isNet, 12)) (List.mem_of_getElem? (i := 22) (by decide +kernel)) (by decide +kernel)
theorem kl_RX8_199 : sn_LV RX8 199 yX8_isNet cX8_isNet 2 (some .boolean) 1 := ⟨sn_lv5 km_RX8_199 kin_X8_isNet ks_X8_isNet ki_RX8 kc_X8_isNet, by decide +kernel⟩
theorem kc_X8_totalWithout : Cond.code yX8_totalWithout cX8_totalWithout 2 (some .int) ∈ sn_gw := sn_gwI (lb_2 (lt_16 (lt_16 (lt_16 (lt_16 (lt_16 (lt_16 (lt_16 (lt_16 (lt_16 (lt_16 (lt_16 (lt_16 (lt_16 (lt_14 lt_h))))))))))))))) gw_code
theorem km_RX8_202 : Cond.methodLink RX8 202 yX8_totalWithout ∈ sn_gw := sn_gwI (lb_2 (lt_16 (lt_16 (lt_16 (lt_16 (lt_16 (lt_16 (lt_16 (lt_16 (lt_16 (lt_16 (lt_16 (lt_16 (lt_16 (lt_11 lt_h))))))))))))))) gw_methodLink
theorem kin_X8_totalWithout : Cond.instanceMethod yX8_totalWithout ∈ sn_gw := sn_gwI (lb_2 (lt_16 (lt_16 (lt_16 (lt_16 (lt_16 (lt_16 (lt_16 (lt_16 (lt_16 (lt_16 (lt_16 (lt_16 (lt_16 (lt_13 lt_h))))))))))))))) gw_instanceMethod
theorem ks_X8_totalWithout : Cond.selects RX8 yX8_totalWithout yX8_totalWithout ∈ sn_gw := sn_gwS (q := (yX8_totalWithout, 12)) (List.mem_of_getElem? (i := 23) (by decide +kernel)) (by decide +kernel)
theorem kl_RX8_202 : sn_LV RX8 202 yX8_totalWithout cX8_totalWithout 2 (some .int) 1 := ⟨sn_lv5 km_RX8_202 kin_X8_totalWithout ks_X8_totalWithout ki_RX8 kc_X8_totalWithout, by decide +kernel⟩
theorem kf_RX8_54 : Cond.fieldLink RX8 54 (TX8 8).1 (TX8 8).2.1 (TX8 8).2.2.1 ∈ sn_gw := sn_gwI (lb_1 (lt_16 (lt_16 (lt_16 (lt_8 lt_h))))) gw_fieldLink
theorem fd_RX8_54 : sn_Fd RX8 54 8 8 := ⟨RX8, TX8, 12, rfl, ug_X8, by decide, kf_RX8_54⟩
theorem km_RX8_234 : Cond.methodLink RX8 234 yX3_reckon ∈ sn_gw := sn_gwI (lb_2 (lt_16 (lt_16 (lt_16 (lt_16 (lt_16 (lt_16 (lt_16 (lt_16 (lt_16 (lt_16 (lt_16 (lt_16 (lt_16 (lt_16 (lt_11 lt_h)))))))))))))))) gw_methodLink
theorem kl_RX8_234 : sn_LV RX8 234 yX3_reckon cX3_reckon 7 none 3 := ⟨sn_lv5 km_RX8_234 kin_X3_reckon ks_X3_reckon ki_RX3 kc_X3_reckon, by decide +kernel⟩
theorem kf_RX8_212 : Cond.fieldLink RX8 212 (TX3 0).1 (TX3 0).2.1 (TX3 0).2.2.1 ∈ sn_gw := sn_gwI (lb_0 (lt_16 (lt_16 (lt_16 (lt_16 (lt_16 (lt_16 (lt_16 (lt_16 (lt_16 (lt_16 (lt_16 (lt_16 (lt_14 lt_h)))))))))))))) gw_fieldLink
theorem fd_RX8_212 : sn_Fd RX8 212 3 0 := ⟨RX3, TX3, 4, rfl, ug_X3, by decide, kf_RX8_212⟩
theorem kc_X8_ledgerNow : Cond.code yX8_ledgerNow cX8_ledgerNow 1 (some (.object "PepperPolicy$Ledger")) ∈ sn_gw := sn_gwI (lb_2 (lt_16 (lt_16 (lt_16 (lt_16 (lt_16 (lt_16 (lt_16 (lt_16 (lt_16 (lt_16 (lt_16 (lt_16 (lt_16 (lt_16 (lt_10 lt_h)))))))))))))))) gw_code
theorem km_RX8_208 : Cond.methodLink RX8 208 yX8_ledgerNow ∈ sn_gw := sn_gwI (lb_2 (lt_16 (lt_16 (lt_16 (lt_16 (lt_16 (lt_16 (lt_16 (lt_16 (lt_16 (lt_16 (lt_16 (lt_16 (lt_16 (lt_16 (lt_7 lt_h)))))))))))))))) gw_methodLink
theorem kin_X8_ledgerNow : Cond.instanceMethod yX8_ledgerNow ∈ sn_gw := sn_gwI (lb_2 (lt_16 (lt_16 (lt_16 (lt_16 (lt_16 (lt_16 (lt_16 (lt_16 (lt_16 (lt_16 (lt_16 (lt_16 (lt_16 (lt_16 (lt_9 lt_h)))))))))))))))) gw_instanceMethod
theorem ks_X8_ledgerNow : Cond.selects RX8 yX8_ledgerNow yX8_ledgerNow ∈ sn_gw := sn_gwS (q := (yX8_ledgerNow, 12)) (List.mem_of_getElem? (i := 24) (by decide +kernel)) (by decide +kernel)
theorem kl_RX8_208 : sn_LV RX8 208 yX8_ledgerNow cX8_ledgerNow 1 (some (.object "PepperPolicy$Ledger")) 0 := ⟨sn_lv5 km_RX8_208 kin_X8_ledgerNow ks_X8_ledgerNow ki_RX8 kc_X8_ledgerNow, by decide +kernel⟩
theorem kf_RX8_215 : Cond.fieldLink RX8 215 (TX3 1).1 (TX3 1).2.1 (TX3 1).2.2.1 ∈ sn_gw := sn_gwI (lb_0 (lt_16 (lt_16 (lt_16 (lt_16 (lt_16 (lt_16 (lt_16 (lt_16 (lt_16 (lt_16 (lt_16 (lt_16 (lt_16 lt_h)))))))))))))) gw_fieldLink
theorem fd_RX8_215 : sn_Fd RX8 215 3 1 := ⟨RX3, TX3, 4, rfl, ug_X3, by decide, kf_RX8_215⟩
theorem kf_RX8_218 : Cond.fieldLink RX8 218 (TX3 2).1 (TX3 2).2.1 (TX3 2).2.2.1 ∈ sn_gw := sn_gwI (lb_0 (lt_16 (lt_16 (lt_16 (lt_16 (lt_16 (lt_16 (lt_16 (lt_16 (lt_16 (lt_16 (lt_16 (lt_16 (lt_16 (lt_2 lt_h))))))))))))))) gw_fieldLink
theorem fd_RX8_218 : sn_Fd RX8 218 3 2 := ⟨RX3, TX3, 4, rfl, ug_X3, by decide, kf_RX8_218⟩
theorem kk_RX8_221 : Cond.constant RX8 221 (-100000) ∈ sn_gw := sn_gwI (lb_3 (lt_16 (lt_11 lt_h))) (by decide +kernel)
theorem km_RX8_222 : Cond.methodLink RX8 222 yX3_moneyAt ∈ sn_gw := sn_gwI (lb_3 (lt_16 (lt_16 lt_h))) gw_methodLink
theorem kl_RX8_222 : sn_LV RX8 222 yX3_moneyAt cX3_moneyAt 4 (some .int) 1 := ⟨sn_lv5 km_RX8_222 kin_X3_moneyAt ks_X3_moneyAt ki_RX3 kc_X3_moneyAt, by decide +kernel⟩
theorem kc_X3_poorestMinute : Cond.code yX3_poorestMinute cX3_poorestMinute 4 (some .int) ∈ sn_gw := sn_gwI (lb_3 (lt_16 (lt_16 (lt_11 lt_h)))) gw_code
theorem km_RX8_225 : Cond.methodLink RX8 225 yX3_poorestMinute ∈ sn_gw := sn_gwI (lb_3 (lt_16 (lt_16 (lt_8 lt_h)))) gw_methodLink
theorem kin_X3_poorestMinute : Cond.instanceMethod yX3_poorestMinute ∈ sn_gw := sn_gwI (lb_3 (lt_16 (lt_16 (lt_9 lt_h)))) gw_instanceMethod
theorem ks_X3_poorestMinute : Cond.selects RX3 yX3_poorestMinute yX3_poorestMinute ∈ sn_gw := sn_gwI (lb_3 (lt_16 (lt_16 (lt_10 lt_h)))) gw_selects
theorem kl_RX8_225 : sn_LV RX8 225 yX3_poorestMinute cX3_poorestMinute 4 (some .int) 1 := ⟨sn_lv5 km_RX8_225 kin_X3_poorestMinute ks_X3_poorestMinute ki_RX3 kc_X3_poorestMinute, by decide +kernel⟩
theorem km_RX8_228 : Cond.methodLink RX8 228 yX3_firstBelow ∈ sn_gw := sn_gwI (lb_3 (lt_16 (lt_16 (lt_16 (lt_1 lt_h))))) gw_methodLink
theorem kl_RX8_228 : sn_LV RX8 228 yX3_firstBelow cX3_firstBelow 3 (some .int) 1 := ⟨sn_lv5 km_RX8_228 kin_X3_firstBelow ks_X3_firstBelow ki_RX3 kc_X3_firstBelow, by decide +kernel⟩
theorem kc_X8_moneyInTheEnd : Cond.code yX8_moneyInTheEnd cX8_moneyInTheEnd 2 (some .int) ∈ sn_gw := sn_gwI (lb_3 (lt_16 (lt_16 (lt_16 (lt_16 (lt_4 lt_h)))))) gw_code
theorem km_RX8_231 : Cond.methodLink RX8 231 yX8_moneyInTheEnd ∈ sn_gw := sn_gwI (lb_3 (lt_16 (lt_16 (lt_16 (lt_16 (lt_1 lt_h)))))) gw_methodLink
theorem kin_X8_moneyInTheEnd : Cond.instanceMethod yX8_moneyInTheEnd ∈ sn_gw := sn_gwI (lb_3 (lt_16 (lt_16 (lt_16 (lt_16 (lt_3 lt_h)))))) gw_instanceMethod
theorem ks_X8_moneyInTheEnd : Cond.selects RX8 yX8_moneyInTheEnd yX8_moneyInTheEnd ∈ sn_gw := sn_gwS (q := (yX8_moneyInTheEnd, 12)) (List.mem_of_getElem? (i := 25) (by decide +kernel)) (by decide +kernel)
theorem kl_RX8_231 : sn_LV RX8 231 yX8_moneyInTheEnd cX8_moneyInTheEnd 2 (some .int) 1 := ⟨sn_lv5 km_RX8_231 kin_X8_moneyInTheEnd ks_X8_moneyInTheEnd ki_RX8 kc_X8_moneyInTheEnd, by decide +kernel⟩
theorem km_RX8_250 : Cond.methodLink RX8 250 yX3_claimBy ∈ sn_gw := sn_gwI (lb_3 (lt_16 (lt_16 (lt_16 (lt_16 (lt_16 (lt_9 lt_h))))))) gw_methodLink
theorem kl_RX8_250 : sn_LS RX8 250 yX3_claimBy cX3_claimBy 8 (some .int) 5 := ⟨sn_ls4 km_RX8_250 kst_X3_claimBy ki_RX3 kc_X3_claimBy, by decide +kernel⟩
theorem kc_X8_claimAsIfOf : Cond.code yX8_claimAsIfOf cX8_claimAsIfOf 3 (some .int) ∈ sn_gw := sn_gwI (lb_3 (lt_16 (lt_16 (lt_16 (lt_16 (lt_16 (lt_8 lt_h))))))) gw_code
theorem km_RX8_247 : Cond.methodLink RX8 247 yX8_claimAsIfOf ∈ sn_gw := sn_gwI (lb_3 (lt_16 (lt_16 (lt_16 (lt_16 (lt_16 (lt_5 lt_h))))))) gw_methodLink
theorem kin_X8_claimAsIfOf : Cond.instanceMethod yX8_claimAsIfOf ∈ sn_gw := sn_gwI (lb_3 (lt_16 (lt_16 (lt_16 (lt_16 (lt_16 (lt_7 lt_h))))))) gw_instanceMethod
theorem ks_X8_claimAsIfOf : Cond.selects RX8 yX8_claimAsIfOf yX8_claimAsIfOf ∈ sn_gw := sn_gwS (q := (yX8_claimAsIfOf, 12)) (List.mem_of_getElem? (i := 28) (by decide +kernel)) (by decide +kernel)
theorem kl_RX8_247 : sn_LV RX8 247 yX8_claimAsIfOf cX8_claimAsIfOf 3 (some .int) 2 := ⟨sn_lv5 km_RX8_247 kin_X8_claimAsIfOf ks_X8_claimAsIfOf ki_RX8 kc_X8_claimAsIfOf, by decide +kernel⟩
theorem kc_X8_gainBy : Cond.code yX8_gainBy cX8_gainBy 3 (some .int) ∈ sn_gw := sn_gwI (lb_3 (lt_16 (lt_16 (lt_16 (lt_16 (lt_16 (lt_4 lt_h))))))) gw_code
theorem km_RX8_241 : Cond.methodLink RX8 241 yX8_gainBy ∈ sn_gw := sn_gwI (lb_3 (lt_16 (lt_16 (lt_16 (lt_16 (lt_16 (lt_1 lt_h))))))) gw_methodLink
theorem kin_X8_gainBy : Cond.instanceMethod yX8_gainBy ∈ sn_gw := sn_gwI (lb_3 (lt_16 (lt_16 (lt_16 (lt_16 (lt_16 (lt_3 lt_h))))))) gw_instanceMethod
theorem ks_X8_gainBy : Cond.selects RX8 yX8_gainBy yX8_gainBy ∈ sn_gw := sn_gwS (q := (yX8_gainBy, 12)) (List.mem_of_getElem? (i := 27) (by decide +kernel)) (by decide +kernel)
theorem kl_RX8_241 : sn_LV RX8 241 yX8_gainBy cX8_gainBy 3 (some .int) 2 := ⟨sn_lv5 km_RX8_241 kin_X8_gainBy ks_X8_gainBy ki_RX8 kc_X8_gainBy, by decide +kernel⟩
theorem kc_X8_bestOfMenu : Cond.code yX8_bestOfMenu cX8_bestOfMenu 6 (some .int) ∈ sn_gw := sn_gwI (lb_3 (lt_16 (lt_16 (lt_16 (lt_16 (lt_16 lt_h)))))) gw_code
theorem km_RX8_238 : Cond.methodLink RX8 238 yX8_bestOfMenu ∈ sn_gw := sn_gwI (lb_3 (lt_16 (lt_16 (lt_16 (lt_16 (lt_13 lt_h)))))) gw_methodLink
theorem kin_X8_bestOfMenu : Cond.instanceMethod yX8_bestOfMenu ∈ sn_gw := sn_gwI (lb_3 (lt_16 (lt_16 (lt_16 (lt_16 (lt_15 lt_h)))))) gw_instanceMethod
theorem ks_X8_bestOfMenu : Cond.selects RX8 yX8_bestOfMenu yX8_bestOfMenu ∈ sn_gw := sn_gwS (q := (yX8_bestOfMenu, 12)) (List.mem_of_getElem? (i := 26) (by decide +kernel)) (by decide +kernel)
theorem kl_RX8_238 : sn_LV RX8 238 yX8_bestOfMenu cX8_bestOfMenu 6 (some .int) 1 := ⟨sn_lv5 km_RX8_238 kin_X8_bestOfMenu ks_X8_bestOfMenu ki_RX8 kc_X8_bestOfMenu, by decide +kernel⟩
theorem kc_X8_priceFor : Cond.code yX8_priceFor cX8_priceFor 6 (some .int) ∈ sn_gw := sn_gwI (lb_3 (lt_16 (lt_16 (lt_16 (lt_16 (lt_16 (lt_16 (lt_5 lt_h)))))))) gw_code
theorem km_RX8_244 : Cond.methodLink RX8 244 yX8_priceFor ∈ sn_gw := sn_gwI (lb_3 (lt_16 (lt_16 (lt_16 (lt_16 (lt_16 (lt_16 (lt_2 lt_h)))))))) gw_methodLink
theorem kin_X8_priceFor : Cond.instanceMethod yX8_priceFor ∈ sn_gw := sn_gwI (lb_3 (lt_16 (lt_16 (lt_16 (lt_16 (lt_16 (lt_16 (lt_4 lt_h)))))))) gw_instanceMethod
theorem ks_X8_priceFor : Cond.selects RX8 yX8_priceFor yX8_priceFor ∈ sn_gw := sn_gwS (q := (yX8_priceFor, 12)) (List.mem_of_getElem? (i := 29) (by decide +kernel)) (by decide +kernel)
theorem kl_RX8_244 : sn_LV RX8 244 yX8_priceFor cX8_priceFor 6 (some .int) 2 := ⟨sn_lv5 km_RX8_244 kin_X8_priceFor ks_X8_priceFor ki_RX8 kc_X8_priceFor, by decide +kernel⟩
theorem kf_RX8_61 : Cond.fieldLink RX8 61 (TX8 9).1 (TX8 9).2.1 (TX8 9).2.2.1 ∈ sn_gw := sn_gwI (lb_1 (lt_16 (lt_16 (lt_16 (lt_9 lt_h))))) gw_fieldLink
theorem fd_RX8_61 : sn_Fd RX8 61 8 9 := ⟨RX8, TX8, 12, rfl, ug_X8, by decide, kf_RX8_61⟩
theorem kc_X1_reckon : Cond.code yX1_reckon cX1_reckon 7 none ∈ sn_gw := sn_gwI (lb_3 (lt_16 (lt_16 (lt_16 (lt_16 (lt_16 (lt_16 (lt_13 lt_h)))))))) gw_code
theorem km_RX8_254 : Cond.methodLink RX8 254 yX1_reckon ∈ sn_gw := sn_gwI (lb_3 (lt_16 (lt_16 (lt_16 (lt_16 (lt_16 (lt_16 (lt_10 lt_h)))))))) gw_methodLink
theorem kin_X1_reckon : Cond.instanceMethod yX1_reckon ∈ sn_gw := sn_gwI (lb_3 (lt_16 (lt_16 (lt_16 (lt_16 (lt_16 (lt_16 (lt_11 lt_h)))))))) gw_instanceMethod
theorem ks_X1_reckon : Cond.selects RX1 yX1_reckon yX1_reckon ∈ sn_gw := sn_gwI (lb_3 (lt_16 (lt_16 (lt_16 (lt_16 (lt_16 (lt_16 (lt_12 lt_h)))))))) gw_selects
theorem kl_RX8_254 : sn_LV RX8 254 yX1_reckon cX1_reckon 7 none 3 := ⟨sn_lv5 km_RX8_254 kin_X1_reckon ks_X1_reckon ki_RX1 kc_X1_reckon, by decide +kernel⟩
theorem kc_X1_fewest : Cond.code yX1_fewest cX1_fewest 1 (some .int) ∈ sn_gw := sn_gwI (lb_3 (lt_16 (lt_16 (lt_16 (lt_16 (lt_16 (lt_16 (lt_16 (lt_16 lt_h))))))))) gw_code
theorem km_RX8_255 : Cond.methodLink RX8 255 yX1_fewest ∈ sn_gw := sn_gwI (lb_3 (lt_16 (lt_16 (lt_16 (lt_16 (lt_16 (lt_16 (lt_16 (lt_13 lt_h))))))))) gw_methodLink
theorem kin_X1_fewest : Cond.instanceMethod yX1_fewest ∈ sn_gw := sn_gwI (lb_3 (lt_16 (lt_16 (lt_16 (lt_16 (lt_16 (lt_16 (lt_16 (lt_14 lt_h))))))))) gw_instanceMethod
theorem ks_X1_fewest : Cond.selects RX1 yX1_fewest yX1_fewest ∈ sn_gw := sn_gwI (lb_3 (lt_16 (lt_16 (lt_16 (lt_16 (lt_16 (lt_16 (lt_16 (lt_15 lt_h))))))))) gw_selects
theorem kl_RX8_255 : sn_LV RX8 255 yX1_fewest cX1_fewest 1 (some .int) 0 := ⟨sn_lv5 km_RX8_255 kin_X1_fewest ks_X1_fewest ki_RX1 kc_X1_fewest, by decide +kernel⟩
theorem kc_X1_minutesHeld : Cond.code yX1_minutesHeld cX1_minutesHeld 1 (some .int) ∈ sn_gw := sn_gwI (lb_3 (lt_16 (lt_16 (lt_16 (lt_16 (lt_16 (lt_16 (lt_16 (lt_16 (lt_8 lt_h)))))))))) gw_code
theorem km_RX8_258 : Cond.methodLink RX8 258 yX1_minutesHeld ∈ sn_gw := sn_gwI (lb_3 (lt_16 (lt_16 (lt_16 (lt_16 (lt_16 (lt_16 (lt_16 (lt_16 (lt_5 lt_h)))))))))) gw_methodLink
theorem kin_X1_minutesHeld : Cond.instanceMethod yX1_minutesHeld ∈ sn_gw := sn_gwI (lb_3 (lt_16 (lt_16 (lt_16 (lt_16 (lt_16 (lt_16 (lt_16 (lt_16 (lt_6 lt_h)))))))))) gw_instanceMethod
theorem ks_X1_minutesHeld : Cond.selects RX1 yX1_minutesHeld yX1_minutesHeld ∈ sn_gw := sn_gwI (lb_3 (lt_16 (lt_16 (lt_16 (lt_16 (lt_16 (lt_16 (lt_16 (lt_16 (lt_7 lt_h)))))))))) gw_selects
theorem kl_RX8_258 : sn_LV RX8 258 yX1_minutesHeld cX1_minutesHeld 1 (some .int) 0 := ⟨sn_lv5 km_RX8_258 kin_X1_minutesHeld ks_X1_minutesHeld ki_RX1 kc_X1_minutesHeld, by decide +kernel⟩
theorem kf_RX8_264 : Cond.fieldLink RX8 264 (TX0 8).1 (TX0 8).2.1 (TX0 8).2.2.1 ∈ sn_gw := sn_gwI (lb_0 (lt_16 (lt_16 (lt_16 (lt_16 (lt_16 (lt_16 (lt_16 (lt_16 (lt_16 (lt_14 lt_h))))))))))) gw_fieldLink
theorem fd_RX8_264 : sn_Fd RX8 264 0 8 := ⟨RX0, TX0, 14, rfl, ug_X0, by decide, kf_RX8_264⟩
theorem km_RX8_267 : Cond.methodLink RX8 267 yX0_live ∈ sn_gw := sn_gwI (lb_3 (lt_16 (lt_16 (lt_16 (lt_16 (lt_16 (lt_16 (lt_16 (lt_16 (lt_16 (lt_1 lt_h))))))))))) gw_methodLink
theorem kl_RX8_267 : sn_LV RX8 267 yX0_live cX0_live 4 none 2 := ⟨sn_lv5 km_RX8_267 kin_X0_live ks_X0_live ki_RX0 kc_X0_live, by decide +kernel⟩
theorem kc_X8_minutesOfFraud : Cond.code yX8_minutesOfFraud cX8_minutesOfFraud 6 (some .int) ∈ sn_gw := sn_gwI (lb_3 (lt_16 (lt_16 (lt_16 (lt_16 (lt_16 (lt_16 (lt_16 (lt_16 (lt_16 lt_h)))))))))) gw_code
theorem km_RX8_261 : Cond.methodLink RX8 261 yX8_minutesOfFraud ∈ sn_gw := sn_gwI (lb_3 (lt_16 (lt_16 (lt_16 (lt_16 (lt_16 (lt_16 (lt_16 (lt_16 (lt_13 lt_h)))))))))) gw_methodLink
theorem kin_X8_minutesOfFraud : Cond.instanceMethod yX8_minutesOfFraud ∈ sn_gw := sn_gwI (lb_3 (lt_16 (lt_16 (lt_16 (lt_16 (lt_16 (lt_16 (lt_16 (lt_16 (lt_15 lt_h)))))))))) gw_instanceMethod
theorem ks_X8_minutesOfFraud : Cond.selects RX8 yX8_minutesOfFraud yX8_minutesOfFraud ∈ sn_gw := sn_gwS (q := (yX8_minutesOfFraud, 12)) (List.mem_of_getElem? (i := 31) (by decide +kernel)) (by decide +kernel)
theorem kl_RX8_261 : sn_LV RX8 261 yX8_minutesOfFraud cX8_minutesOfFraud 6 (some .int) 1 := ⟨sn_lv5 km_RX8_261 kin_X8_minutesOfFraud ks_X8_minutesOfFraud ki_RX8 kc_X8_minutesOfFraud, by decide +kernel⟩
theorem kf_RX8_37 : Cond.fieldLink RX8 37 (TX8 5).1 (TX8 5).2.1 (TX8 5).2.2.1 ∈ sn_gw := sn_gwI (lb_1 (lt_16 (lt_16 (lt_16 (lt_5 lt_h))))) gw_fieldLink
theorem fd_RX8_37 : sn_Fd RX8 37 8 5 := ⟨RX8, TX8, 12, rfl, ug_X8, by decide, kf_RX8_37⟩
theorem kf_RX8_293 : Cond.fieldLink RX8 293 (TX6 2).1 (TX6 2).2.1 (TX6 2).2.2.1 ∈ sn_gw := sn_gwI (lb_0 (lt_16 (lt_16 (lt_16 (lt_16 (lt_16 (lt_16 (lt_16 (lt_7 lt_h))))))))) gw_fieldLink
theorem fd_RX8_293 : sn_Fd RX8 293 6 2 := ⟨RX6, TX6, 3, rfl, ug_X6, by decide, kf_RX8_293⟩
theorem kf_RX8_68 : Cond.fieldLink RX8 68 (TX8 10).1 (TX8 10).2.1 (TX8 10).2.2.1 ∈ sn_gw := sn_gwI (lb_1 (lt_16 (lt_16 (lt_16 (lt_10 lt_h))))) gw_fieldLink
theorem fd_RX8_68 : sn_Fd RX8 68 8 10 := ⟨RX8, TX8, 12, rfl, ug_X8, by decide, kf_RX8_68⟩
theorem kf_RX8_299 : Cond.fieldLink RX8 299 (TX6 0).1 (TX6 0).2.1 (TX6 0).2.2.1 ∈ sn_gw := sn_gwI (lb_0 (lt_16 (lt_16 (lt_16 (lt_16 (lt_16 (lt_16 (lt_16 (lt_3 lt_h))))))))) gw_fieldLink
theorem fd_RX8_299 : sn_Fd RX8 299 6 0 := ⟨RX6, TX6, 3, rfl, ug_X6, by decide, kf_RX8_299⟩
theorem kf_RX8_303 : Cond.fieldLink RX8 303 (TX7 0).1 (TX7 0).2.1 (TX7 0).2.2.1 ∈ sn_gw := sn_gwI (lb_1 (lt_1 lt_h)) gw_fieldLink
theorem fd_RX8_303 : sn_Fd RX8 303 7 0 := ⟨RX7, TX7, 5, rfl, ug_X7, by decide, kf_RX8_303⟩
theorem kc_X7_seekIn : Cond.code yX7_seekIn cX7_seekIn 5 none ∈ sn_gw := sn_gwI (lb_3 (lt_16 (lt_16 (lt_16 (lt_16 (lt_16 (lt_16 (lt_16 (lt_16 (lt_16 (lt_16 (lt_13 lt_h)))))))))))) gw_code
theorem km_RX8_306 : Cond.methodLink RX8 306 yX7_seekIn ∈ sn_gw := sn_gwI (lb_3 (lt_16 (lt_16 (lt_16 (lt_16 (lt_16 (lt_16 (lt_16 (lt_16 (lt_16 (lt_16 (lt_10 lt_h)))))))))))) gw_methodLink
theorem kin_X7_seekIn : Cond.instanceMethod yX7_seekIn ∈ sn_gw := sn_gwI (lb_3 (lt_16 (lt_16 (lt_16 (lt_16 (lt_16 (lt_16 (lt_16 (lt_16 (lt_16 (lt_16 (lt_11 lt_h)))))))))))) gw_instanceMethod
theorem ks_X7_seekIn : Cond.selects RX7 yX7_seekIn yX7_seekIn ∈ sn_gw := sn_gwI (lb_3 (lt_16 (lt_16 (lt_16 (lt_16 (lt_16 (lt_16 (lt_16 (lt_16 (lt_16 (lt_16 (lt_12 lt_h)))))))))))) gw_selects
theorem kl_RX8_306 : sn_LV RX8 306 yX7_seekIn cX7_seekIn 5 none 2 := ⟨sn_lv5 km_RX8_306 kin_X7_seekIn ks_X7_seekIn ki_RX7 kc_X7_seekIn, by decide +kernel⟩
theorem kc_X6_isSlot : Cond.code yX6_isSlot cX6_isSlot 1 (some .boolean) ∈ sn_gw := sn_gwI (lb_3 (lt_16 (lt_16 (lt_16 (lt_16 (lt_16 (lt_16 (lt_16 (lt_16 (lt_16 (lt_16 lt_h))))))))))) gw_code
theorem km_RX8_287 : Cond.methodLink RX8 287 yX6_isSlot ∈ sn_gw := sn_gwI (lb_3 (lt_16 (lt_16 (lt_16 (lt_16 (lt_16 (lt_16 (lt_16 (lt_16 (lt_16 (lt_14 lt_h))))))))))) gw_methodLink
theorem kst_X6_isSlot : Cond.static yX6_isSlot ∈ sn_gw := sn_gwI (lb_3 (lt_16 (lt_16 (lt_16 (lt_16 (lt_16 (lt_16 (lt_16 (lt_16 (lt_16 (lt_15 lt_h))))))))))) gw_static
theorem kl_RX8_287 : sn_LS RX8 287 yX6_isSlot cX6_isSlot 1 (some .boolean) 1 := ⟨sn_ls4 km_RX8_287 kst_X6_isSlot ki_RX6 kc_X6_isSlot, by decide +kernel⟩
theorem km_RX8_290 : Cond.methodLink RX8 290 yX6_has ∈ sn_gw := sn_gwI (lb_3 (lt_16 (lt_16 (lt_16 (lt_16 (lt_16 (lt_16 (lt_16 (lt_16 (lt_16 (lt_16 (lt_1 lt_h)))))))))))) gw_methodLink
theorem kl_RX8_290 : sn_LV RX8 290 yX6_has cX6_has 2 (some .boolean) 1 := ⟨sn_lv5 km_RX8_290 kin_X6_has ks_X6_has ki_RX6 kc_X6_has, by decide +kernel⟩
theorem kc_X7_forget : Cond.code yX7_forget cX7_forget 1 none ∈ sn_gw := sn_gwI (lb_3 (lt_16 (lt_16 (lt_16 (lt_16 (lt_16 (lt_16 (lt_16 (lt_16 (lt_16 (lt_16 (lt_8 lt_h)))))))))))) gw_code
theorem km_RX8_296 : Cond.methodLink RX8 296 yX7_forget ∈ sn_gw := sn_gwI (lb_3 (lt_16 (lt_16 (lt_16 (lt_16 (lt_16 (lt_16 (lt_16 (lt_16 (lt_16 (lt_16 (lt_5 lt_h)))))))))))) gw_methodLink
theorem kin_X7_forget : Cond.instanceMethod yX7_forget ∈ sn_gw := sn_gwI (lb_3 (lt_16 (lt_16 (lt_16 (lt_16 (lt_16 (lt_16 (lt_16 (lt_16 (lt_16 (lt_16 (lt_6 lt_h)))))))))))) gw_instanceMethod
theorem ks_X7_forget : Cond.selects RX7 yX7_forget yX7_forget ∈ sn_gw := sn_gwI (lb_3 (lt_16 (lt_16 (lt_16 (lt_16 (lt_16 (lt_16 (lt_16 (lt_16 (lt_16 (lt_16 (lt_7 lt_h)))))))))))) gw_selects
theorem kl_RX8_296 : sn_LV RX8 296 yX7_forget cX7_forget 1 none 0 := ⟨sn_lv5 km_RX8_296 kin_X7_forget ks_X7_forget ki_RX7 kc_X7_forget, by decide +kernel⟩
theorem kf_RX8_274 : Cond.fieldLink RX8 274 (TX7 1).1 (TX7 1).2.1 (TX7 1).2.2.1 ∈ sn_gw := sn_gwI (lb_1 (lt_3 lt_h)) gw_fieldLink
theorem fd_RX8_274 : sn_Fd RX8 274 7 1 := ⟨RX7, TX7, 5, rfl, ug_X7, by decide, kf_RX8_274⟩
theorem kc_X8_seek : Cond.code yX8_seek cX8_seek 7 (some .int) ∈ sn_gw := sn_gwI (lb_3 (lt_16 (lt_16 (lt_16 (lt_16 (lt_16 (lt_16 (lt_16 (lt_16 (lt_16 (lt_13 lt_h))))))))))) gw_code
theorem km_RX8_271 : Cond.methodLink RX8 271 yX8_seek ∈ sn_gw := sn_gwI (lb_3 (lt_16 (lt_16 (lt_16 (lt_16 (lt_16 (lt_16 (lt_16 (lt_16 (lt_16 (lt_10 lt_h))))))))))) gw_methodLink
theorem kin_X8_seek : Cond.instanceMethod yX8_seek ∈ sn_gw := sn_gwI (lb_3 (lt_16 (lt_16 (lt_16 (lt_16 (lt_16 (lt_16 (lt_16 (lt_16 (lt_16 (lt_12 lt_h))))))))))) gw_instanceMethod
theorem ks_X8_seek : Cond.selects RX8 yX8_seek yX8_seek ∈ sn_gw := sn_gwS (q := (yX8_seek, 12)) (List.mem_of_getElem? (i := 32) (by decide +kernel)) (by decide +kernel)
theorem kl_RX8_271 : sn_LV RX8 271 yX8_seek cX8_seek 7 (some .int) 1 := ⟨sn_lv5 km_RX8_271 kin_X8_seek ks_X8_seek ki_RX8 kc_X8_seek, by decide +kernel⟩
theorem kf_RX8_277 : Cond.fieldLink RX8 277 (TX7 2).1 (TX7 2).2.1 (TX7 2).2.2.1 ∈ sn_gw := sn_gwI (lb_1 (lt_5 lt_h)) gw_fieldLink
theorem fd_RX8_277 : sn_Fd RX8 277 7 2 := ⟨RX7, TX7, 5, rfl, ug_X7, by decide, kf_RX8_277⟩
theorem kf_RX8_278 : Cond.fieldLink RX8 278 (TX7 3).1 (TX7 3).2.1 (TX7 3).2.2.1 ∈ sn_gw := sn_gwI (lb_1 (lt_7 lt_h)) gw_fieldLink
theorem fd_RX8_278 : sn_Fd RX8 278 7 3 := ⟨RX7, TX7, 5, rfl, ug_X7, by decide, kf_RX8_278⟩
theorem kc_X7_whomToAsk : Cond.code yX7_whomToAsk cX7_whomToAsk 6 (some .int) ∈ sn_gw := sn_gwI (lb_3 (lt_16 (lt_16 (lt_16 (lt_16 (lt_16 (lt_16 (lt_16 (lt_16 (lt_16 (lt_16 (lt_16 (lt_16 (lt_9 lt_h)))))))))))))) gw_code
theorem km_RX8_281 : Cond.methodLink RX8 281 yX7_whomToAsk ∈ sn_gw := sn_gwI (lb_3 (lt_16 (lt_16 (lt_16 (lt_16 (lt_16 (lt_16 (lt_16 (lt_16 (lt_16 (lt_16 (lt_16 (lt_16 (lt_6 lt_h)))))))))))))) gw_methodLink
theorem kin_X7_whomToAsk : Cond.instanceMethod yX7_whomToAsk ∈ sn_gw := sn_gwI (lb_3 (lt_16 (lt_16 (lt_16 (lt_16 (lt_16 (lt_16 (lt_16 (lt_16 (lt_16 (lt_16 (lt_16 (lt_16 (lt_7 lt_h)))))))))))))) gw_instanceMethod
theorem ks_X7_whomToAsk : Cond.selects RX7 yX7_whomToAsk yX7_whomToAsk ∈ sn_gw := sn_gwI (lb_3 (lt_16 (lt_16 (lt_16 (lt_16 (lt_16 (lt_16 (lt_16 (lt_16 (lt_16 (lt_16 (lt_16 (lt_16 (lt_8 lt_h)))))))))))))) gw_selects
theorem kl_RX8_281 : sn_LV RX8 281 yX7_whomToAsk cX7_whomToAsk 6 (some .int) 1 := ⟨sn_lv5 km_RX8_281 kin_X7_whomToAsk ks_X7_whomToAsk ki_RX7 kc_X7_whomToAsk, by decide +kernel⟩
theorem km_RX8_284 : Cond.methodLink RX8 284 yX7_atWorst ∈ sn_gw := sn_gwI (lb_3 (lt_16 (lt_16 (lt_16 (lt_16 (lt_16 (lt_16 (lt_16 (lt_16 (lt_16 (lt_16 (lt_16 (lt_16 (lt_16 (lt_3 lt_h))))))))))))))) gw_methodLink
theorem kl_RX8_284 : sn_LV RX8 284 yX7_atWorst cX7_atWorst 4 (some .int) 1 := ⟨sn_lv5 km_RX8_284 kin_X7_atWorst ks_X7_atWorst ki_RX7 kc_X7_atWorst, by decide +kernel⟩
theorem kc_X8_lossOf : Cond.code yX8_lossOf cX8_lossOf 6 (some .int) ∈ sn_gw := sn_gwI (lb_3 (lt_16 (lt_16 (lt_16 (lt_16 (lt_16 (lt_16 (lt_16 (lt_16 (lt_16 (lt_16 (lt_16 (lt_16 (lt_16 (lt_11 lt_h))))))))))))))) gw_code
theorem km_RX8_310 : Cond.methodLink RX8 310 yX8_lossOf ∈ sn_gw := sn_gwI (lb_3 (lt_16 (lt_16 (lt_16 (lt_16 (lt_16 (lt_16 (lt_16 (lt_16 (lt_16 (lt_16 (lt_16 (lt_16 (lt_16 (lt_8 lt_h))))))))))))))) gw_methodLink
theorem kin_X8_lossOf : Cond.instanceMethod yX8_lossOf ∈ sn_gw := sn_gwI (lb_3 (lt_16 (lt_16 (lt_16 (lt_16 (lt_16 (lt_16 (lt_16 (lt_16 (lt_16 (lt_16 (lt_16 (lt_16 (lt_16 (lt_10 lt_h))))))))))))))) gw_instanceMethod
theorem ks_X8_lossOf : Cond.selects RX8 yX8_lossOf yX8_lossOf ∈ sn_gw := sn_gwS (q := (yX8_lossOf, 12)) (List.mem_of_getElem? (i := 35) (by decide +kernel)) (by decide +kernel)
theorem kl_RX8_310 : sn_LV RX8 310 yX8_lossOf cX8_lossOf 6 (some .int) 4 := ⟨sn_lv5 km_RX8_310 kin_X8_lossOf ks_X8_lossOf ki_RX8 kc_X8_lossOf, by decide +kernel⟩
theorem kk_RX8_317 : Cond.constantLong RX8 317 (-2) ∈ sn_gw := sn_gwI (lb_3 (lt_16 (lt_16 (lt_16 (lt_16 (lt_16 (lt_16 (lt_16 (lt_16 (lt_16 (lt_16 (lt_16 (lt_16 (lt_16 (lt_16 (lt_8 lt_h)))))))))))))))) (by decide +kernel)
theorem kf_RX8_75 : Cond.fieldLink RX8 75 (TX8 11).1 (TX8 11).2.1 (TX8 11).2.2.1 ∈ sn_gw := sn_gwI (lb_1 (lt_16 (lt_16 (lt_16 (lt_11 lt_h))))) gw_fieldLink
theorem fd_RX8_75 : sn_Fd RX8 75 8 11 := ⟨RX8, TX8, 12, rfl, ug_X8, by decide, kf_RX8_75⟩
theorem kf_RX8_326 : Cond.fieldLink RX8 326 (TX4 1).1 (TX4 1).2.1 (TX4 1).2.2.1 ∈ sn_gw := sn_gwI (lb_1 (lt_16 (lt_16 (lt_1 lt_h)))) gw_fieldLink
theorem fd_RX8_326 : sn_Fd RX8 326 4 1 := ⟨RX4, TX4, 5, rfl, ug_X4, by decide, kf_RX8_326⟩
theorem kf_RX8_322 : Cond.fieldLink RX8 322 (TX4 0).1 (TX4 0).2.1 (TX4 0).2.2.1 ∈ sn_gw := sn_gwI (lb_1 (lt_16 (lt_15 lt_h))) gw_fieldLink
theorem fd_RX8_322 : sn_Fd RX8 322 4 0 := ⟨RX4, TX4, 5, rfl, ug_X4, by decide, kf_RX8_322⟩
theorem kc_X8_isPuffMinute : Cond.code yX8_isPuffMinute cX8_isPuffMinute 2 (some .boolean) ∈ sn_gw := sn_gwI (lb_3 (lt_16 (lt_16 (lt_16 (lt_16 (lt_16 (lt_16 (lt_16 (lt_16 (lt_16 (lt_16 (lt_16 (lt_16 (lt_16 (lt_16 (lt_7 lt_h)))))))))))))))) gw_code
theorem km_RX8_314 : Cond.methodLink RX8 314 yX8_isPuffMinute ∈ sn_gw := sn_gwI (lb_3 (lt_16 (lt_16 (lt_16 (lt_16 (lt_16 (lt_16 (lt_16 (lt_16 (lt_16 (lt_16 (lt_16 (lt_16 (lt_16 (lt_16 (lt_4 lt_h)))))))))))))))) gw_methodLink
theorem kin_X8_isPuffMinute : Cond.instanceMethod yX8_isPuffMinute ∈ sn_gw := sn_gwI (lb_3 (lt_16 (lt_16 (lt_16 (lt_16 (lt_16 (lt_16 (lt_16 (lt_16 (lt_16 (lt_16 (lt_16 (lt_16 (lt_16 (lt_16 (lt_6 lt_h)))))))))))))))) gw_instanceMethod
theorem ks_X8_isPuffMinute : Cond.selects RX8 yX8_isPuffMinute yX8_isPuffMinute ∈ sn_gw := sn_gwS (q := (yX8_isPuffMinute, 12)) (List.mem_of_getElem? (i := 36) (by decide +kernel)) (by decide +kernel)
theorem kl_RX8_314 : sn_LV RX8 314 yX8_isPuffMinute cX8_isPuffMinute 2 (some .boolean) 1 := ⟨sn_lv5 km_RX8_314 kin_X8_isPuffMinute ks_X8_isPuffMinute ki_RX8 kc_X8_isPuffMinute, by decide +kernel⟩
theorem kc_X4_reckon : Cond.code yX4_reckon cX4_reckon 10 none ∈ sn_gw := sn_gwI (lb_3 (lt_16 (lt_16 (lt_16 (lt_16 (lt_16 (lt_16 (lt_16 (lt_16 (lt_16 (lt_16 (lt_16 (lt_16 (lt_16 (lt_16 (lt_12 lt_h)))))))))))))))) gw_code
theorem km_RX8_319 : Cond.methodLink RX8 319 yX4_reckon ∈ sn_gw := sn_gwI (lb_3 (lt_16 (lt_16 (lt_16 (lt_16 (lt_16 (lt_16 (lt_16 (lt_16 (lt_16 (lt_16 (lt_16 (lt_16 (lt_16 (lt_16 (lt_9 lt_h)))))))))))))))) gw_methodLink
theorem kin_X4_reckon : Cond.instanceMethod yX4_reckon ∈ sn_gw := sn_gwI (lb_3 (lt_16 (lt_16 (lt_16 (lt_16 (lt_16 (lt_16 (lt_16 (lt_16 (lt_16 (lt_16 (lt_16 (lt_16 (lt_16 (lt_16 (lt_10 lt_h)))))))))))))))) gw_instanceMethod
theorem ks_X4_reckon : Cond.selects RX4 yX4_reckon yX4_reckon ∈ sn_gw := sn_gwI (lb_3 (lt_16 (lt_16 (lt_16 (lt_16 (lt_16 (lt_16 (lt_16 (lt_16 (lt_16 (lt_16 (lt_16 (lt_16 (lt_16 (lt_16 (lt_11 lt_h)))))))))))))))) gw_selects
theorem kl_RX8_319 : sn_LV RX8 319 yX4_reckon cX4_reckon 10 none 5 := ⟨sn_lv5 km_RX8_319 kin_X4_reckon ks_X4_reckon ki_RX4 kc_X4_reckon, by decide +kernel⟩
theorem kk_RX8_376 : Cond.constant RX8 376 (2000000000) ∈ sn_gw := sn_gwI (lb_4 (lt_16 (lt_16 lt_h))) (by decide +kernel)
theorem kk_RX8_335 : Cond.constantLong RX8 335 (1103515245) ∈ sn_gw := sn_gwI (lb_4 (lt_16 (lt_16 (lt_5 lt_h)))) (by decide +kernel)
theorem kk_RX8_337 : Cond.constantLong RX8 337 (12345) ∈ sn_gw := sn_gwI (lb_4 (lt_16 (lt_16 (lt_6 lt_h)))) (by decide +kernel)
theorem kk_RX8_339 : Cond.constantLong RX8 339 (2147483648) ∈ sn_gw := sn_gwI (lb_4 (lt_16 (lt_16 (lt_7 lt_h)))) (by decide +kernel)
theorem kk_RX8_341 : Cond.constantLong RX8 341 (65536) ∈ sn_gw := sn_gwI (lb_4 (lt_16 (lt_16 (lt_8 lt_h)))) (by decide +kernel)
theorem kk_RX8_343 : Cond.constantLong RX8 343 (10) ∈ sn_gw := sn_gwI (lb_4 (lt_16 (lt_16 (lt_9 lt_h)))) (by decide +kernel)
theorem kc_X8_isSeed : Cond.code yX8_isSeed cX8_isSeed 1 (some .boolean) ∈ sn_gw := sn_gwI (lb_4 (lt_16 (lt_15 lt_h))) gw_code
theorem km_RX8_329 : Cond.methodLink RX8 329 yX8_isSeed ∈ sn_gw := sn_gwI (lb_4 (lt_16 (lt_13 lt_h))) gw_methodLink
theorem kst_X8_isSeed : Cond.static yX8_isSeed ∈ sn_gw := sn_gwI (lb_4 (lt_16 (lt_14 lt_h))) gw_static
theorem kl_RX8_329 : sn_LS RX8 329 yX8_isSeed cX8_isSeed 1 (some .boolean) 1 := ⟨sn_ls4 km_RX8_329 kst_X8_isSeed ki_RX8 kc_X8_isSeed, by decide +kernel⟩
theorem kc_X8_liveDrawn : Cond.code yX8_liveDrawn cX8_liveDrawn 6 (some .int) ∈ sn_gw := sn_gwI (lb_4 (lt_16 (lt_16 (lt_4 lt_h)))) gw_code
theorem km_RX8_332 : Cond.methodLink RX8 332 yX8_liveDrawn ∈ sn_gw := sn_gwI (lb_4 (lt_16 (lt_16 (lt_1 lt_h)))) gw_methodLink
theorem kin_X8_liveDrawn : Cond.instanceMethod yX8_liveDrawn ∈ sn_gw := sn_gwI (lb_4 (lt_16 (lt_16 (lt_3 lt_h)))) gw_instanceMethod
theorem ks_X8_liveDrawn : Cond.selects RX8 yX8_liveDrawn yX8_liveDrawn ∈ sn_gw := sn_gwS (q := (yX8_liveDrawn, 12)) (List.mem_of_getElem? (i := 40) (by decide +kernel)) (by decide +kernel)
theorem kl_RX8_332 : sn_LV RX8 332 yX8_liveDrawn cX8_liveDrawn 6 (some .int) 1 := ⟨sn_lv5 km_RX8_332 kin_X8_liveDrawn ks_X8_liveDrawn ki_RX8 kc_X8_liveDrawn, by decide +kernel⟩
theorem kc_X2_act : Cond.code yX2_act cX2_act 5 (some .boolean) ∈ sn_gw := sn_gwI (lb_4 (lt_16 (lt_16 (lt_16 (lt_5 lt_h))))) gw_code
theorem km_RX8_345 : Cond.methodLink RX8 345 yX2_act ∈ sn_gw := sn_gwI (lb_4 (lt_16 (lt_16 (lt_16 (lt_2 lt_h))))) gw_methodLink
theorem kin_X2_act : Cond.instanceMethod yX2_act ∈ sn_gw := sn_gwI (lb_4 (lt_16 (lt_16 (lt_16 (lt_3 lt_h))))) gw_instanceMethod
theorem ks_X2_act : Cond.selects RX2 yX2_act yX2_act ∈ sn_gw := sn_gwI (lb_4 (lt_16 (lt_16 (lt_16 (lt_4 lt_h))))) gw_selects
theorem kl_RX8_345 : sn_LV RX8 345 yX2_act cX2_act 5 (some .boolean) 3 := ⟨sn_lv5 km_RX8_345 kin_X2_act ks_X2_act ki_RX2 kc_X2_act, by decide +kernel⟩
theorem kf_RX8_349 : Cond.fieldLink RX8 349 (TX2 4).1 (TX2 4).2.1 (TX2 4).2.2.1 ∈ sn_gw := sn_gwI (lb_0 (lt_16 (lt_16 (lt_16 (lt_3 lt_h))))) gw_fieldLink
theorem fd_RX8_349 : sn_Fd RX8 349 2 4 := ⟨RX2, TX2, 6, rfl, ug_X2, by decide, kf_RX8_349⟩
theorem kc_X6_howMany : Cond.code yX6_howMany cX6_howMany 3 (some .int) ∈ sn_gw := sn_gwI (lb_4 (lt_16 (lt_16 (lt_16 (lt_16 (lt_13 lt_h)))))) gw_code
theorem km_RX8_351 : Cond.methodLink RX8 351 yX6_howMany ∈ sn_gw := sn_gwI (lb_4 (lt_16 (lt_16 (lt_16 (lt_16 (lt_10 lt_h)))))) gw_methodLink
theorem kin_X6_howMany : Cond.instanceMethod yX6_howMany ∈ sn_gw := sn_gwI (lb_4 (lt_16 (lt_16 (lt_16 (lt_16 (lt_11 lt_h)))))) gw_instanceMethod
theorem ks_X6_howMany : Cond.selects RX6 yX6_howMany yX6_howMany ∈ sn_gw := sn_gwI (lb_4 (lt_16 (lt_16 (lt_16 (lt_16 (lt_12 lt_h)))))) gw_selects
theorem kl_RX8_351 : sn_LV RX8 351 yX6_howMany cX6_howMany 3 (some .int) 0 := ⟨sn_lv5 km_RX8_351 kin_X6_howMany ks_X6_howMany ki_RX6 kc_X6_howMany, by decide +kernel⟩
theorem kf_RX8_19 : Cond.fieldLink RX8 19 (TX8 2).1 (TX8 2).2.1 (TX8 2).2.2.1 ∈ sn_gw := sn_gwI (lb_1 (lt_16 (lt_16 (lt_16 (lt_2 lt_h))))) gw_fieldLink
theorem fd_RX8_19 : sn_Fd RX8 19 8 2 := ⟨RX8, TX8, 12, rfl, ug_X8, by decide, kf_RX8_19⟩
theorem kf_RX8_23 : Cond.fieldLink RX8 23 (TX8 3).1 (TX8 3).2.1 (TX8 3).2.2.1 ∈ sn_gw := sn_gwI (lb_1 (lt_16 (lt_16 (lt_16 (lt_3 lt_h))))) gw_fieldLink
theorem fd_RX8_23 : sn_Fd RX8 23 8 3 := ⟨RX8, TX8, 12, rfl, ug_X8, by decide, kf_RX8_23⟩
theorem kc_X6_make : Cond.code yX6_make cX6_make 4 none ∈ sn_gw := sn_gwI (lb_4 (lt_16 (lt_16 (lt_16 (lt_16 (lt_16 (lt_14 lt_h))))))) gw_code
theorem km_RX8_354 : Cond.methodLink RX8 354 yX6_make ∈ sn_gw := sn_gwI (lb_4 (lt_16 (lt_16 (lt_16 (lt_16 (lt_16 (lt_11 lt_h))))))) gw_methodLink
theorem kin_X6_make : Cond.instanceMethod yX6_make ∈ sn_gw := sn_gwI (lb_4 (lt_16 (lt_16 (lt_16 (lt_16 (lt_16 (lt_12 lt_h))))))) gw_instanceMethod
theorem ks_X6_make : Cond.selects RX6 yX6_make yX6_make ∈ sn_gw := sn_gwI (lb_4 (lt_16 (lt_16 (lt_16 (lt_16 (lt_16 (lt_13 lt_h))))))) gw_selects
theorem kl_RX8_354 : sn_LV RX8 354 yX6_make cX6_make 4 none 3 := ⟨sn_lv5 km_RX8_354 kin_X6_make ks_X6_make ki_RX6 kc_X6_make, by decide +kernel⟩
theorem kc_X6_put : Cond.code yX6_put cX6_put 5 none ∈ sn_gw := sn_gwI (lb_4 (lt_16 (lt_16 (lt_16 (lt_16 (lt_16 (lt_16 (lt_7 lt_h)))))))) gw_code
theorem km_RX8_358 : Cond.methodLink RX8 358 yX6_put ∈ sn_gw := sn_gwI (lb_4 (lt_16 (lt_16 (lt_16 (lt_16 (lt_16 (lt_16 (lt_4 lt_h)))))))) gw_methodLink
theorem kin_X6_put : Cond.instanceMethod yX6_put ∈ sn_gw := sn_gwI (lb_4 (lt_16 (lt_16 (lt_16 (lt_16 (lt_16 (lt_16 (lt_5 lt_h)))))))) gw_instanceMethod
theorem ks_X6_put : Cond.selects RX6 yX6_put yX6_put ∈ sn_gw := sn_gwI (lb_4 (lt_16 (lt_16 (lt_16 (lt_16 (lt_16 (lt_16 (lt_6 lt_h)))))))) gw_selects
theorem kl_RX8_358 : sn_LV RX8 358 yX6_put cX6_put 5 none 3 := ⟨sn_lv5 km_RX8_358 kin_X6_put ks_X6_put ki_RX6 kc_X6_put, by decide +kernel⟩
theorem kf_RX8_361 : Cond.fieldLink RX8 361 (TX6 1).1 (TX6 1).2.1 (TX6 1).2.2.1 ∈ sn_gw := sn_gwI (lb_0 (lt_16 (lt_16 (lt_16 (lt_16 (lt_16 (lt_16 (lt_16 (lt_5 lt_h))))))))) gw_fieldLink
theorem fd_RX8_361 : sn_Fd RX8 361 6 1 := ⟨RX6, TX6, 3, rfl, ug_X6, by decide, kf_RX8_361⟩
theorem kc_X6_spans : Cond.code yX6_spans cX6_spans 4 (some .boolean) ∈ sn_gw := sn_gwI (lb_4 (lt_16 (lt_16 (lt_16 (lt_16 (lt_16 (lt_16 (lt_15 lt_h)))))))) gw_code
theorem km_RX8_364 : Cond.methodLink RX8 364 yX6_spans ∈ sn_gw := sn_gwI (lb_4 (lt_16 (lt_16 (lt_16 (lt_16 (lt_16 (lt_16 (lt_12 lt_h)))))))) gw_methodLink
theorem kin_X6_spans : Cond.instanceMethod yX6_spans ∈ sn_gw := sn_gwI (lb_4 (lt_16 (lt_16 (lt_16 (lt_16 (lt_16 (lt_16 (lt_13 lt_h)))))))) gw_instanceMethod
theorem ks_X6_spans : Cond.selects RX6 yX6_spans yX6_spans ∈ sn_gw := sn_gwI (lb_4 (lt_16 (lt_16 (lt_16 (lt_16 (lt_16 (lt_16 (lt_14 lt_h)))))))) gw_selects
theorem kl_RX8_364 : sn_LV RX8 364 yX6_spans cX6_spans 4 (some .boolean) 3 := ⟨sn_lv5 km_RX8_364 kin_X6_spans ks_X6_spans ki_RX6 kc_X6_spans, by decide +kernel⟩
theorem km_RX8_367 : Cond.methodLink RX8 367 arraycopyName ∈ sn_gw := sn_gwI (lb_4 (lt_16 (lt_16 (lt_16 (lt_16 (lt_16 (lt_16 (lt_16 lt_h)))))))) gw_methodLink
