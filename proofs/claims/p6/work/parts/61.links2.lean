theorem km_RX2_3 : Cond.methodLink RX2 3 objectInit ∈ sn_gw := sn_gwI (List.mem_of_getElem? (i := 32) (by decide +kernel)) (by decide +kernel)
theorem kin_objectInit : Cond.instanceMethod objectInit ∈ sn_gw := sn_gwI (List.mem_of_getElem? (i := 25) (by decide +kernel)) (by decide +kernel)
theorem kc_objectInit : Cond.code objectInit ⟨#[0xb1]⟩ 1 none ∈ sn_gw := sn_gwI (List.mem_of_getElem? (i := 26) (by decide +kernel)) (by decide +kernel)
theorem ka_int : Cond.arrayClass .int ∈ sn_gw := sn_gwI (List.mem_of_getElem? (i := 66) (by decide +kernel)) (by decide +kernel)
theorem ff_RX2_9 : sn_Ff RX2 9 2 0 (.array .int) := ⟨RX2, TX2, 6, tyX2, rfl, ug_X2, by decide, kf_RX2_9, tyX2_ok, nmX2, rfl, rfl, by decide +kernel⟩
theorem ff_RX2_15 : sn_Ff RX2 15 2 1 (.array .int) := ⟨RX2, TX2, 6, tyX2, rfl, ug_X2, by decide, kf_RX2_15, tyX2_ok, nmX2, rfl, rfl, by decide +kernel⟩
theorem ff_RX2_18 : sn_Ff RX2 18 2 2 (.array .int) := ⟨RX2, TX2, 6, tyX2, rfl, ug_X2, by decide, kf_RX2_18, tyX2_ok, nmX2, rfl, rfl, by decide +kernel⟩
theorem ff_RX2_21 : sn_Ff RX2 21 2 3 (.array .int) := ⟨RX2, TX2, 6, tyX2, rfl, ug_X2, by decide, kf_RX2_21, tyX2_ok, nmX2, rfl, rfl, by decide +kernel⟩
theorem ff_RX2_24 : sn_Ff RX2 24 2 4 (.array .int) := ⟨RX2, TX2, 6, tyX2, rfl, ug_X2, by decide, kf_RX2_24, tyX2_ok, nmX2, rfl, rfl, by decide +kernel⟩
theorem ff_RX2_27 : sn_Ff RX2 27 2 5 (.array .int) := ⟨RX2, TX2, 6, tyX2, rfl, ug_X2, by decide, kf_RX2_27, tyX2_ok, nmX2, rfl, rfl, by decide +kernel⟩
theorem km_RX5_3 : Cond.methodLink RX5 3 objectInit ∈ sn_gw := sn_gwI (List.mem_of_getElem? (i := 73) (by decide +kernel)) (by decide +kernel)
theorem ff_RX5_9 : sn_Ff RX5 9 5 0 (.array .int) := ⟨RX5, TX5, 8, tyX5, rfl, ug_X5, by decide, kf_RX5_9, tyX5_ok, nmX5, rfl, rfl, by decide +kernel⟩
theorem km_RX0_3 : Cond.methodLink RX0 3 objectInit ∈ sn_gw := sn_gwI (List.mem_of_getElem? (i := 133) (by decide +kernel)) (by decide +kernel)
theorem ff_RX0_15 : sn_Ff RX0 15 0 4 (.array .int) := ⟨RX0, TX0, 14, tyX0, rfl, ug_X0, by decide, kf_RX0_15, tyX0_ok, nmX0, rfl, rfl, by decide +kernel⟩
theorem ff_RX0_19 : sn_Ff RX0 19 0 5 (.array .int) := ⟨RX0, TX0, 14, tyX0, rfl, ug_X0, by decide, kf_RX0_19, tyX0_ok, nmX0, rfl, rfl, by decide +kernel⟩
theorem ff_RX0_22 : sn_Ff RX0 22 0 6 (.array .int) := ⟨RX0, TX0, 14, tyX0, rfl, ug_X0, by decide, kf_RX0_22, tyX0_ok, nmX0, rfl, rfl, by decide +kernel⟩
theorem ff_RX0_25 : sn_Ff RX0 25 0 7 (.array .int) := ⟨RX0, TX0, 14, tyX0, rfl, ug_X0, by decide, kf_RX0_25, tyX0_ok, nmX0, rfl, rfl, by decide +kernel⟩
theorem ff_RX0_28 : sn_Ff RX0 28 0 8 (.array .int) := ⟨RX0, TX0, 14, tyX0, rfl, ug_X0, by decide, kf_RX0_28, tyX0_ok, nmX0, rfl, rfl, by decide +kernel⟩
theorem ff_RX0_31 : sn_Ff RX0 31 0 9 (.array .int) := ⟨RX0, TX0, 14, tyX0, rfl, ug_X0, by decide, kf_RX0_31, tyX0_ok, nmX0, rfl, rfl, by decide +kernel⟩
theorem ff_RX0_34 : sn_Ff RX0 34 0 10 (.array .int) := ⟨RX0, TX0, 14, tyX0, rfl, ug_X0, by decide, kf_RX0_34, tyX0_ok, nmX0, rfl, rfl, by decide +kernel⟩
theorem ff_RX0_37 : sn_Ff RX0 37 0 11 (.array .int) := ⟨RX0, TX0, 14, tyX0, rfl, ug_X0, by decide, kf_RX0_37, tyX0_ok, nmX0, rfl, rfl, by decide +kernel⟩
theorem ff_RX0_40 : sn_Ff RX0 40 0 12 (.array .int) := ⟨RX0, TX0, 14, tyX0, rfl, ug_X0, by decide, kf_RX0_40, tyX0_ok, nmX0, rfl, rfl, by decide +kernel⟩
theorem ff_RX0_43 : sn_Ff RX0 43 0 13 (.array .int) := ⟨RX0, TX0, 14, tyX0, rfl, ug_X0, by decide, kf_RX0_43, tyX0_ok, nmX0, rfl, rfl, by decide +kernel⟩
theorem km_RX3_3 : Cond.methodLink RX3 3 objectInit ∈ sn_gw := sn_gwI (List.mem_of_getElem? (i := 203) (by decide +kernel)) (by decide +kernel)
theorem ff_RX3_9 : sn_Ff RX3 9 3 0 (.array .int) := ⟨RX3, TX3, 4, tyX3, rfl, ug_X3, by decide, kf_RX3_9, tyX3_ok, nmX3, rfl, rfl, by decide +kernel⟩
theorem ff_RX3_15 : sn_Ff RX3 15 3 1 (.array .int) := ⟨RX3, TX3, 4, tyX3, rfl, ug_X3, by decide, kf_RX3_15, tyX3_ok, nmX3, rfl, rfl, by decide +kernel⟩
theorem km_RX1_3 : Cond.methodLink RX1 3 objectInit ∈ sn_gw := sn_gwI (List.mem_of_getElem? (i := 226) (by decide +kernel)) (by decide +kernel)
theorem ka_long : Cond.arrayClass .long ∈ sn_gw := sn_gwI (List.mem_of_getElem? (i := 127) (by decide +kernel)) (by decide +kernel)
theorem ff_RX1_9 : sn_Ff RX1 9 1 0 (.array .long) := ⟨RX1, TX1, 2, tyX1, rfl, ug_X1, by decide, kf_RX1_9, tyX1_ok, nmX1, rfl, rfl, by decide +kernel⟩
theorem km_RX7_3 : Cond.methodLink RX7 3 objectInit ∈ sn_gw := sn_gwI (List.mem_of_getElem? (i := 239) (by decide +kernel)) (by decide +kernel)
theorem ff_RX7_9 : sn_Ff RX7 9 7 0 (.array .int) := ⟨RX7, TX7, 5, tyX7, rfl, ug_X7, by decide, kf_RX7_9, tyX7_ok, nmX7, rfl, rfl, by decide +kernel⟩
theorem ff_RX7_15 : sn_Ff RX7 15 7 4 (.array .int) := ⟨RX7, TX7, 5, tyX7, rfl, ug_X7, by decide, kf_RX7_15, tyX7_ok, nmX7, rfl, rfl, by decide +kernel⟩
theorem km_RX6_3 : Cond.methodLink RX6 3 objectInit ∈ sn_gw := sn_gwI (List.mem_of_getElem? (i := 108) (by decide +kernel)) (by decide +kernel)
theorem kcl_RX6_9 : Cond.classLink RX6 9 "[[J" ∈ sn_gw := sn_gwI (List.mem_of_getElem? (i := 109) (by decide +kernel)) (by decide +kernel)
theorem ff_RX6_11 : sn_Ff RX6 11 6 0 (.array (.array .long)) := ⟨RX6, TX6, 3, tyX6, rfl, ug_X6, by decide, kf_RX6_11, tyX6_ok, nmX6, rfl, rfl, by decide +kernel⟩
theorem ff_RX6_16 : sn_Ff RX6 16 6 1 (.array .int) := ⟨RX6, TX6, 3, tyX6, rfl, ug_X6, by decide, kf_RX6_16, tyX6_ok, nmX6, rfl, rfl, by decide +kernel⟩
theorem ff_RX6_20 : sn_Ff RX6 20 6 2 (.array .int) := ⟨RX6, TX6, 3, tyX6, rfl, ug_X6, by decide, kf_RX6_20, tyX6_ok, nmX6, rfl, rfl, by decide +kernel⟩
theorem km_RX6_23 : Cond.methodLink RX6 23 yJ7_fill_53178 ∈ sn_gw := sn_gwI (List.mem_of_getElem? (i := 111) (by decide +kernel)) (by decide +kernel)
theorem kl_RX6_23 : sn_LS RX6 23 yJ7_fill_53178 cJ7_fill_53178 4 none 2 := ⟨sn_ls4 km_RX6_23 kst_J7_fill_53178 ki_RJ7 kc_J7_fill_53178, by decide +kernel⟩
theorem km_RX8_1 : Cond.methodLink RX8 1 objectInit ∈ sn_gw := sn_gwI (List.mem_of_getElem? (i := 24) (by decide +kernel)) (by decide +kernel)
theorem kcl_RX8_7 : Cond.classLink RX8 7 RX2 ∈ sn_gw := sn_gwI (List.mem_of_getElem? (i := 27) (by decide +kernel)) (by decide +kernel)
theorem kis_X2 : Cond.instantiable RX2 6 ∈ sn_gw := sn_gwI (List.mem_of_getElem? (i := 28) (by decide +kernel)) (by decide +kernel)
theorem kc_X2_init : Cond.code yX2_init cX2_init 1 none ∈ sn_gw := sn_gwI (List.mem_of_getElem? (i := 31) (by decide +kernel)) (by decide +kernel)
theorem kin_X2_init : Cond.instanceMethod yX2_init ∈ sn_gw := sn_gwI (List.mem_of_getElem? (i := 30) (by decide +kernel)) (by decide +kernel)
theorem ff_RX8_10 : sn_Ff RX8 10 8 0 (.object "PepperPolicy$House") := ⟨RX8, TX8, 12, tyX8, rfl, ug_X8, by decide, kf_RX8_10, tyX8_ok, nmX8, rfl, rfl, by decide +kernel⟩
theorem ff_RX8_16 : sn_Ff RX8 16 8 1 (.object "PepperPolicy$House") := ⟨RX8, TX8, 12, tyX8, rfl, ug_X8, by decide, kf_RX8_16, tyX8_ok, nmX8, rfl, rfl, by decide +kernel⟩
theorem ff_RX8_19 : sn_Ff RX8 19 8 2 (.array (.object "PepperPolicy$House")) := ⟨RX8, TX8, 12, tyX8, rfl, ug_X8, by decide, kf_RX8_19, tyX8_ok, nmX8, rfl, rfl, by decide +kernel⟩
theorem ka_boolean : Cond.arrayClass .boolean ∈ sn_gw := sn_gwI (List.mem_of_getElem? (i := 102) (by decide +kernel)) (by decide +kernel)
theorem ff_RX8_23 : sn_Ff RX8 23 8 3 (.array .boolean) := ⟨RX8, TX8, 12, tyX8, rfl, ug_X8, by decide, kf_RX8_23, tyX8_ok, nmX8, rfl, rfl, by decide +kernel⟩
theorem kcl_RX8_27 : Cond.classLink RX8 27 RX5 ∈ sn_gw := sn_gwI (List.mem_of_getElem? (i := 68) (by decide +kernel)) (by decide +kernel)
theorem kis_X5 : Cond.instantiable RX5 8 ∈ sn_gw := sn_gwI (List.mem_of_getElem? (i := 69) (by decide +kernel)) (by decide +kernel)
theorem kc_X5_init : Cond.code yX5_init cX5_init 1 none ∈ sn_gw := sn_gwI (List.mem_of_getElem? (i := 72) (by decide +kernel)) (by decide +kernel)
theorem kin_X5_init : Cond.instanceMethod yX5_init ∈ sn_gw := sn_gwI (List.mem_of_getElem? (i := 71) (by decide +kernel)) (by decide +kernel)
theorem ff_RX8_30 : sn_Ff RX8 30 8 4 (.object "PepperPolicy$Reader") := ⟨RX8, TX8, 12, tyX8, rfl, ug_X8, by decide, kf_RX8_30, tyX8_ok, nmX8, rfl, rfl, by decide +kernel⟩
theorem kcl_RX8_34 : Cond.classLink RX8 34 RX6 ∈ sn_gw := sn_gwI (List.mem_of_getElem? (i := 103) (by decide +kernel)) (by decide +kernel)
theorem kis_X6 : Cond.instantiable RX6 3 ∈ sn_gw := sn_gwI (List.mem_of_getElem? (i := 104) (by decide +kernel)) (by decide +kernel)
theorem kc_X6_init : Cond.code yX6_init cX6_init 1 none ∈ sn_gw := sn_gwI (List.mem_of_getElem? (i := 107) (by decide +kernel)) (by decide +kernel)
theorem kin_X6_init : Cond.instanceMethod yX6_init ∈ sn_gw := sn_gwI (List.mem_of_getElem? (i := 106) (by decide +kernel)) (by decide +kernel)
theorem km_RX8_36 : Cond.methodLink RX8 36 yX6_init ∈ sn_gw := sn_gwI (List.mem_of_getElem? (i := 105) (by decide +kernel)) (by decide +kernel)
theorem ff_RX8_37 : sn_Ff RX8 37 8 5 (.object "PepperPolicy$Slots") := ⟨RX8, TX8, 12, tyX8, rfl, ug_X8, by decide, kf_RX8_37, tyX8_ok, nmX8, rfl, rfl, by decide +kernel⟩
theorem kcl_RX8_41 : Cond.classLink RX8 41 RX0 ∈ sn_gw := sn_gwI (List.mem_of_getElem? (i := 128) (by decide +kernel)) (by decide +kernel)
theorem kis_X0 : Cond.instantiable RX0 14 ∈ sn_gw := sn_gwI (List.mem_of_getElem? (i := 129) (by decide +kernel)) (by decide +kernel)
theorem kc_X0_init : Cond.code yX0_init cX0_init 1 none ∈ sn_gw := sn_gwI (List.mem_of_getElem? (i := 132) (by decide +kernel)) (by decide +kernel)
theorem kin_X0_init : Cond.instanceMethod yX0_init ∈ sn_gw := sn_gwI (List.mem_of_getElem? (i := 131) (by decide +kernel)) (by decide +kernel)
theorem ff_RX8_44 : sn_Ff RX8 44 8 6 (.object "PepperPolicy$Day") := ⟨RX8, TX8, 12, tyX8, rfl, ug_X8, by decide, kf_RX8_44, tyX8_ok, nmX8, rfl, rfl, by decide +kernel⟩
theorem ff_RX8_48 : sn_Ff RX8 48 8 7 (.object "PepperPolicy$Day") := ⟨RX8, TX8, 12, tyX8, rfl, ug_X8, by decide, kf_RX8_48, tyX8_ok, nmX8, rfl, rfl, by decide +kernel⟩
theorem kcl_RX8_51 : Cond.classLink RX8 51 RX3 ∈ sn_gw := sn_gwI (List.mem_of_getElem? (i := 198) (by decide +kernel)) (by decide +kernel)
theorem kis_X3 : Cond.instantiable RX3 4 ∈ sn_gw := sn_gwI (List.mem_of_getElem? (i := 199) (by decide +kernel)) (by decide +kernel)
theorem kc_X3_init : Cond.code yX3_init cX3_init 1 none ∈ sn_gw := sn_gwI (List.mem_of_getElem? (i := 202) (by decide +kernel)) (by decide +kernel)
theorem kin_X3_init : Cond.instanceMethod yX3_init ∈ sn_gw := sn_gwI (List.mem_of_getElem? (i := 201) (by decide +kernel)) (by decide +kernel)
theorem ff_RX8_54 : sn_Ff RX8 54 8 8 (.object "PepperPolicy$Ledger") := ⟨RX8, TX8, 12, tyX8, rfl, ug_X8, by decide, kf_RX8_54, tyX8_ok, nmX8, rfl, rfl, by decide +kernel⟩
theorem kcl_RX8_58 : Cond.classLink RX8 58 RX1 ∈ sn_gw := sn_gwI (List.mem_of_getElem? (i := 221) (by decide +kernel)) (by decide +kernel)
theorem kis_X1 : Cond.instantiable RX1 2 ∈ sn_gw := sn_gwI (List.mem_of_getElem? (i := 222) (by decide +kernel)) (by decide +kernel)
theorem kc_X1_init : Cond.code yX1_init cX1_init 1 none ∈ sn_gw := sn_gwI (List.mem_of_getElem? (i := 225) (by decide +kernel)) (by decide +kernel)
theorem kin_X1_init : Cond.instanceMethod yX1_init ∈ sn_gw := sn_gwI (List.mem_of_getElem? (i := 224) (by decide +kernel)) (by decide +kernel)
theorem ff_RX8_61 : sn_Ff RX8 61 8 9 (.object "PepperPolicy$Holding") := ⟨RX8, TX8, 12, tyX8, rfl, ug_X8, by decide, kf_RX8_61, tyX8_ok, nmX8, rfl, rfl, by decide +kernel⟩
theorem kcl_RX8_65 : Cond.classLink RX8 65 RX7 ∈ sn_gw := sn_gwI (List.mem_of_getElem? (i := 234) (by decide +kernel)) (by decide +kernel)
theorem kis_X7 : Cond.instantiable RX7 5 ∈ sn_gw := sn_gwI (List.mem_of_getElem? (i := 235) (by decide +kernel)) (by decide +kernel)
theorem kc_X7_init : Cond.code yX7_init cX7_init 1 none ∈ sn_gw := sn_gwI (List.mem_of_getElem? (i := 238) (by decide +kernel)) (by decide +kernel)
theorem kin_X7_init : Cond.instanceMethod yX7_init ∈ sn_gw := sn_gwI (List.mem_of_getElem? (i := 237) (by decide +kernel)) (by decide +kernel)
theorem ff_RX8_68 : sn_Ff RX8 68 8 10 (.object "PepperPolicy$Suspects") := ⟨RX8, TX8, 12, tyX8, rfl, ug_X8, by decide, kf_RX8_68, tyX8_ok, nmX8, rfl, rfl, by decide +kernel⟩
theorem kcl_RX8_72 : Cond.classLink RX8 72 RX4 ∈ sn_gw := sn_gwI (List.mem_of_getElem? (i := 260) (by decide +kernel)) (by decide +kernel)
theorem kis_X4 : Cond.instantiable RX4 5 ∈ sn_gw := sn_gwI (List.mem_of_getElem? (i := 261) (by decide +kernel)) (by decide +kernel)
theorem km_RX4_3 : Cond.methodLink RX4 3 objectInit ∈ sn_gw := sn_gwI (List.mem_of_getElem? (i := 265) (by decide +kernel)) (by decide +kernel)
theorem ff_RX4_9 : sn_Ff RX4 9 4 2 (.array .long) := ⟨RX4, TX4, 5, tyX4, rfl, ug_X4, by decide, kf_RX4_9, tyX4_ok, nmX4, rfl, rfl, by decide +kernel⟩
theorem kcl_RX4_15 : Cond.classLink RX4 15 RX0 ∈ sn_gw := sn_gwI (List.mem_of_getElem? (i := 266) (by decide +kernel)) (by decide +kernel)
theorem ff_RX4_18 : sn_Ff RX4 18 4 3 (.object "PepperPolicy$Day") := ⟨RX4, TX4, 5, tyX4, rfl, ug_X4, by decide, kf_RX4_18, tyX4_ok, nmX4, rfl, rfl, by decide +kernel⟩
theorem kcl_RX4_22 : Cond.classLink RX4 22 RX3 ∈ sn_gw := sn_gwI (List.mem_of_getElem? (i := 268) (by decide +kernel)) (by decide +kernel)
theorem ff_RX4_25 : sn_Ff RX4 25 4 4 (.object "PepperPolicy$Ledger") := ⟨RX4, TX4, 5, tyX4, rfl, ug_X4, by decide, kf_RX4_25, tyX4_ok, nmX4, rfl, rfl, by decide +kernel⟩
theorem kc_X4_init : Cond.code yX4_init cX4_init 1 none ∈ sn_gw := sn_gwI (List.mem_of_getElem? (i := 264) (by decide +kernel)) (by decide +kernel)
theorem kin_X4_init : Cond.instanceMethod yX4_init ∈ sn_gw := sn_gwI (List.mem_of_getElem? (i := 263) (by decide +kernel)) (by decide +kernel)
theorem ff_RX8_75 : sn_Ff RX8 75 8 11 (.object "PepperPolicy$Puffs") := ⟨RX8, TX8, 12, tyX8, rfl, ug_X8, by decide, kf_RX8_75, tyX8_ok, nmX8, rfl, rfl, by decide +kernel⟩
theorem km_RX9_3 : Cond.methodLink RX9 3 objectInit ∈ sn_gw := sn_gwI (List.mem_of_getElem? (i := 1078) (by decide +kernel)) (by decide +kernel)
theorem ff_RX9_9 : sn_Ff RX9 9 9 1 (.array .int) := ⟨RX9, TX9, 46, tyX9, rfl, ug_X9, by decide, kf_RX9_9, tyX9_ok, nmX9, rfl, rfl, by decide +kernel⟩
theorem ff_RX9_13 : sn_Ff RX9 13 9 2 (.array .int) := ⟨RX9, TX9, 46, tyX9, rfl, ug_X9, by decide, kf_RX9_13, tyX9_ok, nmX9, rfl, rfl, by decide +kernel⟩
theorem ff_RX9_16 : sn_Ff RX9 16 9 3 (.array .boolean) := ⟨RX9, TX9, 46, tyX9, rfl, ug_X9, by decide, kf_RX9_16, tyX9_ok, nmX9, rfl, rfl, by decide +kernel⟩
theorem ka_byte : Cond.arrayClass .byte ∈ sn_gw := sn_gwI (List.mem_of_getElem? (i := 525) (by decide +kernel)) (by decide +kernel)
theorem ff_RX9_20 : sn_Ff RX9 20 9 4 (.array .byte) := ⟨RX9, TX9, 46, tyX9, rfl, ug_X9, by decide, kf_RX9_20, tyX9_ok, nmX9, rfl, rfl, by decide +kernel⟩
theorem ff_RX9_24 : sn_Ff RX9 24 9 6 (.array .int) := ⟨RX9, TX9, 46, tyX9, rfl, ug_X9, by decide, kf_RX9_24, tyX9_ok, nmX9, rfl, rfl, by decide +kernel⟩
theorem ff_RX9_31 : sn_Ff RX9 31 9 14 (.array .int) := ⟨RX9, TX9, 46, tyX9, rfl, ug_X9, by decide, kf_RX9_31, tyX9_ok, nmX9, rfl, rfl, by decide +kernel⟩
theorem ff_RX9_34 : sn_Ff RX9 34 9 15 (.array .int) := ⟨RX9, TX9, 46, tyX9, rfl, ug_X9, by decide, kf_RX9_34, tyX9_ok, nmX9, rfl, rfl, by decide +kernel⟩
theorem ff_RX9_37 : sn_Ff RX9 37 9 16 (.array .int) := ⟨RX9, TX9, 46, tyX9, rfl, ug_X9, by decide, kf_RX9_37, tyX9_ok, nmX9, rfl, rfl, by decide +kernel⟩
theorem ff_RX9_40 : sn_Ff RX9 40 9 17 (.array .int) := ⟨RX9, TX9, 46, tyX9, rfl, ug_X9, by decide, kf_RX9_40, tyX9_ok, nmX9, rfl, rfl, by decide +kernel⟩
theorem ff_RX9_43 : sn_Ff RX9 43 9 23 (.array .int) := ⟨RX9, TX9, 46, tyX9, rfl, ug_X9, by decide, kf_RX9_43, tyX9_ok, nmX9, rfl, rfl, by decide +kernel⟩
theorem ff_RX9_46 : sn_Ff RX9 46 9 24 (.array .int) := ⟨RX9, TX9, 46, tyX9, rfl, ug_X9, by decide, kf_RX9_46, tyX9_ok, nmX9, rfl, rfl, by decide +kernel⟩
theorem ff_RX9_49 : sn_Ff RX9 49 9 25 (.array .int) := ⟨RX9, TX9, 46, tyX9, rfl, ug_X9, by decide, kf_RX9_49, tyX9_ok, nmX9, rfl, rfl, by decide +kernel⟩
theorem ff_RX9_52 : sn_Ff RX9 52 9 26 (.array .int) := ⟨RX9, TX9, 46, tyX9, rfl, ug_X9, by decide, kf_RX9_52, tyX9_ok, nmX9, rfl, rfl, by decide +kernel⟩
theorem ff_RX9_55 : sn_Ff RX9 55 9 27 (.array .int) := ⟨RX9, TX9, 46, tyX9, rfl, ug_X9, by decide, kf_RX9_55, tyX9_ok, nmX9, rfl, rfl, by decide +kernel⟩
theorem ff_RX9_58 : sn_Ff RX9 58 9 28 (.array .int) := ⟨RX9, TX9, 46, tyX9, rfl, ug_X9, by decide, kf_RX9_58, tyX9_ok, nmX9, rfl, rfl, by decide +kernel⟩
theorem ff_RX9_61 : sn_Ff RX9 61 9 29 (.array .int) := ⟨RX9, TX9, 46, tyX9, rfl, ug_X9, by decide, kf_RX9_61, tyX9_ok, nmX9, rfl, rfl, by decide +kernel⟩
theorem ff_RX9_64 : sn_Ff RX9 64 9 32 (.array .int) := ⟨RX9, TX9, 46, tyX9, rfl, ug_X9, by decide, kf_RX9_64, tyX9_ok, nmX9, rfl, rfl, by decide +kernel⟩
theorem ff_RX9_67 : sn_Ff RX9 67 9 33 (.array .int) := ⟨RX9, TX9, 46, tyX9, rfl, ug_X9, by decide, kf_RX9_67, tyX9_ok, nmX9, rfl, rfl, by decide +kernel⟩
theorem ff_RX9_70 : sn_Ff RX9 70 9 34 (.array .int) := ⟨RX9, TX9, 46, tyX9, rfl, ug_X9, by decide, kf_RX9_70, tyX9_ok, nmX9, rfl, rfl, by decide +kernel⟩
theorem ff_RX9_73 : sn_Ff RX9 73 9 35 (.array .int) := ⟨RX9, TX9, 46, tyX9, rfl, ug_X9, by decide, kf_RX9_73, tyX9_ok, nmX9, rfl, rfl, by decide +kernel⟩
theorem ff_RX9_76 : sn_Ff RX9 76 9 42 (.array .int) := ⟨RX9, TX9, 46, tyX9, rfl, ug_X9, by decide, kf_RX9_76, tyX9_ok, nmX9, rfl, rfl, by decide +kernel⟩
theorem ff_RX9_79 : sn_Ff RX9 79 9 43 (.array .int) := ⟨RX9, TX9, 46, tyX9, rfl, ug_X9, by decide, kf_RX9_79, tyX9_ok, nmX9, rfl, rfl, by decide +kernel⟩
theorem ff_RX9_82 : sn_Ff RX9 82 9 44 (.array .long) := ⟨RX9, TX9, 46, tyX9, rfl, ug_X9, by decide, kf_RX9_82, tyX9_ok, nmX9, rfl, rfl, by decide +kernel⟩
theorem ff_RX9_86 : sn_Ff RX9 86 9 45 (.array .long) := ⟨RX9, TX9, 46, tyX9, rfl, ug_X9, by decide, kf_RX9_86, tyX9_ok, nmX9, rfl, rfl, by decide +kernel⟩
theorem kc_X8_feed : Cond.code yX8_feed cX8_feed 6 (some .int) ∈ sn_gw := sn_gwI (List.mem_of_getElem? (i := 328) (by decide +kernel)) (by decide +kernel)
theorem km_RL_13 : Cond.methodLink RL 13 yX8_feed ∈ sn_gw := sn_gwI (List.mem_of_getElem? (i := 325) (by decide +kernel)) (by decide +kernel)
theorem kin_X8_feed : Cond.instanceMethod yX8_feed ∈ sn_gw := sn_gwI (List.mem_of_getElem? (i := 326) (by decide +kernel)) (by decide +kernel)
theorem ks_X8_feed : Cond.selects RX8 yX8_feed yX8_feed ∈ sn_gw := sn_gwI (List.mem_of_getElem? (i := 327) (by decide +kernel)) (by decide +kernel)
theorem kl_RL_13 : sn_LV RL 13 yX8_feed cX8_feed 6 (some .int) 5 := ⟨sn_lv5 km_RL_13 kin_X8_feed ks_X8_feed ki_RX8 kc_X8_feed, by decide +kernel⟩
theorem kc_X9_feed : Cond.code yX9_feed cX9_feed 7 (some .int) ∈ sn_gw := sn_gwI (List.mem_of_getElem? (i := 1232) (by decide +kernel)) (by decide +kernel)
theorem km_RL_17 : Cond.methodLink RL 17 yX9_feed ∈ sn_gw := sn_gwI (List.mem_of_getElem? (i := 1229) (by decide +kernel)) (by decide +kernel)
theorem kin_X9_feed : Cond.instanceMethod yX9_feed ∈ sn_gw := sn_gwI (List.mem_of_getElem? (i := 1230) (by decide +kernel)) (by decide +kernel)
theorem ks_X9_feed : Cond.selects RX9 yX9_feed yX9_feed ∈ sn_gw := sn_gwI (List.mem_of_getElem? (i := 1231) (by decide +kernel)) (by decide +kernel)
theorem kl_RL_17 : sn_LV RL 17 yX9_feed cX9_feed 7 (some .int) 5 := ⟨sn_lv5 km_RL_17 kin_X9_feed ks_X9_feed ki_RX9 kc_X9_feed, by decide +kernel⟩
theorem kc_X8_end : Cond.code yX8_end cX8_end 2 (some .int) ∈ sn_gw := sn_gwI (List.mem_of_getElem? (i := 336) (by decide +kernel)) (by decide +kernel)
theorem km_RL_18 : Cond.methodLink RL 18 yX8_end ∈ sn_gw := sn_gwI (List.mem_of_getElem? (i := 333) (by decide +kernel)) (by decide +kernel)
theorem kin_X8_end : Cond.instanceMethod yX8_end ∈ sn_gw := sn_gwI (List.mem_of_getElem? (i := 334) (by decide +kernel)) (by decide +kernel)
theorem ks_X8_end : Cond.selects RX8 yX8_end yX8_end ∈ sn_gw := sn_gwI (List.mem_of_getElem? (i := 335) (by decide +kernel)) (by decide +kernel)
theorem kl_RL_18 : sn_LV RL 18 yX8_end cX8_end 2 (some .int) 1 := ⟨sn_lv5 km_RL_18 kin_X8_end ks_X8_end ki_RX8 kc_X8_end, by decide +kernel⟩
theorem kc_X9_end : Cond.code yX9_end cX9_end 2 (some .int) ∈ sn_gw := sn_gwI (List.mem_of_getElem? (i := 1236) (by decide +kernel)) (by decide +kernel)
theorem km_RL_22 : Cond.methodLink RL 22 yX9_end ∈ sn_gw := sn_gwI (List.mem_of_getElem? (i := 1233) (by decide +kernel)) (by decide +kernel)
theorem kin_X9_end : Cond.instanceMethod yX9_end ∈ sn_gw := sn_gwI (List.mem_of_getElem? (i := 1234) (by decide +kernel)) (by decide +kernel)
theorem ks_X9_end : Cond.selects RX9 yX9_end yX9_end ∈ sn_gw := sn_gwI (List.mem_of_getElem? (i := 1235) (by decide +kernel)) (by decide +kernel)
theorem kl_RL_22 : sn_LV RL 22 yX9_end cX9_end 2 (some .int) 1 := ⟨sn_lv5 km_RL_22 kin_X9_end ks_X9_end ki_RX9 kc_X9_end, by decide +kernel⟩
theorem kc_X8_house : Cond.code yX8_house cX8_house 1 (some .int) ∈ sn_gw := sn_gwI (List.mem_of_getElem? (i := 340) (by decide +kernel)) (by decide +kernel)
theorem km_RL_23 : Cond.methodLink RL 23 yX8_house ∈ sn_gw := sn_gwI (List.mem_of_getElem? (i := 337) (by decide +kernel)) (by decide +kernel)
theorem kin_X8_house : Cond.instanceMethod yX8_house ∈ sn_gw := sn_gwI (List.mem_of_getElem? (i := 338) (by decide +kernel)) (by decide +kernel)
theorem ks_X8_house : Cond.selects RX8 yX8_house yX8_house ∈ sn_gw := sn_gwI (List.mem_of_getElem? (i := 339) (by decide +kernel)) (by decide +kernel)
theorem kl_RL_23 : sn_LV RL 23 yX8_house cX8_house 1 (some .int) 0 := ⟨sn_lv5 km_RL_23 kin_X8_house ks_X8_house ki_RX8 kc_X8_house, by decide +kernel⟩
theorem kc_X9_house : Cond.code yX9_house cX9_house 2 (some .int) ∈ sn_gw := sn_gwI (List.mem_of_getElem? (i := 1244) (by decide +kernel)) (by decide +kernel)
theorem km_RL_27 : Cond.methodLink RL 27 yX9_house ∈ sn_gw := sn_gwI (List.mem_of_getElem? (i := 1241) (by decide +kernel)) (by decide +kernel)
theorem kin_X9_house : Cond.instanceMethod yX9_house ∈ sn_gw := sn_gwI (List.mem_of_getElem? (i := 1242) (by decide +kernel)) (by decide +kernel)
theorem ks_X9_house : Cond.selects RX9 yX9_house yX9_house ∈ sn_gw := sn_gwI (List.mem_of_getElem? (i := 1243) (by decide +kernel)) (by decide +kernel)
theorem kl_RL_27 : sn_LV RL 27 yX9_house cX9_house 2 (some .int) 0 := ⟨sn_lv5 km_RL_27 kin_X9_house ks_X9_house ki_RX9 kc_X9_house, by decide +kernel⟩
theorem kc_X8_fault : Cond.code yX8_fault cX8_fault 2 (some .int) ∈ sn_gw := sn_gwI (List.mem_of_getElem? (i := 529) (by decide +kernel)) (by decide +kernel)
theorem km_RL_28 : Cond.methodLink RL 28 yX8_fault ∈ sn_gw := sn_gwI (List.mem_of_getElem? (i := 526) (by decide +kernel)) (by decide +kernel)
theorem kin_X8_fault : Cond.instanceMethod yX8_fault ∈ sn_gw := sn_gwI (List.mem_of_getElem? (i := 527) (by decide +kernel)) (by decide +kernel)
theorem ks_X8_fault : Cond.selects RX8 yX8_fault yX8_fault ∈ sn_gw := sn_gwI (List.mem_of_getElem? (i := 528) (by decide +kernel)) (by decide +kernel)
theorem kl_RL_28 : sn_LV RL 28 yX8_fault cX8_fault 2 (some .int) 1 := ⟨sn_lv5 km_RL_28 kin_X8_fault ks_X8_fault ki_RX8 kc_X8_fault, by decide +kernel⟩
theorem kc_X9_fault : Cond.code yX9_fault cX9_fault 2 (some .int) ∈ sn_gw := sn_gwI (List.mem_of_getElem? (i := 1240) (by decide +kernel)) (by decide +kernel)
theorem km_RL_31 : Cond.methodLink RL 31 yX9_fault ∈ sn_gw := sn_gwI (List.mem_of_getElem? (i := 1237) (by decide +kernel)) (by decide +kernel)
theorem kin_X9_fault : Cond.instanceMethod yX9_fault ∈ sn_gw := sn_gwI (List.mem_of_getElem? (i := 1238) (by decide +kernel)) (by decide +kernel)
theorem ks_X9_fault : Cond.selects RX9 yX9_fault yX9_fault ∈ sn_gw := sn_gwI (List.mem_of_getElem? (i := 1239) (by decide +kernel)) (by decide +kernel)
theorem kl_RL_31 : sn_LV RL 31 yX9_fault cX9_fault 2 (some .int) 1 := ⟨sn_lv5 km_RL_31 kin_X9_fault ks_X9_fault ki_RX9 kc_X9_fault, by decide +kernel⟩
theorem kc_X8_nose : Cond.code yX8_nose cX8_nose 3 (some .int) ∈ sn_gw := sn_gwI (List.mem_of_getElem? (i := 533) (by decide +kernel)) (by decide +kernel)
theorem km_RL_32 : Cond.methodLink RL 32 yX8_nose ∈ sn_gw := sn_gwI (List.mem_of_getElem? (i := 530) (by decide +kernel)) (by decide +kernel)
theorem kin_X8_nose : Cond.instanceMethod yX8_nose ∈ sn_gw := sn_gwI (List.mem_of_getElem? (i := 531) (by decide +kernel)) (by decide +kernel)
theorem ks_X8_nose : Cond.selects RX8 yX8_nose yX8_nose ∈ sn_gw := sn_gwI (List.mem_of_getElem? (i := 532) (by decide +kernel)) (by decide +kernel)
theorem kl_RL_32 : sn_LV RL 32 yX8_nose cX8_nose 3 (some .int) 2 := ⟨sn_lv5 km_RL_32 kin_X8_nose ks_X8_nose ki_RX8 kc_X8_nose, by decide +kernel⟩
theorem kc_X9_nose : Cond.code yX9_nose cX9_nose 3 (some .int) ∈ sn_gw := sn_gwI (List.mem_of_getElem? (i := 1328) (by decide +kernel)) (by decide +kernel)
theorem km_RL_36 : Cond.methodLink RL 36 yX9_nose ∈ sn_gw := sn_gwI (List.mem_of_getElem? (i := 1325) (by decide +kernel)) (by decide +kernel)
theorem kin_X9_nose : Cond.instanceMethod yX9_nose ∈ sn_gw := sn_gwI (List.mem_of_getElem? (i := 1326) (by decide +kernel)) (by decide +kernel)
theorem ks_X9_nose : Cond.selects RX9 yX9_nose yX9_nose ∈ sn_gw := sn_gwI (List.mem_of_getElem? (i := 1327) (by decide +kernel)) (by decide +kernel)
theorem kl_RL_36 : sn_LV RL 36 yX9_nose cX9_nose 3 (some .int) 2 := ⟨sn_lv5 km_RL_36 kin_X9_nose ks_X9_nose ki_RX9 kc_X9_nose, by decide +kernel⟩
theorem kc_X8_policy : Cond.code yX8_policy cX8_policy 3 (some .int) ∈ sn_gw := sn_gwI (List.mem_of_getElem? (i := 541) (by decide +kernel)) (by decide +kernel)
theorem km_RL_37 : Cond.methodLink RL 37 yX8_policy ∈ sn_gw := sn_gwI (List.mem_of_getElem? (i := 538) (by decide +kernel)) (by decide +kernel)
theorem kin_X8_policy : Cond.instanceMethod yX8_policy ∈ sn_gw := sn_gwI (List.mem_of_getElem? (i := 539) (by decide +kernel)) (by decide +kernel)
theorem ks_X8_policy : Cond.selects RX8 yX8_policy yX8_policy ∈ sn_gw := sn_gwI (List.mem_of_getElem? (i := 540) (by decide +kernel)) (by decide +kernel)
theorem kl_RL_37 : sn_LV RL 37 yX8_policy cX8_policy 3 (some .int) 2 := ⟨sn_lv5 km_RL_37 kin_X8_policy ks_X8_policy ki_RX8 kc_X8_policy, by decide +kernel⟩
theorem kc_X9_policy : Cond.code yX9_policy cX9_policy 3 (some .int) ∈ sn_gw := sn_gwI (List.mem_of_getElem? (i := 1336) (by decide +kernel)) (by decide +kernel)
theorem km_RL_40 : Cond.methodLink RL 40 yX9_policy ∈ sn_gw := sn_gwI (List.mem_of_getElem? (i := 1333) (by decide +kernel)) (by decide +kernel)
theorem kin_X9_policy : Cond.instanceMethod yX9_policy ∈ sn_gw := sn_gwI (List.mem_of_getElem? (i := 1334) (by decide +kernel)) (by decide +kernel)
theorem ks_X9_policy : Cond.selects RX9 yX9_policy yX9_policy ∈ sn_gw := sn_gwI (List.mem_of_getElem? (i := 1335) (by decide +kernel)) (by decide +kernel)
theorem kl_RL_40 : sn_LV RL 40 yX9_policy cX9_policy 3 (some .int) 2 := ⟨sn_lv5 km_RL_40 kin_X9_policy ks_X9_policy ki_RX9 kc_X9_policy, by decide +kernel⟩
theorem kc_X8_beside : Cond.code yX8_beside cX8_beside 2 (some .int) ∈ sn_gw := sn_gwI (List.mem_of_getElem? (i := 553) (by decide +kernel)) (by decide +kernel)
theorem km_RL_41 : Cond.methodLink RL 41 yX8_beside ∈ sn_gw := sn_gwI (List.mem_of_getElem? (i := 550) (by decide +kernel)) (by decide +kernel)
theorem kin_X8_beside : Cond.instanceMethod yX8_beside ∈ sn_gw := sn_gwI (List.mem_of_getElem? (i := 551) (by decide +kernel)) (by decide +kernel)
theorem ks_X8_beside : Cond.selects RX8 yX8_beside yX8_beside ∈ sn_gw := sn_gwI (List.mem_of_getElem? (i := 552) (by decide +kernel)) (by decide +kernel)
theorem kl_RL_41 : sn_LV RL 41 yX8_beside cX8_beside 2 (some .int) 1 := ⟨sn_lv5 km_RL_41 kin_X8_beside ks_X8_beside ki_RX8 kc_X8_beside, by decide +kernel⟩
theorem kc_X9_beside : Cond.code yX9_beside cX9_beside 4 (some .int) ∈ sn_gw := sn_gwI (List.mem_of_getElem? (i := 1349) (by decide +kernel)) (by decide +kernel)
theorem km_RL_44 : Cond.methodLink RL 44 yX9_beside ∈ sn_gw := sn_gwI (List.mem_of_getElem? (i := 1346) (by decide +kernel)) (by decide +kernel)
theorem kin_X9_beside : Cond.instanceMethod yX9_beside ∈ sn_gw := sn_gwI (List.mem_of_getElem? (i := 1347) (by decide +kernel)) (by decide +kernel)
theorem ks_X9_beside : Cond.selects RX9 yX9_beside yX9_beside ∈ sn_gw := sn_gwI (List.mem_of_getElem? (i := 1348) (by decide +kernel)) (by decide +kernel)
theorem kl_RL_44 : sn_LV RL 44 yX9_beside cX9_beside 4 (some .int) 1 := ⟨sn_lv5 km_RL_44 kin_X9_beside ks_X9_beside ki_RX9 kc_X9_beside, by decide +kernel⟩
theorem kc_X8_dust : Cond.code yX8_dust cX8_dust 2 (some .int) ∈ sn_gw := sn_gwI (List.mem_of_getElem? (i := 561) (by decide +kernel)) (by decide +kernel)
theorem km_RL_45 : Cond.methodLink RL 45 yX8_dust ∈ sn_gw := sn_gwI (List.mem_of_getElem? (i := 558) (by decide +kernel)) (by decide +kernel)
theorem kin_X8_dust : Cond.instanceMethod yX8_dust ∈ sn_gw := sn_gwI (List.mem_of_getElem? (i := 559) (by decide +kernel)) (by decide +kernel)
theorem ks_X8_dust : Cond.selects RX8 yX8_dust yX8_dust ∈ sn_gw := sn_gwI (List.mem_of_getElem? (i := 560) (by decide +kernel)) (by decide +kernel)
theorem kl_RL_45 : sn_LV RL 45 yX8_dust cX8_dust 2 (some .int) 1 := ⟨sn_lv5 km_RL_45 kin_X8_dust ks_X8_dust ki_RX8 kc_X8_dust, by decide +kernel⟩
theorem kc_X9_dust : Cond.code yX9_dust cX9_dust 2 (some .int) ∈ sn_gw := sn_gwI (List.mem_of_getElem? (i := 1368) (by decide +kernel)) (by decide +kernel)
theorem km_RL_48 : Cond.methodLink RL 48 yX9_dust ∈ sn_gw := sn_gwI (List.mem_of_getElem? (i := 1365) (by decide +kernel)) (by decide +kernel)
theorem kin_X9_dust : Cond.instanceMethod yX9_dust ∈ sn_gw := sn_gwI (List.mem_of_getElem? (i := 1366) (by decide +kernel)) (by decide +kernel)
theorem ks_X9_dust : Cond.selects RX9 yX9_dust yX9_dust ∈ sn_gw := sn_gwI (List.mem_of_getElem? (i := 1367) (by decide +kernel)) (by decide +kernel)
theorem kl_RL_48 : sn_LV RL 48 yX9_dust cX9_dust 2 (some .int) 1 := ⟨sn_lv5 km_RL_48 kin_X9_dust ks_X9_dust ki_RX9 kc_X9_dust, by decide +kernel⟩
theorem kc_X8_sneezes : Cond.code yX8_sneezes cX8_sneezes 2 (some .int) ∈ sn_gw := sn_gwI (List.mem_of_getElem? (i := 569) (by decide +kernel)) (by decide +kernel)
theorem km_RL_49 : Cond.methodLink RL 49 yX8_sneezes ∈ sn_gw := sn_gwI (List.mem_of_getElem? (i := 566) (by decide +kernel)) (by decide +kernel)
theorem kin_X8_sneezes : Cond.instanceMethod yX8_sneezes ∈ sn_gw := sn_gwI (List.mem_of_getElem? (i := 567) (by decide +kernel)) (by decide +kernel)
theorem ks_X8_sneezes : Cond.selects RX8 yX8_sneezes yX8_sneezes ∈ sn_gw := sn_gwI (List.mem_of_getElem? (i := 568) (by decide +kernel)) (by decide +kernel)
theorem kl_RL_49 : sn_LV RL 49 yX8_sneezes cX8_sneezes 2 (some .int) 1 := ⟨sn_lv5 km_RL_49 kin_X8_sneezes ks_X8_sneezes ki_RX8 kc_X8_sneezes, by decide +kernel⟩
theorem kc_X9_sneezes : Cond.code yX9_sneezes cX9_sneezes 2 (some .int) ∈ sn_gw := sn_gwI (List.mem_of_getElem? (i := 1396) (by decide +kernel)) (by decide +kernel)
theorem km_RL_52 : Cond.methodLink RL 52 yX9_sneezes ∈ sn_gw := sn_gwI (List.mem_of_getElem? (i := 1393) (by decide +kernel)) (by decide +kernel)
theorem kin_X9_sneezes : Cond.instanceMethod yX9_sneezes ∈ sn_gw := sn_gwI (List.mem_of_getElem? (i := 1394) (by decide +kernel)) (by decide +kernel)
theorem ks_X9_sneezes : Cond.selects RX9 yX9_sneezes yX9_sneezes ∈ sn_gw := sn_gwI (List.mem_of_getElem? (i := 1395) (by decide +kernel)) (by decide +kernel)
theorem kl_RL_52 : sn_LV RL 52 yX9_sneezes cX9_sneezes 2 (some .int) 1 := ⟨sn_lv5 km_RL_52 kin_X9_sneezes ks_X9_sneezes ki_RX9 kc_X9_sneezes, by decide +kernel⟩
theorem kc_X8_first : Cond.code yX8_first cX8_first 2 (some .int) ∈ sn_gw := sn_gwI (List.mem_of_getElem? (i := 573) (by decide +kernel)) (by decide +kernel)
theorem km_RL_53 : Cond.methodLink RL 53 yX8_first ∈ sn_gw := sn_gwI (List.mem_of_getElem? (i := 570) (by decide +kernel)) (by decide +kernel)
theorem kin_X8_first : Cond.instanceMethod yX8_first ∈ sn_gw := sn_gwI (List.mem_of_getElem? (i := 571) (by decide +kernel)) (by decide +kernel)
theorem ks_X8_first : Cond.selects RX8 yX8_first yX8_first ∈ sn_gw := sn_gwI (List.mem_of_getElem? (i := 572) (by decide +kernel)) (by decide +kernel)
theorem kl_RL_53 : sn_LV RL 53 yX8_first cX8_first 2 (some .int) 1 := ⟨sn_lv5 km_RL_53 kin_X8_first ks_X8_first ki_RX8 kc_X8_first, by decide +kernel⟩
theorem kc_X9_first : Cond.code yX9_first cX9_first 2 (some .int) ∈ sn_gw := sn_gwI (List.mem_of_getElem? (i := 1404) (by decide +kernel)) (by decide +kernel)
theorem km_RL_56 : Cond.methodLink RL 56 yX9_first ∈ sn_gw := sn_gwI (List.mem_of_getElem? (i := 1401) (by decide +kernel)) (by decide +kernel)
theorem kin_X9_first : Cond.instanceMethod yX9_first ∈ sn_gw := sn_gwI (List.mem_of_getElem? (i := 1402) (by decide +kernel)) (by decide +kernel)
theorem ks_X9_first : Cond.selects RX9 yX9_first yX9_first ∈ sn_gw := sn_gwI (List.mem_of_getElem? (i := 1403) (by decide +kernel)) (by decide +kernel)
theorem kl_RL_56 : sn_LV RL 56 yX9_first cX9_first 2 (some .int) 1 := ⟨sn_lv5 km_RL_56 kin_X9_first ks_X9_first ki_RX9 kc_X9_first, by decide +kernel⟩
theorem kc_X8_all : Cond.code yX8_all cX8_all 1 (some .int) ∈ sn_gw := sn_gwI (List.mem_of_getElem? (i := 586) (by decide +kernel)) (by decide +kernel)
theorem km_RL_57 : Cond.methodLink RL 57 yX8_all ∈ sn_gw := sn_gwI (List.mem_of_getElem? (i := 583) (by decide +kernel)) (by decide +kernel)
theorem kin_X8_all : Cond.instanceMethod yX8_all ∈ sn_gw := sn_gwI (List.mem_of_getElem? (i := 584) (by decide +kernel)) (by decide +kernel)
theorem ks_X8_all : Cond.selects RX8 yX8_all yX8_all ∈ sn_gw := sn_gwI (List.mem_of_getElem? (i := 585) (by decide +kernel)) (by decide +kernel)
theorem kl_RL_57 : sn_LV RL 57 yX8_all cX8_all 1 (some .int) 0 := ⟨sn_lv5 km_RL_57 kin_X8_all ks_X8_all ki_RX8 kc_X8_all, by decide +kernel⟩
theorem kc_X9_all : Cond.code yX9_all cX9_all 1 (some .int) ∈ sn_gw := sn_gwI (List.mem_of_getElem? (i := 1411) (by decide +kernel)) (by decide +kernel)
theorem km_RL_60 : Cond.methodLink RL 60 yX9_all ∈ sn_gw := sn_gwI (List.mem_of_getElem? (i := 1408) (by decide +kernel)) (by decide +kernel)
theorem kin_X9_all : Cond.instanceMethod yX9_all ∈ sn_gw := sn_gwI (List.mem_of_getElem? (i := 1409) (by decide +kernel)) (by decide +kernel)
theorem ks_X9_all : Cond.selects RX9 yX9_all yX9_all ∈ sn_gw := sn_gwI (List.mem_of_getElem? (i := 1410) (by decide +kernel)) (by decide +kernel)
theorem kl_RL_60 : sn_LV RL 60 yX9_all cX9_all 1 (some .int) 0 := ⟨sn_lv5 km_RL_60 kin_X9_all ks_X9_all ki_RX9 kc_X9_all, by decide +kernel⟩
theorem kc_X8_who : Cond.code yX8_who cX8_who 2 (some .int) ∈ sn_gw := sn_gwI (List.mem_of_getElem? (i := 599) (by decide +kernel)) (by decide +kernel)
theorem km_RL_61 : Cond.methodLink RL 61 yX8_who ∈ sn_gw := sn_gwI (List.mem_of_getElem? (i := 596) (by decide +kernel)) (by decide +kernel)
theorem kin_X8_who : Cond.instanceMethod yX8_who ∈ sn_gw := sn_gwI (List.mem_of_getElem? (i := 597) (by decide +kernel)) (by decide +kernel)
theorem ks_X8_who : Cond.selects RX8 yX8_who yX8_who ∈ sn_gw := sn_gwI (List.mem_of_getElem? (i := 598) (by decide +kernel)) (by decide +kernel)
theorem kl_RL_61 : sn_LV RL 61 yX8_who cX8_who 2 (some .int) 1 := ⟨sn_lv5 km_RL_61 kin_X8_who ks_X8_who ki_RX8 kc_X8_who, by decide +kernel⟩
theorem kc_X9_who : Cond.code yX9_who cX9_who 2 (some .int) ∈ sn_gw := sn_gwI (List.mem_of_getElem? (i := 1422) (by decide +kernel)) (by decide +kernel)
theorem km_RL_64 : Cond.methodLink RL 64 yX9_who ∈ sn_gw := sn_gwI (List.mem_of_getElem? (i := 1419) (by decide +kernel)) (by decide +kernel)
theorem kin_X9_who : Cond.instanceMethod yX9_who ∈ sn_gw := sn_gwI (List.mem_of_getElem? (i := 1420) (by decide +kernel)) (by decide +kernel)
theorem ks_X9_who : Cond.selects RX9 yX9_who yX9_who ∈ sn_gw := sn_gwI (List.mem_of_getElem? (i := 1421) (by decide +kernel)) (by decide +kernel)
theorem kl_RL_64 : sn_LV RL 64 yX9_who cX9_who 2 (some .int) 1 := ⟨sn_lv5 km_RL_64 kin_X9_who ks_X9_who ki_RX9 kc_X9_who, by decide +kernel⟩
theorem kc_X8_tickle : Cond.code yX8_tickle cX8_tickle 3 (some .int) ∈ sn_gw := sn_gwI (List.mem_of_getElem? (i := 603) (by decide +kernel)) (by decide +kernel)
theorem km_RL_65 : Cond.methodLink RL 65 yX8_tickle ∈ sn_gw := sn_gwI (List.mem_of_getElem? (i := 600) (by decide +kernel)) (by decide +kernel)
theorem kin_X8_tickle : Cond.instanceMethod yX8_tickle ∈ sn_gw := sn_gwI (List.mem_of_getElem? (i := 601) (by decide +kernel)) (by decide +kernel)
theorem ks_X8_tickle : Cond.selects RX8 yX8_tickle yX8_tickle ∈ sn_gw := sn_gwI (List.mem_of_getElem? (i := 602) (by decide +kernel)) (by decide +kernel)
theorem kl_RL_65 : sn_LV RL 65 yX8_tickle cX8_tickle 3 (some .int) 2 := ⟨sn_lv5 km_RL_65 kin_X8_tickle ks_X8_tickle ki_RX8 kc_X8_tickle, by decide +kernel⟩
theorem kc_X9_tickle : Cond.code yX9_tickle cX9_tickle 3 (some .int) ∈ sn_gw := sn_gwI (List.mem_of_getElem? (i := 1426) (by decide +kernel)) (by decide +kernel)
theorem km_RL_68 : Cond.methodLink RL 68 yX9_tickle ∈ sn_gw := sn_gwI (List.mem_of_getElem? (i := 1423) (by decide +kernel)) (by decide +kernel)
theorem kin_X9_tickle : Cond.instanceMethod yX9_tickle ∈ sn_gw := sn_gwI (List.mem_of_getElem? (i := 1424) (by decide +kernel)) (by decide +kernel)
theorem ks_X9_tickle : Cond.selects RX9 yX9_tickle yX9_tickle ∈ sn_gw := sn_gwI (List.mem_of_getElem? (i := 1425) (by decide +kernel)) (by decide +kernel)
theorem kl_RL_68 : sn_LV RL 68 yX9_tickle cX9_tickle 3 (some .int) 2 := ⟨sn_lv5 km_RL_68 kin_X9_tickle ks_X9_tickle ki_RX9 kc_X9_tickle, by decide +kernel⟩
theorem kc_X8_itch : Cond.code yX8_itch cX8_itch 4 (some .int) ∈ sn_gw := sn_gwI (List.mem_of_getElem? (i := 611) (by decide +kernel)) (by decide +kernel)
theorem km_RL_69 : Cond.methodLink RL 69 yX8_itch ∈ sn_gw := sn_gwI (List.mem_of_getElem? (i := 608) (by decide +kernel)) (by decide +kernel)
theorem kin_X8_itch : Cond.instanceMethod yX8_itch ∈ sn_gw := sn_gwI (List.mem_of_getElem? (i := 609) (by decide +kernel)) (by decide +kernel)
theorem ks_X8_itch : Cond.selects RX8 yX8_itch yX8_itch ∈ sn_gw := sn_gwI (List.mem_of_getElem? (i := 610) (by decide +kernel)) (by decide +kernel)
theorem kl_RL_69 : sn_LV RL 69 yX8_itch cX8_itch 4 (some .int) 1 := ⟨sn_lv5 km_RL_69 kin_X8_itch ks_X8_itch ki_RX8 kc_X8_itch, by decide +kernel⟩
theorem kc_X9_itch : Cond.code yX9_itch cX9_itch 4 (some .int) ∈ sn_gw := sn_gwI (List.mem_of_getElem? (i := 1430) (by decide +kernel)) (by decide +kernel)
theorem km_RL_72 : Cond.methodLink RL 72 yX9_itch ∈ sn_gw := sn_gwI (List.mem_of_getElem? (i := 1427) (by decide +kernel)) (by decide +kernel)
theorem kin_X9_itch : Cond.instanceMethod yX9_itch ∈ sn_gw := sn_gwI (List.mem_of_getElem? (i := 1428) (by decide +kernel)) (by decide +kernel)
theorem ks_X9_itch : Cond.selects RX9 yX9_itch yX9_itch ∈ sn_gw := sn_gwI (List.mem_of_getElem? (i := 1429) (by decide +kernel)) (by decide +kernel)
theorem kl_RL_72 : sn_LV RL 72 yX9_itch cX9_itch 4 (some .int) 1 := ⟨sn_lv5 km_RL_72 kin_X9_itch ks_X9_itch ki_RX9 kc_X9_itch, by decide +kernel⟩
theorem kc_X8_caught : Cond.code yX8_caught cX8_caught 4 (some .int) ∈ sn_gw := sn_gwI (List.mem_of_getElem? (i := 618) (by decide +kernel)) (by decide +kernel)
theorem km_RL_73 : Cond.methodLink RL 73 yX8_caught ∈ sn_gw := sn_gwI (List.mem_of_getElem? (i := 615) (by decide +kernel)) (by decide +kernel)
theorem kin_X8_caught : Cond.instanceMethod yX8_caught ∈ sn_gw := sn_gwI (List.mem_of_getElem? (i := 616) (by decide +kernel)) (by decide +kernel)
theorem ks_X8_caught : Cond.selects RX8 yX8_caught yX8_caught ∈ sn_gw := sn_gwI (List.mem_of_getElem? (i := 617) (by decide +kernel)) (by decide +kernel)
theorem kl_RL_73 : sn_LV RL 73 yX8_caught cX8_caught 4 (some .int) 1 := ⟨sn_lv5 km_RL_73 kin_X8_caught ks_X8_caught ki_RX8 kc_X8_caught, by decide +kernel⟩
theorem kc_X9_caught : Cond.code yX9_caught cX9_caught 2 (some .int) ∈ sn_gw := sn_gwI (List.mem_of_getElem? (i := 1435) (by decide +kernel)) (by decide +kernel)
theorem km_RL_76 : Cond.methodLink RL 76 yX9_caught ∈ sn_gw := sn_gwI (List.mem_of_getElem? (i := 1432) (by decide +kernel)) (by decide +kernel)
theorem kin_X9_caught : Cond.instanceMethod yX9_caught ∈ sn_gw := sn_gwI (List.mem_of_getElem? (i := 1433) (by decide +kernel)) (by decide +kernel)
theorem ks_X9_caught : Cond.selects RX9 yX9_caught yX9_caught ∈ sn_gw := sn_gwI (List.mem_of_getElem? (i := 1434) (by decide +kernel)) (by decide +kernel)
theorem kl_RL_76 : sn_LV RL 76 yX9_caught cX9_caught 2 (some .int) 1 := ⟨sn_lv5 km_RL_76 kin_X9_caught ks_X9_caught ki_RX9 kc_X9_caught, by decide +kernel⟩
theorem kc_X8_gave : Cond.code yX8_gave cX8_gave 3 (some .int) ∈ sn_gw := sn_gwI (List.mem_of_getElem? (i := 623) (by decide +kernel)) (by decide +kernel)
theorem km_RL_77 : Cond.methodLink RL 77 yX8_gave ∈ sn_gw := sn_gwI (List.mem_of_getElem? (i := 620) (by decide +kernel)) (by decide +kernel)
theorem kin_X8_gave : Cond.instanceMethod yX8_gave ∈ sn_gw := sn_gwI (List.mem_of_getElem? (i := 621) (by decide +kernel)) (by decide +kernel)
theorem ks_X8_gave : Cond.selects RX8 yX8_gave yX8_gave ∈ sn_gw := sn_gwI (List.mem_of_getElem? (i := 622) (by decide +kernel)) (by decide +kernel)
theorem kl_RL_77 : sn_LV RL 77 yX8_gave cX8_gave 3 (some .int) 1 := ⟨sn_lv5 km_RL_77 kin_X8_gave ks_X8_gave ki_RX8 kc_X8_gave, by decide +kernel⟩
theorem kc_X9_gave : Cond.code yX9_gave cX9_gave 5 (some .int) ∈ sn_gw := sn_gwI (List.mem_of_getElem? (i := 1439) (by decide +kernel)) (by decide +kernel)
theorem km_RL_80 : Cond.methodLink RL 80 yX9_gave ∈ sn_gw := sn_gwI (List.mem_of_getElem? (i := 1436) (by decide +kernel)) (by decide +kernel)
theorem kin_X9_gave : Cond.instanceMethod yX9_gave ∈ sn_gw := sn_gwI (List.mem_of_getElem? (i := 1437) (by decide +kernel)) (by decide +kernel)
theorem ks_X9_gave : Cond.selects RX9 yX9_gave yX9_gave ∈ sn_gw := sn_gwI (List.mem_of_getElem? (i := 1438) (by decide +kernel)) (by decide +kernel)
theorem kl_RL_80 : sn_LV RL 80 yX9_gave cX9_gave 5 (some .int) 1 := ⟨sn_lv5 km_RL_80 kin_X9_gave ks_X9_gave ki_RX9 kc_X9_gave, by decide +kernel⟩
theorem kc_X8_worst : Cond.code yX8_worst cX8_worst 5 (some .int) ∈ sn_gw := sn_gwI (List.mem_of_getElem? (i := 627) (by decide +kernel)) (by decide +kernel)
theorem km_RL_81 : Cond.methodLink RL 81 yX8_worst ∈ sn_gw := sn_gwI (List.mem_of_getElem? (i := 624) (by decide +kernel)) (by decide +kernel)
theorem kin_X8_worst : Cond.instanceMethod yX8_worst ∈ sn_gw := sn_gwI (List.mem_of_getElem? (i := 625) (by decide +kernel)) (by decide +kernel)
theorem ks_X8_worst : Cond.selects RX8 yX8_worst yX8_worst ∈ sn_gw := sn_gwI (List.mem_of_getElem? (i := 626) (by decide +kernel)) (by decide +kernel)
theorem kl_RL_81 : sn_LV RL 81 yX8_worst cX8_worst 5 (some .int) 0 := ⟨sn_lv5 km_RL_81 kin_X8_worst ks_X8_worst ki_RX8 kc_X8_worst, by decide +kernel⟩
theorem kc_X9_worst : Cond.code yX9_worst cX9_worst 4 (some .int) ∈ sn_gw := sn_gwI (List.mem_of_getElem? (i := 1443) (by decide +kernel)) (by decide +kernel)
theorem km_RL_84 : Cond.methodLink RL 84 yX9_worst ∈ sn_gw := sn_gwI (List.mem_of_getElem? (i := 1440) (by decide +kernel)) (by decide +kernel)
theorem kin_X9_worst : Cond.instanceMethod yX9_worst ∈ sn_gw := sn_gwI (List.mem_of_getElem? (i := 1441) (by decide +kernel)) (by decide +kernel)
theorem ks_X9_worst : Cond.selects RX9 yX9_worst yX9_worst ∈ sn_gw := sn_gwI (List.mem_of_getElem? (i := 1442) (by decide +kernel)) (by decide +kernel)
theorem kl_RL_84 : sn_LV RL 84 yX9_worst cX9_worst 4 (some .int) 0 := ⟨sn_lv5 km_RL_84 kin_X9_worst ks_X9_worst ki_RX9 kc_X9_worst, by decide +kernel⟩
theorem kc_X8_chorus : Cond.code yX8_chorus cX8_chorus 3 (some .int) ∈ sn_gw := sn_gwI (List.mem_of_getElem? (i := 631) (by decide +kernel)) (by decide +kernel)
theorem km_RL_85 : Cond.methodLink RL 85 yX8_chorus ∈ sn_gw := sn_gwI (List.mem_of_getElem? (i := 628) (by decide +kernel)) (by decide +kernel)
theorem kin_X8_chorus : Cond.instanceMethod yX8_chorus ∈ sn_gw := sn_gwI (List.mem_of_getElem? (i := 629) (by decide +kernel)) (by decide +kernel)
theorem ks_X8_chorus : Cond.selects RX8 yX8_chorus yX8_chorus ∈ sn_gw := sn_gwI (List.mem_of_getElem? (i := 630) (by decide +kernel)) (by decide +kernel)
theorem kl_RL_85 : sn_LV RL 85 yX8_chorus cX8_chorus 3 (some .int) 0 := ⟨sn_lv5 km_RL_85 kin_X8_chorus ks_X8_chorus ki_RX8 kc_X8_chorus, by decide +kernel⟩
theorem kc_X9_chorus : Cond.code yX9_chorus cX9_chorus 3 (some .int) ∈ sn_gw := sn_gwI (List.mem_of_getElem? (i := 1447) (by decide +kernel)) (by decide +kernel)
theorem km_RL_88 : Cond.methodLink RL 88 yX9_chorus ∈ sn_gw := sn_gwI (List.mem_of_getElem? (i := 1444) (by decide +kernel)) (by decide +kernel)
theorem kin_X9_chorus : Cond.instanceMethod yX9_chorus ∈ sn_gw := sn_gwI (List.mem_of_getElem? (i := 1445) (by decide +kernel)) (by decide +kernel)
theorem ks_X9_chorus : Cond.selects RX9 yX9_chorus yX9_chorus ∈ sn_gw := sn_gwI (List.mem_of_getElem? (i := 1446) (by decide +kernel)) (by decide +kernel)
theorem kl_RL_88 : sn_LV RL 88 yX9_chorus cX9_chorus 3 (some .int) 0 := ⟨sn_lv5 km_RL_88 kin_X9_chorus ks_X9_chorus ki_RX9 kc_X9_chorus, by decide +kernel⟩
theorem kc_X8_calm : Cond.code yX8_calm cX8_calm 4 (some .int) ∈ sn_gw := sn_gwI (List.mem_of_getElem? (i := 635) (by decide +kernel)) (by decide +kernel)
theorem km_RL_89 : Cond.methodLink RL 89 yX8_calm ∈ sn_gw := sn_gwI (List.mem_of_getElem? (i := 632) (by decide +kernel)) (by decide +kernel)
theorem kin_X8_calm : Cond.instanceMethod yX8_calm ∈ sn_gw := sn_gwI (List.mem_of_getElem? (i := 633) (by decide +kernel)) (by decide +kernel)
theorem ks_X8_calm : Cond.selects RX8 yX8_calm yX8_calm ∈ sn_gw := sn_gwI (List.mem_of_getElem? (i := 634) (by decide +kernel)) (by decide +kernel)
theorem kl_RL_89 : sn_LV RL 89 yX8_calm cX8_calm 4 (some .int) 0 := ⟨sn_lv5 km_RL_89 kin_X8_calm ks_X8_calm ki_RX8 kc_X8_calm, by decide +kernel⟩
theorem kc_X9_calm : Cond.code yX9_calm cX9_calm 4 (some .int) ∈ sn_gw := sn_gwI (List.mem_of_getElem? (i := 1451) (by decide +kernel)) (by decide +kernel)
theorem km_RL_92 : Cond.methodLink RL 92 yX9_calm ∈ sn_gw := sn_gwI (List.mem_of_getElem? (i := 1448) (by decide +kernel)) (by decide +kernel)
theorem kin_X9_calm : Cond.instanceMethod yX9_calm ∈ sn_gw := sn_gwI (List.mem_of_getElem? (i := 1449) (by decide +kernel)) (by decide +kernel)
theorem ks_X9_calm : Cond.selects RX9 yX9_calm yX9_calm ∈ sn_gw := sn_gwI (List.mem_of_getElem? (i := 1450) (by decide +kernel)) (by decide +kernel)
theorem kl_RL_92 : sn_LV RL 92 yX9_calm cX9_calm 4 (some .int) 0 := ⟨sn_lv5 km_RL_92 kin_X9_calm ks_X9_calm ki_RX9 kc_X9_calm, by decide +kernel⟩
theorem kc_X8_pause : Cond.code yX8_pause cX8_pause 5 (some .int) ∈ sn_gw := sn_gwI (List.mem_of_getElem? (i := 639) (by decide +kernel)) (by decide +kernel)
theorem km_RL_93 : Cond.methodLink RL 93 yX8_pause ∈ sn_gw := sn_gwI (List.mem_of_getElem? (i := 636) (by decide +kernel)) (by decide +kernel)
theorem kin_X8_pause : Cond.instanceMethod yX8_pause ∈ sn_gw := sn_gwI (List.mem_of_getElem? (i := 637) (by decide +kernel)) (by decide +kernel)
theorem ks_X8_pause : Cond.selects RX8 yX8_pause yX8_pause ∈ sn_gw := sn_gwI (List.mem_of_getElem? (i := 638) (by decide +kernel)) (by decide +kernel)
theorem kl_RL_93 : sn_LV RL 93 yX8_pause cX8_pause 5 (some .int) 1 := ⟨sn_lv5 km_RL_93 kin_X8_pause ks_X8_pause ki_RX8 kc_X8_pause, by decide +kernel⟩
theorem kc_X9_pause : Cond.code yX9_pause cX9_pause 5 (some .int) ∈ sn_gw := sn_gwI (List.mem_of_getElem? (i := 1455) (by decide +kernel)) (by decide +kernel)
theorem km_RL_96 : Cond.methodLink RL 96 yX9_pause ∈ sn_gw := sn_gwI (List.mem_of_getElem? (i := 1452) (by decide +kernel)) (by decide +kernel)
theorem kin_X9_pause : Cond.instanceMethod yX9_pause ∈ sn_gw := sn_gwI (List.mem_of_getElem? (i := 1453) (by decide +kernel)) (by decide +kernel)
theorem ks_X9_pause : Cond.selects RX9 yX9_pause yX9_pause ∈ sn_gw := sn_gwI (List.mem_of_getElem? (i := 1454) (by decide +kernel)) (by decide +kernel)
theorem kl_RL_96 : sn_LV RL 96 yX9_pause cX9_pause 5 (some .int) 1 := ⟨sn_lv5 km_RL_96 kin_X9_pause ks_X9_pause ki_RX9 kc_X9_pause, by decide +kernel⟩
theorem kc_X8_later : Cond.code yX8_later cX8_later 3 (some .int) ∈ sn_gw := sn_gwI (List.mem_of_getElem? (i := 644) (by decide +kernel)) (by decide +kernel)
theorem km_RL_97 : Cond.methodLink RL 97 yX8_later ∈ sn_gw := sn_gwI (List.mem_of_getElem? (i := 641) (by decide +kernel)) (by decide +kernel)
theorem kin_X8_later : Cond.instanceMethod yX8_later ∈ sn_gw := sn_gwI (List.mem_of_getElem? (i := 642) (by decide +kernel)) (by decide +kernel)
theorem ks_X8_later : Cond.selects RX8 yX8_later yX8_later ∈ sn_gw := sn_gwI (List.mem_of_getElem? (i := 643) (by decide +kernel)) (by decide +kernel)
theorem kl_RL_97 : sn_LV RL 97 yX8_later cX8_later 3 (some .int) 2 := ⟨sn_lv5 km_RL_97 kin_X8_later ks_X8_later ki_RX8 kc_X8_later, by decide +kernel⟩
theorem kc_X9_later : Cond.code yX9_later cX9_later 3 (some .int) ∈ sn_gw := sn_gwI (List.mem_of_getElem? (i := 1463) (by decide +kernel)) (by decide +kernel)
theorem km_RL_100 : Cond.methodLink RL 100 yX9_later ∈ sn_gw := sn_gwI (List.mem_of_getElem? (i := 1460) (by decide +kernel)) (by decide +kernel)
theorem kin_X9_later : Cond.instanceMethod yX9_later ∈ sn_gw := sn_gwI (List.mem_of_getElem? (i := 1461) (by decide +kernel)) (by decide +kernel)
theorem ks_X9_later : Cond.selects RX9 yX9_later yX9_later ∈ sn_gw := sn_gwI (List.mem_of_getElem? (i := 1462) (by decide +kernel)) (by decide +kernel)
theorem kl_RL_100 : sn_LV RL 100 yX9_later cX9_later 3 (some .int) 2 := ⟨sn_lv5 km_RL_100 kin_X9_later ks_X9_later ki_RX9 kc_X9_later, by decide +kernel⟩
theorem kc_X8_covered : Cond.code yX8_covered cX8_covered 2 (some .int) ∈ sn_gw := sn_gwI (List.mem_of_getElem? (i := 649) (by decide +kernel)) (by decide +kernel)
theorem km_RL_101 : Cond.methodLink RL 101 yX8_covered ∈ sn_gw := sn_gwI (List.mem_of_getElem? (i := 646) (by decide +kernel)) (by decide +kernel)
theorem kin_X8_covered : Cond.instanceMethod yX8_covered ∈ sn_gw := sn_gwI (List.mem_of_getElem? (i := 647) (by decide +kernel)) (by decide +kernel)
theorem ks_X8_covered : Cond.selects RX8 yX8_covered yX8_covered ∈ sn_gw := sn_gwI (List.mem_of_getElem? (i := 648) (by decide +kernel)) (by decide +kernel)
theorem kl_RL_101 : sn_LV RL 101 yX8_covered cX8_covered 2 (some .int) 1 := ⟨sn_lv5 km_RL_101 kin_X8_covered ks_X8_covered ki_RX8 kc_X8_covered, by decide +kernel⟩
theorem kc_X9_covered : Cond.code yX9_covered cX9_covered 2 (some .int) ∈ sn_gw := sn_gwI (List.mem_of_getElem? (i := 1544) (by decide +kernel)) (by decide +kernel)
theorem km_RL_104 : Cond.methodLink RL 104 yX9_covered ∈ sn_gw := sn_gwI (List.mem_of_getElem? (i := 1541) (by decide +kernel)) (by decide +kernel)
theorem kin_X9_covered : Cond.instanceMethod yX9_covered ∈ sn_gw := sn_gwI (List.mem_of_getElem? (i := 1542) (by decide +kernel)) (by decide +kernel)
theorem ks_X9_covered : Cond.selects RX9 yX9_covered yX9_covered ∈ sn_gw := sn_gwI (List.mem_of_getElem? (i := 1543) (by decide +kernel)) (by decide +kernel)
theorem kl_RL_104 : sn_LV RL 104 yX9_covered cX9_covered 2 (some .int) 1 := ⟨sn_lv5 km_RL_104 kin_X9_covered ks_X9_covered ki_RX9 kc_X9_covered, by decide +kernel⟩
theorem kc_X8_naked : Cond.code yX8_naked cX8_naked 3 (some .int) ∈ sn_gw := sn_gwI (List.mem_of_getElem? (i := 661) (by decide +kernel)) (by decide +kernel)
theorem km_RL_105 : Cond.methodLink RL 105 yX8_naked ∈ sn_gw := sn_gwI (List.mem_of_getElem? (i := 658) (by decide +kernel)) (by decide +kernel)
theorem kin_X8_naked : Cond.instanceMethod yX8_naked ∈ sn_gw := sn_gwI (List.mem_of_getElem? (i := 659) (by decide +kernel)) (by decide +kernel)
theorem ks_X8_naked : Cond.selects RX8 yX8_naked yX8_naked ∈ sn_gw := sn_gwI (List.mem_of_getElem? (i := 660) (by decide +kernel)) (by decide +kernel)
theorem kl_RL_105 : sn_LV RL 105 yX8_naked cX8_naked 3 (some .int) 0 := ⟨sn_lv5 km_RL_105 kin_X8_naked ks_X8_naked ki_RX8 kc_X8_naked, by decide +kernel⟩
theorem kc_X9_naked : Cond.code yX9_naked cX9_naked 3 (some .int) ∈ sn_gw := sn_gwI (List.mem_of_getElem? (i := 1552) (by decide +kernel)) (by decide +kernel)
theorem km_RL_108 : Cond.methodLink RL 108 yX9_naked ∈ sn_gw := sn_gwI (List.mem_of_getElem? (i := 1549) (by decide +kernel)) (by decide +kernel)
theorem kin_X9_naked : Cond.instanceMethod yX9_naked ∈ sn_gw := sn_gwI (List.mem_of_getElem? (i := 1550) (by decide +kernel)) (by decide +kernel)
theorem ks_X9_naked : Cond.selects RX9 yX9_naked yX9_naked ∈ sn_gw := sn_gwI (List.mem_of_getElem? (i := 1551) (by decide +kernel)) (by decide +kernel)
theorem kl_RL_108 : sn_LV RL 108 yX9_naked cX9_naked 3 (some .int) 0 := ⟨sn_lv5 km_RL_108 kin_X9_naked ks_X9_naked ki_RX9 kc_X9_naked, by decide +kernel⟩
theorem kc_X8_covers : Cond.code yX8_covers cX8_covers 4 (some .int) ∈ sn_gw := sn_gwI (List.mem_of_getElem? (i := 665) (by decide +kernel)) (by decide +kernel)
theorem km_RL_109 : Cond.methodLink RL 109 yX8_covers ∈ sn_gw := sn_gwI (List.mem_of_getElem? (i := 662) (by decide +kernel)) (by decide +kernel)
theorem kin_X8_covers : Cond.instanceMethod yX8_covers ∈ sn_gw := sn_gwI (List.mem_of_getElem? (i := 663) (by decide +kernel)) (by decide +kernel)
theorem ks_X8_covers : Cond.selects RX8 yX8_covers yX8_covers ∈ sn_gw := sn_gwI (List.mem_of_getElem? (i := 664) (by decide +kernel)) (by decide +kernel)
theorem kl_RL_109 : sn_LV RL 109 yX8_covers cX8_covers 4 (some .int) 1 := ⟨sn_lv5 km_RL_109 kin_X8_covers ks_X8_covers ki_RX8 kc_X8_covers, by decide +kernel⟩
theorem kc_X9_covers : Cond.code yX9_covers cX9_covers 4 (some .int) ∈ sn_gw := sn_gwI (List.mem_of_getElem? (i := 1556) (by decide +kernel)) (by decide +kernel)
theorem km_RL_112 : Cond.methodLink RL 112 yX9_covers ∈ sn_gw := sn_gwI (List.mem_of_getElem? (i := 1553) (by decide +kernel)) (by decide +kernel)
theorem kin_X9_covers : Cond.instanceMethod yX9_covers ∈ sn_gw := sn_gwI (List.mem_of_getElem? (i := 1554) (by decide +kernel)) (by decide +kernel)
theorem ks_X9_covers : Cond.selects RX9 yX9_covers yX9_covers ∈ sn_gw := sn_gwI (List.mem_of_getElem? (i := 1555) (by decide +kernel)) (by decide +kernel)
theorem kl_RL_112 : sn_LV RL 112 yX9_covers cX9_covers 4 (some .int) 1 := ⟨sn_lv5 km_RL_112 kin_X9_covers ks_X9_covers ki_RX9 kc_X9_covers, by decide +kernel⟩
theorem kc_X8_profit : Cond.code yX8_profit cX8_profit 2 (some .int) ∈ sn_gw := sn_gwI (List.mem_of_getElem? (i := 746) (by decide +kernel)) (by decide +kernel)
theorem km_RL_113 : Cond.methodLink RL 113 yX8_profit ∈ sn_gw := sn_gwI (List.mem_of_getElem? (i := 743) (by decide +kernel)) (by decide +kernel)
theorem kin_X8_profit : Cond.instanceMethod yX8_profit ∈ sn_gw := sn_gwI (List.mem_of_getElem? (i := 744) (by decide +kernel)) (by decide +kernel)
theorem ks_X8_profit : Cond.selects RX8 yX8_profit yX8_profit ∈ sn_gw := sn_gwI (List.mem_of_getElem? (i := 745) (by decide +kernel)) (by decide +kernel)
theorem kl_RL_113 : sn_LV RL 113 yX8_profit cX8_profit 2 (some .int) 1 := ⟨sn_lv5 km_RL_113 kin_X8_profit ks_X8_profit ki_RX8 kc_X8_profit, by decide +kernel⟩
theorem kc_X9_profit : Cond.code yX9_profit cX9_profit 2 (some .int) ∈ sn_gw := sn_gwI (List.mem_of_getElem? (i := 1560) (by decide +kernel)) (by decide +kernel)
theorem km_RL_116 : Cond.methodLink RL 116 yX9_profit ∈ sn_gw := sn_gwI (List.mem_of_getElem? (i := 1557) (by decide +kernel)) (by decide +kernel)
theorem kin_X9_profit : Cond.instanceMethod yX9_profit ∈ sn_gw := sn_gwI (List.mem_of_getElem? (i := 1558) (by decide +kernel)) (by decide +kernel)
theorem ks_X9_profit : Cond.selects RX9 yX9_profit yX9_profit ∈ sn_gw := sn_gwI (List.mem_of_getElem? (i := 1559) (by decide +kernel)) (by decide +kernel)
theorem kl_RL_116 : sn_LV RL 116 yX9_profit cX9_profit 2 (some .int) 1 := ⟨sn_lv5 km_RL_116 kin_X9_profit ks_X9_profit ki_RX9 kc_X9_profit, by decide +kernel⟩
theorem kc_X8_lowest : Cond.code yX8_lowest cX8_lowest 1 (some .int) ∈ sn_gw := sn_gwI (List.mem_of_getElem? (i := 759) (by decide +kernel)) (by decide +kernel)
theorem km_RL_117 : Cond.methodLink RL 117 yX8_lowest ∈ sn_gw := sn_gwI (List.mem_of_getElem? (i := 756) (by decide +kernel)) (by decide +kernel)
theorem kin_X8_lowest : Cond.instanceMethod yX8_lowest ∈ sn_gw := sn_gwI (List.mem_of_getElem? (i := 757) (by decide +kernel)) (by decide +kernel)
theorem ks_X8_lowest : Cond.selects RX8 yX8_lowest yX8_lowest ∈ sn_gw := sn_gwI (List.mem_of_getElem? (i := 758) (by decide +kernel)) (by decide +kernel)
theorem kl_RL_117 : sn_LV RL 117 yX8_lowest cX8_lowest 1 (some .int) 0 := ⟨sn_lv5 km_RL_117 kin_X8_lowest ks_X8_lowest ki_RX8 kc_X8_lowest, by decide +kernel⟩
theorem kc_X9_lowest : Cond.code yX9_lowest cX9_lowest 3 (some .int) ∈ sn_gw := sn_gwI (List.mem_of_getElem? (i := 1564) (by decide +kernel)) (by decide +kernel)
theorem km_RL_120 : Cond.methodLink RL 120 yX9_lowest ∈ sn_gw := sn_gwI (List.mem_of_getElem? (i := 1561) (by decide +kernel)) (by decide +kernel)
theorem kin_X9_lowest : Cond.instanceMethod yX9_lowest ∈ sn_gw := sn_gwI (List.mem_of_getElem? (i := 1562) (by decide +kernel)) (by decide +kernel)
theorem ks_X9_lowest : Cond.selects RX9 yX9_lowest yX9_lowest ∈ sn_gw := sn_gwI (List.mem_of_getElem? (i := 1563) (by decide +kernel)) (by decide +kernel)
theorem kl_RL_120 : sn_LV RL 120 yX9_lowest cX9_lowest 3 (some .int) 0 := ⟨sn_lv5 km_RL_120 kin_X9_lowest ks_X9_lowest ki_RX9 kc_X9_lowest, by decide +kernel⟩
theorem kc_X8_dull : Cond.code yX8_dull cX8_dull 3 (some .int) ∈ sn_gw := sn_gwI (List.mem_of_getElem? (i := 669) (by decide +kernel)) (by decide +kernel)
theorem km_RL_121 : Cond.methodLink RL 121 yX8_dull ∈ sn_gw := sn_gwI (List.mem_of_getElem? (i := 666) (by decide +kernel)) (by decide +kernel)
theorem kin_X8_dull : Cond.instanceMethod yX8_dull ∈ sn_gw := sn_gwI (List.mem_of_getElem? (i := 667) (by decide +kernel)) (by decide +kernel)
theorem ks_X8_dull : Cond.selects RX8 yX8_dull yX8_dull ∈ sn_gw := sn_gwI (List.mem_of_getElem? (i := 668) (by decide +kernel)) (by decide +kernel)
theorem kl_RL_121 : sn_LV RL 121 yX8_dull cX8_dull 3 (some .int) 1 := ⟨sn_lv5 km_RL_121 kin_X8_dull ks_X8_dull ki_RX8 kc_X8_dull, by decide +kernel⟩
theorem kc_X9_dull : Cond.code yX9_dull cX9_dull 2 (some .int) ∈ sn_gw := sn_gwI (List.mem_of_getElem? (i := 1475) (by decide +kernel)) (by decide +kernel)
theorem km_RL_124 : Cond.methodLink RL 124 yX9_dull ∈ sn_gw := sn_gwI (List.mem_of_getElem? (i := 1472) (by decide +kernel)) (by decide +kernel)
theorem kin_X9_dull : Cond.instanceMethod yX9_dull ∈ sn_gw := sn_gwI (List.mem_of_getElem? (i := 1473) (by decide +kernel)) (by decide +kernel)
theorem ks_X9_dull : Cond.selects RX9 yX9_dull yX9_dull ∈ sn_gw := sn_gwI (List.mem_of_getElem? (i := 1474) (by decide +kernel)) (by decide +kernel)
theorem kl_RL_124 : sn_LV RL 124 yX9_dull cX9_dull 2 (some .int) 1 := ⟨sn_lv5 km_RL_124 kin_X9_dull ks_X9_dull ki_RX9 kc_X9_dull, by decide +kernel⟩
theorem kc_X8_bears : Cond.code yX8_bears cX8_bears 4 (some .int) ∈ sn_gw := sn_gwI (List.mem_of_getElem? (i := 677) (by decide +kernel)) (by decide +kernel)
theorem km_RL_125 : Cond.methodLink RL 125 yX8_bears ∈ sn_gw := sn_gwI (List.mem_of_getElem? (i := 674) (by decide +kernel)) (by decide +kernel)
theorem kin_X8_bears : Cond.instanceMethod yX8_bears ∈ sn_gw := sn_gwI (List.mem_of_getElem? (i := 675) (by decide +kernel)) (by decide +kernel)
theorem ks_X8_bears : Cond.selects RX8 yX8_bears yX8_bears ∈ sn_gw := sn_gwI (List.mem_of_getElem? (i := 676) (by decide +kernel)) (by decide +kernel)
theorem kl_RL_125 : sn_LV RL 125 yX8_bears cX8_bears 4 (some .int) 1 := ⟨sn_lv5 km_RL_125 kin_X8_bears ks_X8_bears ki_RX8 kc_X8_bears, by decide +kernel⟩
theorem kc_X9_bears : Cond.code yX9_bears cX9_bears 2 (some .int) ∈ sn_gw := sn_gwI (List.mem_of_getElem? (i := 1483) (by decide +kernel)) (by decide +kernel)
theorem km_RL_128 : Cond.methodLink RL 128 yX9_bears ∈ sn_gw := sn_gwI (List.mem_of_getElem? (i := 1480) (by decide +kernel)) (by decide +kernel)
theorem kin_X9_bears : Cond.instanceMethod yX9_bears ∈ sn_gw := sn_gwI (List.mem_of_getElem? (i := 1481) (by decide +kernel)) (by decide +kernel)
theorem ks_X9_bears : Cond.selects RX9 yX9_bears yX9_bears ∈ sn_gw := sn_gwI (List.mem_of_getElem? (i := 1482) (by decide +kernel)) (by decide +kernel)
theorem kl_RL_128 : sn_LV RL 128 yX9_bears cX9_bears 2 (some .int) 1 := ⟨sn_lv5 km_RL_128 kin_X9_bears ks_X9_bears ki_RX9 kc_X9_bears, by decide +kernel⟩
theorem kc_X8_clean : Cond.code yX8_clean cX8_clean 3 (some .int) ∈ sn_gw := sn_gwI (List.mem_of_getElem? (i := 682) (by decide +kernel)) (by decide +kernel)
theorem km_RL_129 : Cond.methodLink RL 129 yX8_clean ∈ sn_gw := sn_gwI (List.mem_of_getElem? (i := 679) (by decide +kernel)) (by decide +kernel)
theorem kin_X8_clean : Cond.instanceMethod yX8_clean ∈ sn_gw := sn_gwI (List.mem_of_getElem? (i := 680) (by decide +kernel)) (by decide +kernel)
theorem ks_X8_clean : Cond.selects RX8 yX8_clean yX8_clean ∈ sn_gw := sn_gwI (List.mem_of_getElem? (i := 681) (by decide +kernel)) (by decide +kernel)
theorem kl_RL_129 : sn_LV RL 129 yX8_clean cX8_clean 3 (some .int) 0 := ⟨sn_lv5 km_RL_129 kin_X8_clean ks_X8_clean ki_RX8 kc_X8_clean, by decide +kernel⟩
theorem kc_X9_clean : Cond.code yX9_clean cX9_clean 1 (some .int) ∈ sn_gw := sn_gwI (List.mem_of_getElem? (i := 1487) (by decide +kernel)) (by decide +kernel)
theorem km_RL_132 : Cond.methodLink RL 132 yX9_clean ∈ sn_gw := sn_gwI (List.mem_of_getElem? (i := 1484) (by decide +kernel)) (by decide +kernel)
theorem kin_X9_clean : Cond.instanceMethod yX9_clean ∈ sn_gw := sn_gwI (List.mem_of_getElem? (i := 1485) (by decide +kernel)) (by decide +kernel)
theorem ks_X9_clean : Cond.selects RX9 yX9_clean yX9_clean ∈ sn_gw := sn_gwI (List.mem_of_getElem? (i := 1486) (by decide +kernel)) (by decide +kernel)
theorem kl_RL_132 : sn_LV RL 132 yX9_clean cX9_clean 1 (some .int) 0 := ⟨sn_lv5 km_RL_132 kin_X9_clean ks_X9_clean ki_RX9 kc_X9_clean, by decide +kernel⟩
theorem kc_X8_spreads : Cond.code yX8_spreads cX8_spreads 4 (some .int) ∈ sn_gw := sn_gwI (List.mem_of_getElem? (i := 686) (by decide +kernel)) (by decide +kernel)
theorem km_RL_133 : Cond.methodLink RL 133 yX8_spreads ∈ sn_gw := sn_gwI (List.mem_of_getElem? (i := 683) (by decide +kernel)) (by decide +kernel)
theorem kin_X8_spreads : Cond.instanceMethod yX8_spreads ∈ sn_gw := sn_gwI (List.mem_of_getElem? (i := 684) (by decide +kernel)) (by decide +kernel)
theorem ks_X8_spreads : Cond.selects RX8 yX8_spreads yX8_spreads ∈ sn_gw := sn_gwI (List.mem_of_getElem? (i := 685) (by decide +kernel)) (by decide +kernel)
theorem kl_RL_133 : sn_LV RL 133 yX8_spreads cX8_spreads 4 (some .int) 1 := ⟨sn_lv5 km_RL_133 kin_X8_spreads ks_X8_spreads ki_RX8 kc_X8_spreads, by decide +kernel⟩
theorem kc_X9_spreads : Cond.code yX9_spreads cX9_spreads 4 (some .int) ∈ sn_gw := sn_gwI (List.mem_of_getElem? (i := 1471) (by decide +kernel)) (by decide +kernel)
theorem km_RL_136 : Cond.methodLink RL 136 yX9_spreads ∈ sn_gw := sn_gwI (List.mem_of_getElem? (i := 1468) (by decide +kernel)) (by decide +kernel)
theorem kin_X9_spreads : Cond.instanceMethod yX9_spreads ∈ sn_gw := sn_gwI (List.mem_of_getElem? (i := 1469) (by decide +kernel)) (by decide +kernel)
theorem ks_X9_spreads : Cond.selects RX9 yX9_spreads yX9_spreads ∈ sn_gw := sn_gwI (List.mem_of_getElem? (i := 1470) (by decide +kernel)) (by decide +kernel)
theorem kl_RL_136 : sn_LV RL 136 yX9_spreads cX9_spreads 4 (some .int) 1 := ⟨sn_lv5 km_RL_136 kin_X9_spreads ks_X9_spreads ki_RX9 kc_X9_spreads, by decide +kernel⟩
theorem kc_X8_web : Cond.code yX8_web cX8_web 6 (some .int) ∈ sn_gw := sn_gwI (List.mem_of_getElem? (i := 690) (by decide +kernel)) (by decide +kernel)
theorem km_RL_137 : Cond.methodLink RL 137 yX8_web ∈ sn_gw := sn_gwI (List.mem_of_getElem? (i := 687) (by decide +kernel)) (by decide +kernel)
theorem kin_X8_web : Cond.instanceMethod yX8_web ∈ sn_gw := sn_gwI (List.mem_of_getElem? (i := 688) (by decide +kernel)) (by decide +kernel)
theorem ks_X8_web : Cond.selects RX8 yX8_web yX8_web ∈ sn_gw := sn_gwI (List.mem_of_getElem? (i := 689) (by decide +kernel)) (by decide +kernel)
theorem kl_RL_137 : sn_LV RL 137 yX8_web cX8_web 6 (some .int) 1 := ⟨sn_lv5 km_RL_137 kin_X8_web ks_X8_web ki_RX8 kc_X8_web, by decide +kernel⟩
theorem kc_X9_web : Cond.code yX9_web cX9_web 6 (some .int) ∈ sn_gw := sn_gwI (List.mem_of_getElem? (i := 1467) (by decide +kernel)) (by decide +kernel)
theorem km_RL_140 : Cond.methodLink RL 140 yX9_web ∈ sn_gw := sn_gwI (List.mem_of_getElem? (i := 1464) (by decide +kernel)) (by decide +kernel)
theorem kin_X9_web : Cond.instanceMethod yX9_web ∈ sn_gw := sn_gwI (List.mem_of_getElem? (i := 1465) (by decide +kernel)) (by decide +kernel)
theorem ks_X9_web : Cond.selects RX9 yX9_web yX9_web ∈ sn_gw := sn_gwI (List.mem_of_getElem? (i := 1466) (by decide +kernel)) (by decide +kernel)
theorem kl_RL_140 : sn_LV RL 140 yX9_web cX9_web 6 (some .int) 1 := ⟨sn_lv5 km_RL_140 kin_X9_web ks_X9_web ki_RX9 kc_X9_web, by decide +kernel⟩
theorem kc_X8_claim : Cond.code yX8_claim cX8_claim 2 (some .int) ∈ sn_gw := sn_gwI (List.mem_of_getElem? (i := 710) (by decide +kernel)) (by decide +kernel)
theorem km_RL_141 : Cond.methodLink RL 141 yX8_claim ∈ sn_gw := sn_gwI (List.mem_of_getElem? (i := 707) (by decide +kernel)) (by decide +kernel)
theorem kin_X8_claim : Cond.instanceMethod yX8_claim ∈ sn_gw := sn_gwI (List.mem_of_getElem? (i := 708) (by decide +kernel)) (by decide +kernel)
theorem ks_X8_claim : Cond.selects RX8 yX8_claim yX8_claim ∈ sn_gw := sn_gwI (List.mem_of_getElem? (i := 709) (by decide +kernel)) (by decide +kernel)
theorem kl_RL_141 : sn_LV RL 141 yX8_claim cX8_claim 2 (some .int) 1 := ⟨sn_lv5 km_RL_141 kin_X8_claim ks_X8_claim ki_RX8 kc_X8_claim, by decide +kernel⟩
theorem kc_X9_claim : Cond.code yX9_claim cX9_claim 2 (some .int) ∈ sn_gw := sn_gwI (List.mem_of_getElem? (i := 1491) (by decide +kernel)) (by decide +kernel)
theorem km_RL_144 : Cond.methodLink RL 144 yX9_claim ∈ sn_gw := sn_gwI (List.mem_of_getElem? (i := 1488) (by decide +kernel)) (by decide +kernel)
theorem kin_X9_claim : Cond.instanceMethod yX9_claim ∈ sn_gw := sn_gwI (List.mem_of_getElem? (i := 1489) (by decide +kernel)) (by decide +kernel)
theorem ks_X9_claim : Cond.selects RX9 yX9_claim yX9_claim ∈ sn_gw := sn_gwI (List.mem_of_getElem? (i := 1490) (by decide +kernel)) (by decide +kernel)
theorem kl_RL_144 : sn_LV RL 144 yX9_claim cX9_claim 2 (some .int) 1 := ⟨sn_lv5 km_RL_144 kin_X9_claim ks_X9_claim ki_RX9 kc_X9_claim, by decide +kernel⟩
theorem kc_X8_paid : Cond.code yX8_paid cX8_paid 2 (some .int) ∈ sn_gw := sn_gwI (List.mem_of_getElem? (i := 738) (by decide +kernel)) (by decide +kernel)
theorem km_RL_145 : Cond.methodLink RL 145 yX8_paid ∈ sn_gw := sn_gwI (List.mem_of_getElem? (i := 735) (by decide +kernel)) (by decide +kernel)
theorem kin_X8_paid : Cond.instanceMethod yX8_paid ∈ sn_gw := sn_gwI (List.mem_of_getElem? (i := 736) (by decide +kernel)) (by decide +kernel)
theorem ks_X8_paid : Cond.selects RX8 yX8_paid yX8_paid ∈ sn_gw := sn_gwI (List.mem_of_getElem? (i := 737) (by decide +kernel)) (by decide +kernel)
theorem kl_RL_145 : sn_LV RL 145 yX8_paid cX8_paid 2 (some .int) 1 := ⟨sn_lv5 km_RL_145 kin_X8_paid ks_X8_paid ki_RX8 kc_X8_paid, by decide +kernel⟩
theorem kc_X9_paid : Cond.code yX9_paid cX9_paid 2 (some .int) ∈ sn_gw := sn_gwI (List.mem_of_getElem? (i := 1515) (by decide +kernel)) (by decide +kernel)
theorem km_RL_148 : Cond.methodLink RL 148 yX9_paid ∈ sn_gw := sn_gwI (List.mem_of_getElem? (i := 1512) (by decide +kernel)) (by decide +kernel)
theorem kin_X9_paid : Cond.instanceMethod yX9_paid ∈ sn_gw := sn_gwI (List.mem_of_getElem? (i := 1513) (by decide +kernel)) (by decide +kernel)
theorem ks_X9_paid : Cond.selects RX9 yX9_paid yX9_paid ∈ sn_gw := sn_gwI (List.mem_of_getElem? (i := 1514) (by decide +kernel)) (by decide +kernel)
theorem kl_RL_148 : sn_LV RL 148 yX9_paid cX9_paid 2 (some .int) 1 := ⟨sn_lv5 km_RL_148 kin_X9_paid ks_X9_paid ki_RX9 kc_X9_paid, by decide +kernel⟩
theorem kc_X8_claims : Cond.code yX8_claims cX8_claims 4 (some .int) ∈ sn_gw := sn_gwI (List.mem_of_getElem? (i := 742) (by decide +kernel)) (by decide +kernel)
theorem km_RL_149 : Cond.methodLink RL 149 yX8_claims ∈ sn_gw := sn_gwI (List.mem_of_getElem? (i := 739) (by decide +kernel)) (by decide +kernel)
theorem kin_X8_claims : Cond.instanceMethod yX8_claims ∈ sn_gw := sn_gwI (List.mem_of_getElem? (i := 740) (by decide +kernel)) (by decide +kernel)
theorem ks_X8_claims : Cond.selects RX8 yX8_claims yX8_claims ∈ sn_gw := sn_gwI (List.mem_of_getElem? (i := 741) (by decide +kernel)) (by decide +kernel)
theorem kl_RL_149 : sn_LV RL 149 yX8_claims cX8_claims 4 (some .int) 0 := ⟨sn_lv5 km_RL_149 kin_X8_claims ks_X8_claims ki_RX8 kc_X8_claims, by decide +kernel⟩
theorem kc_X9_claims : Cond.code yX9_claims cX9_claims 3 (some .int) ∈ sn_gw := sn_gwI (List.mem_of_getElem? (i := 1519) (by decide +kernel)) (by decide +kernel)
theorem km_RL_152 : Cond.methodLink RL 152 yX9_claims ∈ sn_gw := sn_gwI (List.mem_of_getElem? (i := 1516) (by decide +kernel)) (by decide +kernel)
theorem kin_X9_claims : Cond.instanceMethod yX9_claims ∈ sn_gw := sn_gwI (List.mem_of_getElem? (i := 1517) (by decide +kernel)) (by decide +kernel)
theorem ks_X9_claims : Cond.selects RX9 yX9_claims yX9_claims ∈ sn_gw := sn_gwI (List.mem_of_getElem? (i := 1518) (by decide +kernel)) (by decide +kernel)
theorem kl_RL_152 : sn_LV RL 152 yX9_claims cX9_claims 3 (some .int) 0 := ⟨sn_lv5 km_RL_152 kin_X9_claims ks_X9_claims ki_RX9 kc_X9_claims, by decide +kernel⟩
theorem kc_X8_money : Cond.code yX8_money cX8_money 2 (some .int) ∈ sn_gw := sn_gwI (List.mem_of_getElem? (i := 751) (by decide +kernel)) (by decide +kernel)
theorem km_RL_153 : Cond.methodLink RL 153 yX8_money ∈ sn_gw := sn_gwI (List.mem_of_getElem? (i := 748) (by decide +kernel)) (by decide +kernel)
theorem kin_X8_money : Cond.instanceMethod yX8_money ∈ sn_gw := sn_gwI (List.mem_of_getElem? (i := 749) (by decide +kernel)) (by decide +kernel)
theorem ks_X8_money : Cond.selects RX8 yX8_money yX8_money ∈ sn_gw := sn_gwI (List.mem_of_getElem? (i := 750) (by decide +kernel)) (by decide +kernel)
theorem kl_RL_153 : sn_LV RL 153 yX8_money cX8_money 2 (some .int) 1 := ⟨sn_lv5 km_RL_153 kin_X8_money ks_X8_money ki_RX8 kc_X8_money, by decide +kernel⟩
theorem kc_X9_money : Cond.code yX9_money cX9_money 2 (some .int) ∈ sn_gw := sn_gwI (List.mem_of_getElem? (i := 1523) (by decide +kernel)) (by decide +kernel)
theorem km_RL_156 : Cond.methodLink RL 156 yX9_money ∈ sn_gw := sn_gwI (List.mem_of_getElem? (i := 1520) (by decide +kernel)) (by decide +kernel)
theorem kin_X9_money : Cond.instanceMethod yX9_money ∈ sn_gw := sn_gwI (List.mem_of_getElem? (i := 1521) (by decide +kernel)) (by decide +kernel)
theorem ks_X9_money : Cond.selects RX9 yX9_money yX9_money ∈ sn_gw := sn_gwI (List.mem_of_getElem? (i := 1522) (by decide +kernel)) (by decide +kernel)
theorem kl_RL_156 : sn_LV RL 156 yX9_money cX9_money 2 (some .int) 1 := ⟨sn_lv5 km_RL_156 kin_X9_money ks_X9_money ki_RX9 kc_X9_money, by decide +kernel⟩
theorem kc_X8_ruin : Cond.code yX8_ruin cX8_ruin 1 (some .int) ∈ sn_gw := sn_gwI (List.mem_of_getElem? (i := 768) (by decide +kernel)) (by decide +kernel)
theorem km_RL_157 : Cond.methodLink RL 157 yX8_ruin ∈ sn_gw := sn_gwI (List.mem_of_getElem? (i := 765) (by decide +kernel)) (by decide +kernel)
theorem kin_X8_ruin : Cond.instanceMethod yX8_ruin ∈ sn_gw := sn_gwI (List.mem_of_getElem? (i := 766) (by decide +kernel)) (by decide +kernel)
theorem ks_X8_ruin : Cond.selects RX8 yX8_ruin yX8_ruin ∈ sn_gw := sn_gwI (List.mem_of_getElem? (i := 767) (by decide +kernel)) (by decide +kernel)
theorem kl_RL_157 : sn_LV RL 157 yX8_ruin cX8_ruin 1 (some .int) 0 := ⟨sn_lv5 km_RL_157 kin_X8_ruin ks_X8_ruin ki_RX8 kc_X8_ruin, by decide +kernel⟩
theorem kc_X9_ruin : Cond.code yX9_ruin cX9_ruin 1 (some .int) ∈ sn_gw := sn_gwI (List.mem_of_getElem? (i := 1536) (by decide +kernel)) (by decide +kernel)
theorem km_RL_160 : Cond.methodLink RL 160 yX9_ruin ∈ sn_gw := sn_gwI (List.mem_of_getElem? (i := 1533) (by decide +kernel)) (by decide +kernel)
theorem kin_X9_ruin : Cond.instanceMethod yX9_ruin ∈ sn_gw := sn_gwI (List.mem_of_getElem? (i := 1534) (by decide +kernel)) (by decide +kernel)
theorem ks_X9_ruin : Cond.selects RX9 yX9_ruin yX9_ruin ∈ sn_gw := sn_gwI (List.mem_of_getElem? (i := 1535) (by decide +kernel)) (by decide +kernel)
theorem kl_RL_160 : sn_LV RL 160 yX9_ruin cX9_ruin 1 (some .int) 0 := ⟨sn_lv5 km_RL_160 kin_X9_ruin ks_X9_ruin ki_RX9 kc_X9_ruin, by decide +kernel⟩
theorem kc_X8_dear : Cond.code yX8_dear cX8_dear 6 (some .int) ∈ sn_gw := sn_gwI (List.mem_of_getElem? (i := 776) (by decide +kernel)) (by decide +kernel)
theorem km_RL_161 : Cond.methodLink RL 161 yX8_dear ∈ sn_gw := sn_gwI (List.mem_of_getElem? (i := 773) (by decide +kernel)) (by decide +kernel)
theorem kin_X8_dear : Cond.instanceMethod yX8_dear ∈ sn_gw := sn_gwI (List.mem_of_getElem? (i := 774) (by decide +kernel)) (by decide +kernel)
theorem ks_X8_dear : Cond.selects RX8 yX8_dear yX8_dear ∈ sn_gw := sn_gwI (List.mem_of_getElem? (i := 775) (by decide +kernel)) (by decide +kernel)
theorem kl_RL_161 : sn_LV RL 161 yX8_dear cX8_dear 6 (some .int) 0 := ⟨sn_lv5 km_RL_161 kin_X8_dear ks_X8_dear ki_RX8 kc_X8_dear, by decide +kernel⟩
theorem kc_X9_dear : Cond.code yX9_dear cX9_dear 5 (some .int) ∈ sn_gw := sn_gwI (List.mem_of_getElem? (i := 1568) (by decide +kernel)) (by decide +kernel)
theorem km_RL_164 : Cond.methodLink RL 164 yX9_dear ∈ sn_gw := sn_gwI (List.mem_of_getElem? (i := 1565) (by decide +kernel)) (by decide +kernel)
theorem kin_X9_dear : Cond.instanceMethod yX9_dear ∈ sn_gw := sn_gwI (List.mem_of_getElem? (i := 1566) (by decide +kernel)) (by decide +kernel)
theorem ks_X9_dear : Cond.selects RX9 yX9_dear yX9_dear ∈ sn_gw := sn_gwI (List.mem_of_getElem? (i := 1567) (by decide +kernel)) (by decide +kernel)
theorem kl_RL_164 : sn_LV RL 164 yX9_dear cX9_dear 5 (some .int) 0 := ⟨sn_lv5 km_RL_164 kin_X9_dear ks_X9_dear ki_RX9 kc_X9_dear, by decide +kernel⟩
theorem kc_X8_reserve : Cond.code yX8_reserve cX8_reserve 3 (some .int) ∈ sn_gw := sn_gwI (List.mem_of_getElem? (i := 780) (by decide +kernel)) (by decide +kernel)
theorem km_RL_165 : Cond.methodLink RL 165 yX8_reserve ∈ sn_gw := sn_gwI (List.mem_of_getElem? (i := 777) (by decide +kernel)) (by decide +kernel)
theorem kin_X8_reserve : Cond.instanceMethod yX8_reserve ∈ sn_gw := sn_gwI (List.mem_of_getElem? (i := 778) (by decide +kernel)) (by decide +kernel)
theorem ks_X8_reserve : Cond.selects RX8 yX8_reserve yX8_reserve ∈ sn_gw := sn_gwI (List.mem_of_getElem? (i := 779) (by decide +kernel)) (by decide +kernel)
theorem kl_RL_165 : sn_LV RL 165 yX8_reserve cX8_reserve 3 (some .int) 0 := ⟨sn_lv5 km_RL_165 kin_X8_reserve ks_X8_reserve ki_RX8 kc_X8_reserve, by decide +kernel⟩
theorem kc_X9_reserve : Cond.code yX9_reserve cX9_reserve 1 (some .int) ∈ sn_gw := sn_gwI (List.mem_of_getElem? (i := 1572) (by decide +kernel)) (by decide +kernel)
theorem km_RL_168 : Cond.methodLink RL 168 yX9_reserve ∈ sn_gw := sn_gwI (List.mem_of_getElem? (i := 1569) (by decide +kernel)) (by decide +kernel)
theorem kin_X9_reserve : Cond.instanceMethod yX9_reserve ∈ sn_gw := sn_gwI (List.mem_of_getElem? (i := 1570) (by decide +kernel)) (by decide +kernel)
theorem ks_X9_reserve : Cond.selects RX9 yX9_reserve yX9_reserve ∈ sn_gw := sn_gwI (List.mem_of_getElem? (i := 1571) (by decide +kernel)) (by decide +kernel)
theorem kl_RL_168 : sn_LV RL 168 yX9_reserve cX9_reserve 1 (some .int) 0 := ⟨sn_lv5 km_RL_168 kin_X9_reserve ks_X9_reserve ki_RX9 kc_X9_reserve, by decide +kernel⟩
theorem kc_X8_by : Cond.code yX8_by cX8_by 2 (some .int) ∈ sn_gw := sn_gwI (List.mem_of_getElem? (i := 784) (by decide +kernel)) (by decide +kernel)
theorem km_RL_169 : Cond.methodLink RL 169 yX8_by ∈ sn_gw := sn_gwI (List.mem_of_getElem? (i := 781) (by decide +kernel)) (by decide +kernel)
theorem kin_X8_by : Cond.instanceMethod yX8_by ∈ sn_gw := sn_gwI (List.mem_of_getElem? (i := 782) (by decide +kernel)) (by decide +kernel)
theorem ks_X8_by : Cond.selects RX8 yX8_by yX8_by ∈ sn_gw := sn_gwI (List.mem_of_getElem? (i := 783) (by decide +kernel)) (by decide +kernel)
theorem kl_RL_169 : sn_LV RL 169 yX8_by cX8_by 2 (some .int) 1 := ⟨sn_lv5 km_RL_169 kin_X8_by ks_X8_by ki_RX8 kc_X8_by, by decide +kernel⟩
theorem kc_X9_by : Cond.code yX9_by cX9_by 2 (some .int) ∈ sn_gw := sn_gwI (List.mem_of_getElem? (i := 1576) (by decide +kernel)) (by decide +kernel)
theorem km_RL_172 : Cond.methodLink RL 172 yX9_by ∈ sn_gw := sn_gwI (List.mem_of_getElem? (i := 1573) (by decide +kernel)) (by decide +kernel)
theorem kin_X9_by : Cond.instanceMethod yX9_by ∈ sn_gw := sn_gwI (List.mem_of_getElem? (i := 1574) (by decide +kernel)) (by decide +kernel)
theorem ks_X9_by : Cond.selects RX9 yX9_by yX9_by ∈ sn_gw := sn_gwI (List.mem_of_getElem? (i := 1575) (by decide +kernel)) (by decide +kernel)
theorem kl_RL_172 : sn_LV RL 172 yX9_by cX9_by 2 (some .int) 1 := ⟨sn_lv5 km_RL_172 kin_X9_by ks_X9_by ki_RX9 kc_X9_by, by decide +kernel⟩
theorem kc_X8_law : Cond.code yX8_law cX8_law 5 (some .int) ∈ sn_gw := sn_gwI (List.mem_of_getElem? (i := 792) (by decide +kernel)) (by decide +kernel)
theorem km_RL_173 : Cond.methodLink RL 173 yX8_law ∈ sn_gw := sn_gwI (List.mem_of_getElem? (i := 789) (by decide +kernel)) (by decide +kernel)
theorem kin_X8_law : Cond.instanceMethod yX8_law ∈ sn_gw := sn_gwI (List.mem_of_getElem? (i := 790) (by decide +kernel)) (by decide +kernel)
theorem ks_X8_law : Cond.selects RX8 yX8_law yX8_law ∈ sn_gw := sn_gwI (List.mem_of_getElem? (i := 791) (by decide +kernel)) (by decide +kernel)
theorem kl_RL_173 : sn_LV RL 173 yX8_law cX8_law 5 (some .int) 0 := ⟨sn_lv5 km_RL_173 kin_X8_law ks_X8_law ki_RX8 kc_X8_law, by decide +kernel⟩
theorem kc_X9_law : Cond.code yX9_law cX9_law 3 (some .int) ∈ sn_gw := sn_gwI (List.mem_of_getElem? (i := 1588) (by decide +kernel)) (by decide +kernel)
theorem km_RL_176 : Cond.methodLink RL 176 yX9_law ∈ sn_gw := sn_gwI (List.mem_of_getElem? (i := 1585) (by decide +kernel)) (by decide +kernel)
theorem kin_X9_law : Cond.instanceMethod yX9_law ∈ sn_gw := sn_gwI (List.mem_of_getElem? (i := 1586) (by decide +kernel)) (by decide +kernel)
theorem ks_X9_law : Cond.selects RX9 yX9_law yX9_law ∈ sn_gw := sn_gwI (List.mem_of_getElem? (i := 1587) (by decide +kernel)) (by decide +kernel)
theorem kl_RL_176 : sn_LV RL 176 yX9_law cX9_law 3 (some .int) 0 := ⟨sn_lv5 km_RL_176 kin_X9_law ks_X9_law ki_RX9 kc_X9_law, by decide +kernel⟩
theorem kc_X8_takes : Cond.code yX8_takes cX8_takes 2 (some .int) ∈ sn_gw := sn_gwI (List.mem_of_getElem? (i := 796) (by decide +kernel)) (by decide +kernel)
theorem km_RL_177 : Cond.methodLink RL 177 yX8_takes ∈ sn_gw := sn_gwI (List.mem_of_getElem? (i := 793) (by decide +kernel)) (by decide +kernel)
theorem kin_X8_takes : Cond.instanceMethod yX8_takes ∈ sn_gw := sn_gwI (List.mem_of_getElem? (i := 794) (by decide +kernel)) (by decide +kernel)
theorem ks_X8_takes : Cond.selects RX8 yX8_takes yX8_takes ∈ sn_gw := sn_gwI (List.mem_of_getElem? (i := 795) (by decide +kernel)) (by decide +kernel)
theorem kl_RL_177 : sn_LV RL 177 yX8_takes cX8_takes 2 (some .int) 1 := ⟨sn_lv5 km_RL_177 kin_X8_takes ks_X8_takes ki_RX8 kc_X8_takes, by decide +kernel⟩
theorem kc_X9_takes_ : Cond.code yX9_takes_ cX9_takes_ 2 (some .int) ∈ sn_gw := sn_gwI (List.mem_of_getElem? (i := 1592) (by decide +kernel)) (by decide +kernel)
theorem km_RL_180 : Cond.methodLink RL 180 yX9_takes_ ∈ sn_gw := sn_gwI (List.mem_of_getElem? (i := 1589) (by decide +kernel)) (by decide +kernel)
theorem kin_X9_takes_ : Cond.instanceMethod yX9_takes_ ∈ sn_gw := sn_gwI (List.mem_of_getElem? (i := 1590) (by decide +kernel)) (by decide +kernel)
theorem ks_X9_takes_ : Cond.selects RX9 yX9_takes_ yX9_takes_ ∈ sn_gw := sn_gwI (List.mem_of_getElem? (i := 1591) (by decide +kernel)) (by decide +kernel)
theorem kl_RL_180 : sn_LV RL 180 yX9_takes_ cX9_takes_ 2 (some .int) 1 := ⟨sn_lv5 km_RL_180 kin_X9_takes_ ks_X9_takes_ ki_RX9 kc_X9_takes_, by decide +kernel⟩
theorem kc_X8_gains : Cond.code yX8_gains cX8_gains 3 (some .int) ∈ sn_gw := sn_gwI (List.mem_of_getElem? (i := 813) (by decide +kernel)) (by decide +kernel)
theorem km_RL_181 : Cond.methodLink RL 181 yX8_gains ∈ sn_gw := sn_gwI (List.mem_of_getElem? (i := 810) (by decide +kernel)) (by decide +kernel)
theorem kin_X8_gains : Cond.instanceMethod yX8_gains ∈ sn_gw := sn_gwI (List.mem_of_getElem? (i := 811) (by decide +kernel)) (by decide +kernel)
theorem ks_X8_gains : Cond.selects RX8 yX8_gains yX8_gains ∈ sn_gw := sn_gwI (List.mem_of_getElem? (i := 812) (by decide +kernel)) (by decide +kernel)
theorem kl_RL_181 : sn_LV RL 181 yX8_gains cX8_gains 3 (some .int) 1 := ⟨sn_lv5 km_RL_181 kin_X8_gains ks_X8_gains ki_RX8 kc_X8_gains, by decide +kernel⟩
theorem kc_X9_gains : Cond.code yX9_gains cX9_gains 2 (some .int) ∈ sn_gw := sn_gwI (List.mem_of_getElem? (i := 1600) (by decide +kernel)) (by decide +kernel)
theorem km_RL_184 : Cond.methodLink RL 184 yX9_gains ∈ sn_gw := sn_gwI (List.mem_of_getElem? (i := 1597) (by decide +kernel)) (by decide +kernel)
theorem kin_X9_gains : Cond.instanceMethod yX9_gains ∈ sn_gw := sn_gwI (List.mem_of_getElem? (i := 1598) (by decide +kernel)) (by decide +kernel)
theorem ks_X9_gains : Cond.selects RX9 yX9_gains yX9_gains ∈ sn_gw := sn_gwI (List.mem_of_getElem? (i := 1599) (by decide +kernel)) (by decide +kernel)
theorem kl_RL_184 : sn_LV RL 184 yX9_gains cX9_gains 2 (some .int) 1 := ⟨sn_lv5 km_RL_184 kin_X9_gains ks_X9_gains ki_RX9 kc_X9_gains, by decide +kernel⟩
theorem kc_X8_price : Cond.code yX8_price cX8_price 4 (some .int) ∈ sn_gw := sn_gwI (List.mem_of_getElem? (i := 817) (by decide +kernel)) (by decide +kernel)
theorem km_RL_185 : Cond.methodLink RL 185 yX8_price ∈ sn_gw := sn_gwI (List.mem_of_getElem? (i := 814) (by decide +kernel)) (by decide +kernel)
theorem kin_X8_price : Cond.instanceMethod yX8_price ∈ sn_gw := sn_gwI (List.mem_of_getElem? (i := 815) (by decide +kernel)) (by decide +kernel)
theorem ks_X8_price : Cond.selects RX8 yX8_price yX8_price ∈ sn_gw := sn_gwI (List.mem_of_getElem? (i := 816) (by decide +kernel)) (by decide +kernel)
theorem kl_RL_185 : sn_LV RL 185 yX8_price cX8_price 4 (some .int) 1 := ⟨sn_lv5 km_RL_185 kin_X8_price ks_X8_price ki_RX8 kc_X8_price, by decide +kernel⟩
theorem kc_X9_price : Cond.code yX9_price cX9_price 3 (some .int) ∈ sn_gw := sn_gwI (List.mem_of_getElem? (i := 1604) (by decide +kernel)) (by decide +kernel)
theorem km_RL_188 : Cond.methodLink RL 188 yX9_price ∈ sn_gw := sn_gwI (List.mem_of_getElem? (i := 1601) (by decide +kernel)) (by decide +kernel)
theorem kin_X9_price : Cond.instanceMethod yX9_price ∈ sn_gw := sn_gwI (List.mem_of_getElem? (i := 1602) (by decide +kernel)) (by decide +kernel)
theorem ks_X9_price : Cond.selects RX9 yX9_price yX9_price ∈ sn_gw := sn_gwI (List.mem_of_getElem? (i := 1603) (by decide +kernel)) (by decide +kernel)
theorem kl_RL_188 : sn_LV RL 188 yX9_price cX9_price 3 (some .int) 1 := ⟨sn_lv5 km_RL_188 kin_X9_price ks_X9_price ki_RX9 kc_X9_price, by decide +kernel⟩
theorem kc_X8_hold : Cond.code yX8_hold cX8_hold 2 (some .int) ∈ sn_gw := sn_gwI (List.mem_of_getElem? (i := 825) (by decide +kernel)) (by decide +kernel)
theorem km_RL_189 : Cond.methodLink RL 189 yX8_hold ∈ sn_gw := sn_gwI (List.mem_of_getElem? (i := 822) (by decide +kernel)) (by decide +kernel)
theorem kin_X8_hold : Cond.instanceMethod yX8_hold ∈ sn_gw := sn_gwI (List.mem_of_getElem? (i := 823) (by decide +kernel)) (by decide +kernel)
theorem ks_X8_hold : Cond.selects RX8 yX8_hold yX8_hold ∈ sn_gw := sn_gwI (List.mem_of_getElem? (i := 824) (by decide +kernel)) (by decide +kernel)
theorem kl_RL_189 : sn_LV RL 189 yX8_hold cX8_hold 2 (some .int) 1 := ⟨sn_lv5 km_RL_189 kin_X8_hold ks_X8_hold ki_RX8 kc_X8_hold, by decide +kernel⟩
theorem kc_X9_hold : Cond.code yX9_hold cX9_hold 2 (some .int) ∈ sn_gw := sn_gwI (List.mem_of_getElem? (i := 1612) (by decide +kernel)) (by decide +kernel)
theorem km_RL_192 : Cond.methodLink RL 192 yX9_hold ∈ sn_gw := sn_gwI (List.mem_of_getElem? (i := 1609) (by decide +kernel)) (by decide +kernel)
theorem kin_X9_hold : Cond.instanceMethod yX9_hold ∈ sn_gw := sn_gwI (List.mem_of_getElem? (i := 1610) (by decide +kernel)) (by decide +kernel)
theorem ks_X9_hold : Cond.selects RX9 yX9_hold yX9_hold ∈ sn_gw := sn_gwI (List.mem_of_getElem? (i := 1611) (by decide +kernel)) (by decide +kernel)
theorem kl_RL_192 : sn_LV RL 192 yX9_hold cX9_hold 2 (some .int) 1 := ⟨sn_lv5 km_RL_192 kin_X9_hold ks_X9_hold ki_RX9 kc_X9_hold, by decide +kernel⟩
theorem kc_X8_holds : Cond.code yX8_holds cX8_holds 2 (some .int) ∈ sn_gw := sn_gwI (List.mem_of_getElem? (i := 852) (by decide +kernel)) (by decide +kernel)
theorem km_RL_193 : Cond.methodLink RL 193 yX8_holds ∈ sn_gw := sn_gwI (List.mem_of_getElem? (i := 849) (by decide +kernel)) (by decide +kernel)
theorem kin_X8_holds : Cond.instanceMethod yX8_holds ∈ sn_gw := sn_gwI (List.mem_of_getElem? (i := 850) (by decide +kernel)) (by decide +kernel)
theorem ks_X8_holds : Cond.selects RX8 yX8_holds yX8_holds ∈ sn_gw := sn_gwI (List.mem_of_getElem? (i := 851) (by decide +kernel)) (by decide +kernel)
theorem kl_RL_193 : sn_LV RL 193 yX8_holds cX8_holds 2 (some .int) 1 := ⟨sn_lv5 km_RL_193 kin_X8_holds ks_X8_holds ki_RX8 kc_X8_holds, by decide +kernel⟩
theorem kc_X9_holds : Cond.code yX9_holds cX9_holds 2 (some .int) ∈ sn_gw := sn_gwI (List.mem_of_getElem? (i := 1628) (by decide +kernel)) (by decide +kernel)
theorem km_RL_196 : Cond.methodLink RL 196 yX9_holds ∈ sn_gw := sn_gwI (List.mem_of_getElem? (i := 1625) (by decide +kernel)) (by decide +kernel)
theorem kin_X9_holds : Cond.instanceMethod yX9_holds ∈ sn_gw := sn_gwI (List.mem_of_getElem? (i := 1626) (by decide +kernel)) (by decide +kernel)
theorem ks_X9_holds : Cond.selects RX9 yX9_holds yX9_holds ∈ sn_gw := sn_gwI (List.mem_of_getElem? (i := 1627) (by decide +kernel)) (by decide +kernel)
theorem kl_RL_196 : sn_LV RL 196 yX9_holds cX9_holds 2 (some .int) 1 := ⟨sn_lv5 km_RL_196 kin_X9_holds ks_X9_holds ki_RX9 kc_X9_holds, by decide +kernel⟩
theorem kc_X8_snuff : Cond.code yX8_snuff cX8_snuff 2 (some .int) ∈ sn_gw := sn_gwI (List.mem_of_getElem? (i := 860) (by decide +kernel)) (by decide +kernel)
theorem km_RL_197 : Cond.methodLink RL 197 yX8_snuff ∈ sn_gw := sn_gwI (List.mem_of_getElem? (i := 857) (by decide +kernel)) (by decide +kernel)
theorem kin_X8_snuff : Cond.instanceMethod yX8_snuff ∈ sn_gw := sn_gwI (List.mem_of_getElem? (i := 858) (by decide +kernel)) (by decide +kernel)
theorem ks_X8_snuff : Cond.selects RX8 yX8_snuff yX8_snuff ∈ sn_gw := sn_gwI (List.mem_of_getElem? (i := 859) (by decide +kernel)) (by decide +kernel)
theorem kl_RL_197 : sn_LV RL 197 yX8_snuff cX8_snuff 2 (some .int) 1 := ⟨sn_lv5 km_RL_197 kin_X8_snuff ks_X8_snuff ki_RX8 kc_X8_snuff, by decide +kernel⟩
theorem kc_X9_snuff : Cond.code yX9_snuff cX9_snuff 2 (some .int) ∈ sn_gw := sn_gwI (List.mem_of_getElem? (i := 1632) (by decide +kernel)) (by decide +kernel)
theorem km_RL_200 : Cond.methodLink RL 200 yX9_snuff ∈ sn_gw := sn_gwI (List.mem_of_getElem? (i := 1629) (by decide +kernel)) (by decide +kernel)
theorem kin_X9_snuff : Cond.instanceMethod yX9_snuff ∈ sn_gw := sn_gwI (List.mem_of_getElem? (i := 1630) (by decide +kernel)) (by decide +kernel)
theorem ks_X9_snuff : Cond.selects RX9 yX9_snuff yX9_snuff ∈ sn_gw := sn_gwI (List.mem_of_getElem? (i := 1631) (by decide +kernel)) (by decide +kernel)
theorem kl_RL_200 : sn_LV RL 200 yX9_snuff cX9_snuff 2 (some .int) 1 := ⟨sn_lv5 km_RL_200 kin_X9_snuff ks_X9_snuff ki_RX9 kc_X9_snuff, by decide +kernel⟩
theorem kc_X8_frauds : Cond.code yX8_frauds cX8_frauds 2 (some .int) ∈ sn_gw := sn_gwI (List.mem_of_getElem? (i := 869) (by decide +kernel)) (by decide +kernel)
theorem km_RL_201 : Cond.methodLink RL 201 yX8_frauds ∈ sn_gw := sn_gwI (List.mem_of_getElem? (i := 866) (by decide +kernel)) (by decide +kernel)
theorem kin_X8_frauds : Cond.instanceMethod yX8_frauds ∈ sn_gw := sn_gwI (List.mem_of_getElem? (i := 867) (by decide +kernel)) (by decide +kernel)
theorem ks_X8_frauds : Cond.selects RX8 yX8_frauds yX8_frauds ∈ sn_gw := sn_gwI (List.mem_of_getElem? (i := 868) (by decide +kernel)) (by decide +kernel)
theorem kl_RL_201 : sn_LV RL 201 yX8_frauds cX8_frauds 2 (some .int) 1 := ⟨sn_lv5 km_RL_201 kin_X8_frauds ks_X8_frauds ki_RX8 kc_X8_frauds, by decide +kernel⟩
theorem kc_X9_frauds : Cond.code yX9_frauds cX9_frauds 2 (some .int) ∈ sn_gw := sn_gwI (List.mem_of_getElem? (i := 1640) (by decide +kernel)) (by decide +kernel)
theorem km_RL_204 : Cond.methodLink RL 204 yX9_frauds ∈ sn_gw := sn_gwI (List.mem_of_getElem? (i := 1637) (by decide +kernel)) (by decide +kernel)
theorem kin_X9_frauds : Cond.instanceMethod yX9_frauds ∈ sn_gw := sn_gwI (List.mem_of_getElem? (i := 1638) (by decide +kernel)) (by decide +kernel)
theorem ks_X9_frauds : Cond.selects RX9 yX9_frauds yX9_frauds ∈ sn_gw := sn_gwI (List.mem_of_getElem? (i := 1639) (by decide +kernel)) (by decide +kernel)
theorem kl_RL_204 : sn_LV RL 204 yX9_frauds cX9_frauds 2 (some .int) 1 := ⟨sn_lv5 km_RL_204 kin_X9_frauds ks_X9_frauds ki_RX9 kc_X9_frauds, by decide +kernel⟩
theorem kc_X8_which : Cond.code yX8_which cX8_which 3 (some .int) ∈ sn_gw := sn_gwI (List.mem_of_getElem? (i := 873) (by decide +kernel)) (by decide +kernel)
theorem km_RL_205 : Cond.methodLink RL 205 yX8_which ∈ sn_gw := sn_gwI (List.mem_of_getElem? (i := 870) (by decide +kernel)) (by decide +kernel)
theorem kin_X8_which : Cond.instanceMethod yX8_which ∈ sn_gw := sn_gwI (List.mem_of_getElem? (i := 871) (by decide +kernel)) (by decide +kernel)
theorem ks_X8_which : Cond.selects RX8 yX8_which yX8_which ∈ sn_gw := sn_gwI (List.mem_of_getElem? (i := 872) (by decide +kernel)) (by decide +kernel)
theorem kl_RL_205 : sn_LV RL 205 yX8_which cX8_which 3 (some .int) 1 := ⟨sn_lv5 km_RL_205 kin_X8_which ks_X8_which ki_RX8 kc_X8_which, by decide +kernel⟩
theorem kc_X9_which : Cond.code yX9_which cX9_which 3 (some .int) ∈ sn_gw := sn_gwI (List.mem_of_getElem? (i := 1644) (by decide +kernel)) (by decide +kernel)
theorem km_RL_208 : Cond.methodLink RL 208 yX9_which ∈ sn_gw := sn_gwI (List.mem_of_getElem? (i := 1641) (by decide +kernel)) (by decide +kernel)
theorem kin_X9_which : Cond.instanceMethod yX9_which ∈ sn_gw := sn_gwI (List.mem_of_getElem? (i := 1642) (by decide +kernel)) (by decide +kernel)
theorem ks_X9_which : Cond.selects RX9 yX9_which yX9_which ∈ sn_gw := sn_gwI (List.mem_of_getElem? (i := 1643) (by decide +kernel)) (by decide +kernel)
theorem kl_RL_208 : sn_LV RL 208 yX9_which cX9_which 3 (some .int) 1 := ⟨sn_lv5 km_RL_208 kin_X9_which ks_X9_which ki_RX9 kc_X9_which, by decide +kernel⟩
theorem kc_X8_when : Cond.code yX8_when cX8_when 3 (some .int) ∈ sn_gw := sn_gwI (List.mem_of_getElem? (i := 909) (by decide +kernel)) (by decide +kernel)
theorem km_RL_209 : Cond.methodLink RL 209 yX8_when ∈ sn_gw := sn_gwI (List.mem_of_getElem? (i := 906) (by decide +kernel)) (by decide +kernel)
theorem kin_X8_when : Cond.instanceMethod yX8_when ∈ sn_gw := sn_gwI (List.mem_of_getElem? (i := 907) (by decide +kernel)) (by decide +kernel)
theorem ks_X8_when : Cond.selects RX8 yX8_when yX8_when ∈ sn_gw := sn_gwI (List.mem_of_getElem? (i := 908) (by decide +kernel)) (by decide +kernel)
theorem kl_RL_209 : sn_LV RL 209 yX8_when cX8_when 3 (some .int) 1 := ⟨sn_lv5 km_RL_209 kin_X8_when ks_X8_when ki_RX8 kc_X8_when, by decide +kernel⟩
theorem kc_X9_when : Cond.code yX9_when cX9_when 5 (some .int) ∈ sn_gw := sn_gwI (List.mem_of_getElem? (i := 1659) (by decide +kernel)) (by decide +kernel)
theorem km_RL_212 : Cond.methodLink RL 212 yX9_when ∈ sn_gw := sn_gwI (List.mem_of_getElem? (i := 1656) (by decide +kernel)) (by decide +kernel)
theorem kin_X9_when : Cond.instanceMethod yX9_when ∈ sn_gw := sn_gwI (List.mem_of_getElem? (i := 1657) (by decide +kernel)) (by decide +kernel)
theorem ks_X9_when : Cond.selects RX9 yX9_when yX9_when ∈ sn_gw := sn_gwI (List.mem_of_getElem? (i := 1658) (by decide +kernel)) (by decide +kernel)
theorem kl_RL_212 : sn_LV RL 212 yX9_when cX9_when 5 (some .int) 1 := ⟨sn_lv5 km_RL_212 kin_X9_when ks_X9_when ki_RX9 kc_X9_when, by decide +kernel⟩
theorem kc_X8_gust : Cond.code yX8_gust cX8_gust 3 (some .int) ∈ sn_gw := sn_gwI (List.mem_of_getElem? (i := 913) (by decide +kernel)) (by decide +kernel)
theorem km_RL_213 : Cond.methodLink RL 213 yX8_gust ∈ sn_gw := sn_gwI (List.mem_of_getElem? (i := 910) (by decide +kernel)) (by decide +kernel)
theorem kin_X8_gust : Cond.instanceMethod yX8_gust ∈ sn_gw := sn_gwI (List.mem_of_getElem? (i := 911) (by decide +kernel)) (by decide +kernel)
theorem ks_X8_gust : Cond.selects RX8 yX8_gust yX8_gust ∈ sn_gw := sn_gwI (List.mem_of_getElem? (i := 912) (by decide +kernel)) (by decide +kernel)
theorem kl_RL_213 : sn_LV RL 213 yX8_gust cX8_gust 3 (some .int) 1 := ⟨sn_lv5 km_RL_213 kin_X8_gust ks_X8_gust ki_RX8 kc_X8_gust, by decide +kernel⟩
theorem kc_X9_gust : Cond.code yX9_gust cX9_gust 3 (some .int) ∈ sn_gw := sn_gwI (List.mem_of_getElem? (i := 1663) (by decide +kernel)) (by decide +kernel)
theorem km_RL_216 : Cond.methodLink RL 216 yX9_gust ∈ sn_gw := sn_gwI (List.mem_of_getElem? (i := 1660) (by decide +kernel)) (by decide +kernel)
theorem kin_X9_gust : Cond.instanceMethod yX9_gust ∈ sn_gw := sn_gwI (List.mem_of_getElem? (i := 1661) (by decide +kernel)) (by decide +kernel)
theorem ks_X9_gust : Cond.selects RX9 yX9_gust yX9_gust ∈ sn_gw := sn_gwI (List.mem_of_getElem? (i := 1662) (by decide +kernel)) (by decide +kernel)
theorem kl_RL_216 : sn_LV RL 216 yX9_gust cX9_gust 3 (some .int) 1 := ⟨sn_lv5 km_RL_216 kin_X9_gust ks_X9_gust ki_RX9 kc_X9_gust, by decide +kernel⟩
theorem kc_X8_ask : Cond.code yX8_ask cX8_ask 3 (some .int) ∈ sn_gw := sn_gwI (List.mem_of_getElem? (i := 917) (by decide +kernel)) (by decide +kernel)
theorem km_RL_217 : Cond.methodLink RL 217 yX8_ask ∈ sn_gw := sn_gwI (List.mem_of_getElem? (i := 914) (by decide +kernel)) (by decide +kernel)
theorem kin_X8_ask : Cond.instanceMethod yX8_ask ∈ sn_gw := sn_gwI (List.mem_of_getElem? (i := 915) (by decide +kernel)) (by decide +kernel)
theorem ks_X8_ask : Cond.selects RX8 yX8_ask yX8_ask ∈ sn_gw := sn_gwI (List.mem_of_getElem? (i := 916) (by decide +kernel)) (by decide +kernel)
theorem kl_RL_217 : sn_LV RL 217 yX8_ask cX8_ask 3 (some .int) 1 := ⟨sn_lv5 km_RL_217 kin_X8_ask ks_X8_ask ki_RX8 kc_X8_ask, by decide +kernel⟩
theorem kc_X9_ask : Cond.code yX9_ask cX9_ask 3 (some .int) ∈ sn_gw := sn_gwI (List.mem_of_getElem? (i := 1667) (by decide +kernel)) (by decide +kernel)
theorem km_RL_220 : Cond.methodLink RL 220 yX9_ask ∈ sn_gw := sn_gwI (List.mem_of_getElem? (i := 1664) (by decide +kernel)) (by decide +kernel)
theorem kin_X9_ask : Cond.instanceMethod yX9_ask ∈ sn_gw := sn_gwI (List.mem_of_getElem? (i := 1665) (by decide +kernel)) (by decide +kernel)
theorem ks_X9_ask : Cond.selects RX9 yX9_ask yX9_ask ∈ sn_gw := sn_gwI (List.mem_of_getElem? (i := 1666) (by decide +kernel)) (by decide +kernel)
theorem kl_RL_220 : sn_LV RL 220 yX9_ask cX9_ask 3 (some .int) 1 := ⟨sn_lv5 km_RL_220 kin_X9_ask ks_X9_ask ki_RX9 kc_X9_ask, by decide +kernel⟩
theorem kc_X8_leaves : Cond.code yX8_leaves cX8_leaves 4 (some .int) ∈ sn_gw := sn_gwI (List.mem_of_getElem? (i := 930) (by decide +kernel)) (by decide +kernel)
theorem km_RL_221 : Cond.methodLink RL 221 yX8_leaves ∈ sn_gw := sn_gwI (List.mem_of_getElem? (i := 927) (by decide +kernel)) (by decide +kernel)
theorem kin_X8_leaves : Cond.instanceMethod yX8_leaves ∈ sn_gw := sn_gwI (List.mem_of_getElem? (i := 928) (by decide +kernel)) (by decide +kernel)
theorem ks_X8_leaves : Cond.selects RX8 yX8_leaves yX8_leaves ∈ sn_gw := sn_gwI (List.mem_of_getElem? (i := 929) (by decide +kernel)) (by decide +kernel)
theorem kl_RL_221 : sn_LV RL 221 yX8_leaves cX8_leaves 4 (some .int) 1 := ⟨sn_lv5 km_RL_221 kin_X8_leaves ks_X8_leaves ki_RX8 kc_X8_leaves, by decide +kernel⟩
theorem kc_X9_leaves : Cond.code yX9_leaves cX9_leaves 3 (some .int) ∈ sn_gw := sn_gwI (List.mem_of_getElem? (i := 1675) (by decide +kernel)) (by decide +kernel)
theorem km_RL_224 : Cond.methodLink RL 224 yX9_leaves ∈ sn_gw := sn_gwI (List.mem_of_getElem? (i := 1672) (by decide +kernel)) (by decide +kernel)
theorem kin_X9_leaves : Cond.instanceMethod yX9_leaves ∈ sn_gw := sn_gwI (List.mem_of_getElem? (i := 1673) (by decide +kernel)) (by decide +kernel)
theorem ks_X9_leaves : Cond.selects RX9 yX9_leaves yX9_leaves ∈ sn_gw := sn_gwI (List.mem_of_getElem? (i := 1674) (by decide +kernel)) (by decide +kernel)
theorem kl_RL_224 : sn_LV RL 224 yX9_leaves cX9_leaves 3 (some .int) 1 := ⟨sn_lv5 km_RL_224 kin_X9_leaves ks_X9_leaves ki_RX9 kc_X9_leaves, by decide +kernel⟩
theorem kc_X8_rests : Cond.code yX8_rests cX8_rests 7 (some .int) ∈ sn_gw := sn_gwI (List.mem_of_getElem? (i := 935) (by decide +kernel)) (by decide +kernel)
theorem km_RL_225 : Cond.methodLink RL 225 yX8_rests ∈ sn_gw := sn_gwI (List.mem_of_getElem? (i := 932) (by decide +kernel)) (by decide +kernel)
theorem kin_X8_rests : Cond.instanceMethod yX8_rests ∈ sn_gw := sn_gwI (List.mem_of_getElem? (i := 933) (by decide +kernel)) (by decide +kernel)
theorem ks_X8_rests : Cond.selects RX8 yX8_rests yX8_rests ∈ sn_gw := sn_gwI (List.mem_of_getElem? (i := 934) (by decide +kernel)) (by decide +kernel)
theorem kl_RL_225 : sn_LV RL 225 yX8_rests cX8_rests 7 (some .int) 2 := ⟨sn_lv5 km_RL_225 kin_X8_rests ks_X8_rests ki_RX8 kc_X8_rests, by decide +kernel⟩
theorem kc_X9_rests : Cond.code yX9_rests cX9_rests 8 (some .int) ∈ sn_gw := sn_gwI (List.mem_of_getElem? (i := 1679) (by decide +kernel)) (by decide +kernel)
theorem km_RL_228 : Cond.methodLink RL 228 yX9_rests ∈ sn_gw := sn_gwI (List.mem_of_getElem? (i := 1676) (by decide +kernel)) (by decide +kernel)
theorem kin_X9_rests : Cond.instanceMethod yX9_rests ∈ sn_gw := sn_gwI (List.mem_of_getElem? (i := 1677) (by decide +kernel)) (by decide +kernel)
theorem ks_X9_rests : Cond.selects RX9 yX9_rests yX9_rests ∈ sn_gw := sn_gwI (List.mem_of_getElem? (i := 1678) (by decide +kernel)) (by decide +kernel)
theorem kl_RL_228 : sn_LV RL 228 yX9_rests cX9_rests 8 (some .int) 2 := ⟨sn_lv5 km_RL_228 kin_X9_rests ks_X9_rests ki_RX9 kc_X9_rests, by decide +kernel⟩
theorem kc_X8_loses : Cond.code yX8_loses cX8_loses 5 (some .int) ∈ sn_gw := sn_gwI (List.mem_of_getElem? (i := 943) (by decide +kernel)) (by decide +kernel)
theorem km_RL_229 : Cond.methodLink RL 229 yX8_loses ∈ sn_gw := sn_gwI (List.mem_of_getElem? (i := 940) (by decide +kernel)) (by decide +kernel)
theorem kin_X8_loses : Cond.instanceMethod yX8_loses ∈ sn_gw := sn_gwI (List.mem_of_getElem? (i := 941) (by decide +kernel)) (by decide +kernel)
theorem ks_X8_loses : Cond.selects RX8 yX8_loses yX8_loses ∈ sn_gw := sn_gwI (List.mem_of_getElem? (i := 942) (by decide +kernel)) (by decide +kernel)
theorem kl_RL_229 : sn_LV RL 229 yX8_loses cX8_loses 5 (some .int) 4 := ⟨sn_lv5 km_RL_229 kin_X8_loses ks_X8_loses ki_RX8 kc_X8_loses, by decide +kernel⟩
theorem kc_X9_loses : Cond.code yX9_loses cX9_loses 5 (some .int) ∈ sn_gw := sn_gwI (List.mem_of_getElem? (i := 1691) (by decide +kernel)) (by decide +kernel)
theorem km_RL_233 : Cond.methodLink RL 233 yX9_loses ∈ sn_gw := sn_gwI (List.mem_of_getElem? (i := 1688) (by decide +kernel)) (by decide +kernel)
theorem kin_X9_loses : Cond.instanceMethod yX9_loses ∈ sn_gw := sn_gwI (List.mem_of_getElem? (i := 1689) (by decide +kernel)) (by decide +kernel)
theorem ks_X9_loses : Cond.selects RX9 yX9_loses yX9_loses ∈ sn_gw := sn_gwI (List.mem_of_getElem? (i := 1690) (by decide +kernel)) (by decide +kernel)
theorem kl_RL_233 : sn_LV RL 233 yX9_loses cX9_loses 5 (some .int) 4 := ⟨sn_lv5 km_RL_233 kin_X9_loses ks_X9_loses ki_RX9 kc_X9_loses, by decide +kernel⟩
theorem kc_X8_cut : Cond.code yX8_cut cX8_cut 2 (some .int) ∈ sn_gw := sn_gwI (List.mem_of_getElem? (i := 694) (by decide +kernel)) (by decide +kernel)
theorem km_RL_234 : Cond.methodLink RL 234 yX8_cut ∈ sn_gw := sn_gwI (List.mem_of_getElem? (i := 691) (by decide +kernel)) (by decide +kernel)
theorem kin_X8_cut : Cond.instanceMethod yX8_cut ∈ sn_gw := sn_gwI (List.mem_of_getElem? (i := 692) (by decide +kernel)) (by decide +kernel)
theorem ks_X8_cut : Cond.selects RX8 yX8_cut yX8_cut ∈ sn_gw := sn_gwI (List.mem_of_getElem? (i := 693) (by decide +kernel)) (by decide +kernel)
theorem kl_RL_234 : sn_LV RL 234 yX8_cut cX8_cut 2 (some .int) 1 := ⟨sn_lv5 km_RL_234 kin_X8_cut ks_X8_cut ki_RX8 kc_X8_cut, by decide +kernel⟩
theorem kc_X9_cut : Cond.code yX9_cut cX9_cut 2 (some .int) ∈ sn_gw := sn_gwI (List.mem_of_getElem? (i := 1695) (by decide +kernel)) (by decide +kernel)
theorem km_RL_237 : Cond.methodLink RL 237 yX9_cut ∈ sn_gw := sn_gwI (List.mem_of_getElem? (i := 1692) (by decide +kernel)) (by decide +kernel)
theorem kin_X9_cut : Cond.instanceMethod yX9_cut ∈ sn_gw := sn_gwI (List.mem_of_getElem? (i := 1693) (by decide +kernel)) (by decide +kernel)
theorem ks_X9_cut : Cond.selects RX9 yX9_cut yX9_cut ∈ sn_gw := sn_gwI (List.mem_of_getElem? (i := 1694) (by decide +kernel)) (by decide +kernel)
theorem kl_RL_237 : sn_LV RL 237 yX9_cut cX9_cut 2 (some .int) 1 := ⟨sn_lv5 km_RL_237 kin_X9_cut ks_X9_cut ki_RX9 kc_X9_cut, by decide +kernel⟩
theorem kc_X8_cuts : Cond.code yX8_cuts cX8_cuts 5 (some .int) ∈ sn_gw := sn_gwI (List.mem_of_getElem? (i := 706) (by decide +kernel)) (by decide +kernel)
theorem km_RL_238 : Cond.methodLink RL 238 yX8_cuts ∈ sn_gw := sn_gwI (List.mem_of_getElem? (i := 703) (by decide +kernel)) (by decide +kernel)
theorem kin_X8_cuts : Cond.instanceMethod yX8_cuts ∈ sn_gw := sn_gwI (List.mem_of_getElem? (i := 704) (by decide +kernel)) (by decide +kernel)
theorem ks_X8_cuts : Cond.selects RX8 yX8_cuts yX8_cuts ∈ sn_gw := sn_gwI (List.mem_of_getElem? (i := 705) (by decide +kernel)) (by decide +kernel)
theorem kl_RL_238 : sn_LV RL 238 yX8_cuts cX8_cuts 5 (some .int) 0 := ⟨sn_lv5 km_RL_238 kin_X8_cuts ks_X8_cuts ki_RX8 kc_X8_cuts, by decide +kernel⟩
theorem kc_X9_cuts : Cond.code yX9_cuts cX9_cuts 5 (some .int) ∈ sn_gw := sn_gwI (List.mem_of_getElem? (i := 1703) (by decide +kernel)) (by decide +kernel)
theorem km_RL_241 : Cond.methodLink RL 241 yX9_cuts ∈ sn_gw := sn_gwI (List.mem_of_getElem? (i := 1700) (by decide +kernel)) (by decide +kernel)
theorem kin_X9_cuts : Cond.instanceMethod yX9_cuts ∈ sn_gw := sn_gwI (List.mem_of_getElem? (i := 1701) (by decide +kernel)) (by decide +kernel)
theorem ks_X9_cuts : Cond.selects RX9 yX9_cuts yX9_cuts ∈ sn_gw := sn_gwI (List.mem_of_getElem? (i := 1702) (by decide +kernel)) (by decide +kernel)
theorem kl_RL_241 : sn_LV RL 241 yX9_cuts cX9_cuts 5 (some .int) 0 := ⟨sn_lv5 km_RL_241 kin_X9_cuts ks_X9_cuts ki_RX9 kc_X9_cuts, by decide +kernel⟩
theorem kc_X8_chance : Cond.code yX8_chance cX8_chance 4 (some .long) ∈ sn_gw := sn_gwI (List.mem_of_getElem? (i := 947) (by decide +kernel)) (by decide +kernel)
theorem km_RL_242 : Cond.methodLink RL 242 yX8_chance ∈ sn_gw := sn_gwI (List.mem_of_getElem? (i := 944) (by decide +kernel)) (by decide +kernel)
theorem kin_X8_chance : Cond.instanceMethod yX8_chance ∈ sn_gw := sn_gwI (List.mem_of_getElem? (i := 945) (by decide +kernel)) (by decide +kernel)
theorem ks_X8_chance : Cond.selects RX8 yX8_chance yX8_chance ∈ sn_gw := sn_gwI (List.mem_of_getElem? (i := 946) (by decide +kernel)) (by decide +kernel)
theorem kl_RL_242 : sn_LV RL 242 yX8_chance cX8_chance 4 (some .long) 3 := ⟨sn_lv5 km_RL_242 kin_X8_chance ks_X8_chance ki_RX8 kc_X8_chance, by decide +kernel⟩
theorem kc_X9_chance : Cond.code yX9_chance cX9_chance 4 (some .long) ∈ sn_gw := sn_gwI (List.mem_of_getElem? (i := 1707) (by decide +kernel)) (by decide +kernel)
theorem km_RL_246 : Cond.methodLink RL 246 yX9_chance ∈ sn_gw := sn_gwI (List.mem_of_getElem? (i := 1704) (by decide +kernel)) (by decide +kernel)
theorem kin_X9_chance : Cond.instanceMethod yX9_chance ∈ sn_gw := sn_gwI (List.mem_of_getElem? (i := 1705) (by decide +kernel)) (by decide +kernel)
theorem ks_X9_chance : Cond.selects RX9 yX9_chance yX9_chance ∈ sn_gw := sn_gwI (List.mem_of_getElem? (i := 1706) (by decide +kernel)) (by decide +kernel)
theorem kl_RL_246 : sn_LV RL 246 yX9_chance cX9_chance 4 (some .long) 3 := ⟨sn_lv5 km_RL_246 kin_X9_chance ks_X9_chance ki_RX9 kc_X9_chance, by decide +kernel⟩
theorem kc_X8_fair : Cond.code yX8_fair cX8_fair 4 (some .long) ∈ sn_gw := sn_gwI (List.mem_of_getElem? (i := 980) (by decide +kernel)) (by decide +kernel)
theorem km_RL_247 : Cond.methodLink RL 247 yX8_fair ∈ sn_gw := sn_gwI (List.mem_of_getElem? (i := 977) (by decide +kernel)) (by decide +kernel)
theorem kin_X8_fair : Cond.instanceMethod yX8_fair ∈ sn_gw := sn_gwI (List.mem_of_getElem? (i := 978) (by decide +kernel)) (by decide +kernel)
theorem ks_X8_fair : Cond.selects RX8 yX8_fair yX8_fair ∈ sn_gw := sn_gwI (List.mem_of_getElem? (i := 979) (by decide +kernel)) (by decide +kernel)
theorem kl_RL_247 : sn_LV RL 247 yX8_fair cX8_fair 4 (some .long) 3 := ⟨sn_lv5 km_RL_247 kin_X8_fair ks_X8_fair ki_RX8 kc_X8_fair, by decide +kernel⟩
theorem kc_X9_fair : Cond.code yX9_fair cX9_fair 4 (some .long) ∈ sn_gw := sn_gwI (List.mem_of_getElem? (i := 1727) (by decide +kernel)) (by decide +kernel)
theorem km_RL_250 : Cond.methodLink RL 250 yX9_fair ∈ sn_gw := sn_gwI (List.mem_of_getElem? (i := 1724) (by decide +kernel)) (by decide +kernel)
theorem kin_X9_fair : Cond.instanceMethod yX9_fair ∈ sn_gw := sn_gwI (List.mem_of_getElem? (i := 1725) (by decide +kernel)) (by decide +kernel)
theorem ks_X9_fair : Cond.selects RX9 yX9_fair yX9_fair ∈ sn_gw := sn_gwI (List.mem_of_getElem? (i := 1726) (by decide +kernel)) (by decide +kernel)
theorem kl_RL_250 : sn_LV RL 250 yX9_fair cX9_fair 4 (some .long) 3 := ⟨sn_lv5 km_RL_250 kin_X9_fair ks_X9_fair ki_RX9 kc_X9_fair, by decide +kernel⟩
theorem kc_X8_risk : Cond.code yX8_risk cX8_risk 3 (some .long) ∈ sn_gw := sn_gwI (List.mem_of_getElem? (i := 984) (by decide +kernel)) (by decide +kernel)
theorem km_RL_251 : Cond.methodLink RL 251 yX8_risk ∈ sn_gw := sn_gwI (List.mem_of_getElem? (i := 981) (by decide +kernel)) (by decide +kernel)
theorem kin_X8_risk : Cond.instanceMethod yX8_risk ∈ sn_gw := sn_gwI (List.mem_of_getElem? (i := 982) (by decide +kernel)) (by decide +kernel)
theorem ks_X8_risk : Cond.selects RX8 yX8_risk yX8_risk ∈ sn_gw := sn_gwI (List.mem_of_getElem? (i := 983) (by decide +kernel)) (by decide +kernel)
theorem kl_RL_251 : sn_LV RL 251 yX8_risk cX8_risk 3 (some .long) 2 := ⟨sn_lv5 km_RL_251 kin_X8_risk ks_X8_risk ki_RX8 kc_X8_risk, by decide +kernel⟩
theorem kc_X9_risk : Cond.code yX9_risk cX9_risk 3 (some .long) ∈ sn_gw := sn_gwI (List.mem_of_getElem? (i := 1731) (by decide +kernel)) (by decide +kernel)
theorem km_RL_255 : Cond.methodLink RL 255 yX9_risk ∈ sn_gw := sn_gwI (List.mem_of_getElem? (i := 1728) (by decide +kernel)) (by decide +kernel)
theorem kin_X9_risk : Cond.instanceMethod yX9_risk ∈ sn_gw := sn_gwI (List.mem_of_getElem? (i := 1729) (by decide +kernel)) (by decide +kernel)
theorem ks_X9_risk : Cond.selects RX9 yX9_risk yX9_risk ∈ sn_gw := sn_gwI (List.mem_of_getElem? (i := 1730) (by decide +kernel)) (by decide +kernel)
theorem kl_RL_255 : sn_LV RL 255 yX9_risk cX9_risk 3 (some .long) 2 := ⟨sn_lv5 km_RL_255 kin_X9_risk ks_X9_risk ki_RX9 kc_X9_risk, by decide +kernel⟩
theorem kc_X8_stifle : Cond.code yX8_stifle cX8_stifle 3 (some .int) ∈ sn_gw := sn_gwI (List.mem_of_getElem? (i := 1009) (by decide +kernel)) (by decide +kernel)
theorem km_RL_256 : Cond.methodLink RL 256 yX8_stifle ∈ sn_gw := sn_gwI (List.mem_of_getElem? (i := 1006) (by decide +kernel)) (by decide +kernel)
theorem kin_X8_stifle : Cond.instanceMethod yX8_stifle ∈ sn_gw := sn_gwI (List.mem_of_getElem? (i := 1007) (by decide +kernel)) (by decide +kernel)
theorem ks_X8_stifle : Cond.selects RX8 yX8_stifle yX8_stifle ∈ sn_gw := sn_gwI (List.mem_of_getElem? (i := 1008) (by decide +kernel)) (by decide +kernel)
theorem kl_RL_256 : sn_LV RL 256 yX8_stifle cX8_stifle 3 (some .int) 2 := ⟨sn_lv5 km_RL_256 kin_X8_stifle ks_X8_stifle ki_RX8 kc_X8_stifle, by decide +kernel⟩
theorem kc_X9_stifle : Cond.code yX9_stifle cX9_stifle 3 (some .int) ∈ sn_gw := sn_gwI (List.mem_of_getElem? (i := 1735) (by decide +kernel)) (by decide +kernel)
theorem km_RL_259 : Cond.methodLink RL 259 yX9_stifle ∈ sn_gw := sn_gwI (List.mem_of_getElem? (i := 1732) (by decide +kernel)) (by decide +kernel)
theorem kin_X9_stifle : Cond.instanceMethod yX9_stifle ∈ sn_gw := sn_gwI (List.mem_of_getElem? (i := 1733) (by decide +kernel)) (by decide +kernel)
theorem ks_X9_stifle : Cond.selects RX9 yX9_stifle yX9_stifle ∈ sn_gw := sn_gwI (List.mem_of_getElem? (i := 1734) (by decide +kernel)) (by decide +kernel)
theorem kl_RL_259 : sn_LV RL 259 yX9_stifle cX9_stifle 3 (some .int) 2 := ⟨sn_lv5 km_RL_259 kin_X9_stifle ks_X9_stifle ki_RX9 kc_X9_stifle, by decide +kernel⟩
theorem kc_X8_sniff : Cond.code yX8_sniff cX8_sniff 3 (some .int) ∈ sn_gw := sn_gwI (List.mem_of_getElem? (i := 1017) (by decide +kernel)) (by decide +kernel)
theorem km_RL_260 : Cond.methodLink RL 260 yX8_sniff ∈ sn_gw := sn_gwI (List.mem_of_getElem? (i := 1014) (by decide +kernel)) (by decide +kernel)
theorem kin_X8_sniff : Cond.instanceMethod yX8_sniff ∈ sn_gw := sn_gwI (List.mem_of_getElem? (i := 1015) (by decide +kernel)) (by decide +kernel)
theorem ks_X8_sniff : Cond.selects RX8 yX8_sniff yX8_sniff ∈ sn_gw := sn_gwI (List.mem_of_getElem? (i := 1016) (by decide +kernel)) (by decide +kernel)
theorem kl_RL_260 : sn_LV RL 260 yX8_sniff cX8_sniff 3 (some .int) 2 := ⟨sn_lv5 km_RL_260 kin_X8_sniff ks_X8_sniff ki_RX8 kc_X8_sniff, by decide +kernel⟩
theorem kc_X9_sniff : Cond.code yX9_sniff cX9_sniff 3 (some .int) ∈ sn_gw := sn_gwI (List.mem_of_getElem? (i := 1743) (by decide +kernel)) (by decide +kernel)
theorem km_RL_263 : Cond.methodLink RL 263 yX9_sniff ∈ sn_gw := sn_gwI (List.mem_of_getElem? (i := 1740) (by decide +kernel)) (by decide +kernel)
theorem kin_X9_sniff : Cond.instanceMethod yX9_sniff ∈ sn_gw := sn_gwI (List.mem_of_getElem? (i := 1741) (by decide +kernel)) (by decide +kernel)
theorem ks_X9_sniff : Cond.selects RX9 yX9_sniff yX9_sniff ∈ sn_gw := sn_gwI (List.mem_of_getElem? (i := 1742) (by decide +kernel)) (by decide +kernel)
theorem kl_RL_263 : sn_LV RL 263 yX9_sniff cX9_sniff 3 (some .int) 2 := ⟨sn_lv5 km_RL_263 kin_X9_sniff ks_X9_sniff ki_RX9 kc_X9_sniff, by decide +kernel⟩
theorem kc_X8_undo : Cond.code yX8_undo cX8_undo 1 (some .int) ∈ sn_gw := sn_gwI (List.mem_of_getElem? (i := 1021) (by decide +kernel)) (by decide +kernel)
theorem km_RL_264 : Cond.methodLink RL 264 yX8_undo ∈ sn_gw := sn_gwI (List.mem_of_getElem? (i := 1018) (by decide +kernel)) (by decide +kernel)
theorem kin_X8_undo : Cond.instanceMethod yX8_undo ∈ sn_gw := sn_gwI (List.mem_of_getElem? (i := 1019) (by decide +kernel)) (by decide +kernel)
theorem ks_X8_undo : Cond.selects RX8 yX8_undo yX8_undo ∈ sn_gw := sn_gwI (List.mem_of_getElem? (i := 1020) (by decide +kernel)) (by decide +kernel)
theorem kl_RL_264 : sn_LV RL 264 yX8_undo cX8_undo 1 (some .int) 0 := ⟨sn_lv5 km_RL_264 kin_X8_undo ks_X8_undo ki_RX8 kc_X8_undo, by decide +kernel⟩
theorem kc_X9_undo : Cond.code yX9_undo cX9_undo 1 (some .int) ∈ sn_gw := sn_gwI (List.mem_of_getElem? (i := 1747) (by decide +kernel)) (by decide +kernel)
theorem km_RL_267 : Cond.methodLink RL 267 yX9_undo ∈ sn_gw := sn_gwI (List.mem_of_getElem? (i := 1744) (by decide +kernel)) (by decide +kernel)
theorem kin_X9_undo : Cond.instanceMethod yX9_undo ∈ sn_gw := sn_gwI (List.mem_of_getElem? (i := 1745) (by decide +kernel)) (by decide +kernel)
theorem ks_X9_undo : Cond.selects RX9 yX9_undo yX9_undo ∈ sn_gw := sn_gwI (List.mem_of_getElem? (i := 1746) (by decide +kernel)) (by decide +kernel)
theorem kl_RL_267 : sn_LV RL 267 yX9_undo cX9_undo 1 (some .int) 0 := ⟨sn_lv5 km_RL_267 kin_X9_undo ks_X9_undo ki_RX9 kc_X9_undo, by decide +kernel⟩
theorem kc_X8_anew : Cond.code yX8_anew cX8_anew 2 (some .int) ∈ sn_gw := sn_gwI (List.mem_of_getElem? (i := 1025) (by decide +kernel)) (by decide +kernel)
theorem km_RL_268 : Cond.methodLink RL 268 yX8_anew ∈ sn_gw := sn_gwI (List.mem_of_getElem? (i := 1022) (by decide +kernel)) (by decide +kernel)
theorem kin_X8_anew : Cond.instanceMethod yX8_anew ∈ sn_gw := sn_gwI (List.mem_of_getElem? (i := 1023) (by decide +kernel)) (by decide +kernel)
theorem ks_X8_anew : Cond.selects RX8 yX8_anew yX8_anew ∈ sn_gw := sn_gwI (List.mem_of_getElem? (i := 1024) (by decide +kernel)) (by decide +kernel)
theorem kl_RL_268 : sn_LV RL 268 yX8_anew cX8_anew 2 (some .int) 0 := ⟨sn_lv5 km_RL_268 kin_X8_anew ks_X8_anew ki_RX8 kc_X8_anew, by decide +kernel⟩
theorem kc_X9_anew : Cond.code yX9_anew cX9_anew 2 (some .int) ∈ sn_gw := sn_gwI (List.mem_of_getElem? (i := 1751) (by decide +kernel)) (by decide +kernel)
theorem km_RL_271 : Cond.methodLink RL 271 yX9_anew ∈ sn_gw := sn_gwI (List.mem_of_getElem? (i := 1748) (by decide +kernel)) (by decide +kernel)
theorem kin_X9_anew : Cond.instanceMethod yX9_anew ∈ sn_gw := sn_gwI (List.mem_of_getElem? (i := 1749) (by decide +kernel)) (by decide +kernel)
theorem ks_X9_anew : Cond.selects RX9 yX9_anew yX9_anew ∈ sn_gw := sn_gwI (List.mem_of_getElem? (i := 1750) (by decide +kernel)) (by decide +kernel)
theorem kl_RL_271 : sn_LV RL 271 yX9_anew cX9_anew 2 (some .int) 0 := ⟨sn_lv5 km_RL_271 kin_X9_anew ks_X9_anew ki_RX9 kc_X9_anew, by decide +kernel⟩
theorem kc_X8_drawn : Cond.code yX8_drawn cX8_drawn 4 (some .int) ∈ sn_gw := sn_gwI (List.mem_of_getElem? (i := 988) (by decide +kernel)) (by decide +kernel)
theorem km_RL_272 : Cond.methodLink RL 272 yX8_drawn ∈ sn_gw := sn_gwI (List.mem_of_getElem? (i := 985) (by decide +kernel)) (by decide +kernel)
theorem kin_X8_drawn : Cond.instanceMethod yX8_drawn ∈ sn_gw := sn_gwI (List.mem_of_getElem? (i := 986) (by decide +kernel)) (by decide +kernel)
theorem ks_X8_drawn : Cond.selects RX8 yX8_drawn yX8_drawn ∈ sn_gw := sn_gwI (List.mem_of_getElem? (i := 987) (by decide +kernel)) (by decide +kernel)
theorem kl_RL_272 : sn_LV RL 272 yX8_drawn cX8_drawn 4 (some .int) 2 := ⟨sn_lv5 km_RL_272 kin_X8_drawn ks_X8_drawn ki_RX8 kc_X8_drawn, by decide +kernel⟩
theorem kc_X9_drawn : Cond.code yX9_drawn cX9_drawn 4 (some .int) ∈ sn_gw := sn_gwI (List.mem_of_getElem? (i := 1755) (by decide +kernel)) (by decide +kernel)
theorem km_RL_275 : Cond.methodLink RL 275 yX9_drawn ∈ sn_gw := sn_gwI (List.mem_of_getElem? (i := 1752) (by decide +kernel)) (by decide +kernel)
theorem kin_X9_drawn : Cond.instanceMethod yX9_drawn ∈ sn_gw := sn_gwI (List.mem_of_getElem? (i := 1753) (by decide +kernel)) (by decide +kernel)
theorem ks_X9_drawn : Cond.selects RX9 yX9_drawn yX9_drawn ∈ sn_gw := sn_gwI (List.mem_of_getElem? (i := 1754) (by decide +kernel)) (by decide +kernel)
theorem kl_RL_275 : sn_LV RL 275 yX9_drawn cX9_drawn 4 (some .int) 2 := ⟨sn_lv5 km_RL_275 kin_X9_drawn ks_X9_drawn ki_RX9 kc_X9_drawn, by decide +kernel⟩
theorem kc_X8_luck : Cond.code yX8_luck cX8_luck 6 (some .int) ∈ sn_gw := sn_gwI (List.mem_of_getElem? (i := 1005) (by decide +kernel)) (by decide +kernel)
theorem km_RL_276 : Cond.methodLink RL 276 yX8_luck ∈ sn_gw := sn_gwI (List.mem_of_getElem? (i := 1002) (by decide +kernel)) (by decide +kernel)
theorem kin_X8_luck : Cond.instanceMethod yX8_luck ∈ sn_gw := sn_gwI (List.mem_of_getElem? (i := 1003) (by decide +kernel)) (by decide +kernel)
theorem ks_X8_luck : Cond.selects RX8 yX8_luck yX8_luck ∈ sn_gw := sn_gwI (List.mem_of_getElem? (i := 1004) (by decide +kernel)) (by decide +kernel)
theorem kl_RL_276 : sn_LV RL 276 yX8_luck cX8_luck 6 (some .int) 3 := ⟨sn_lv5 km_RL_276 kin_X8_luck ks_X8_luck ki_RX8 kc_X8_luck, by decide +kernel⟩
theorem kc_X9_luck : Cond.code yX9_luck cX9_luck 6 (some .int) ∈ sn_gw := sn_gwI (List.mem_of_getElem? (i := 1772) (by decide +kernel)) (by decide +kernel)
theorem km_RL_280 : Cond.methodLink RL 280 yX9_luck ∈ sn_gw := sn_gwI (List.mem_of_getElem? (i := 1769) (by decide +kernel)) (by decide +kernel)
theorem kin_X9_luck : Cond.instanceMethod yX9_luck ∈ sn_gw := sn_gwI (List.mem_of_getElem? (i := 1770) (by decide +kernel)) (by decide +kernel)
theorem ks_X9_luck : Cond.selects RX9 yX9_luck yX9_luck ∈ sn_gw := sn_gwI (List.mem_of_getElem? (i := 1771) (by decide +kernel)) (by decide +kernel)
theorem kl_RL_280 : sn_LV RL 280 yX9_luck cX9_luck 6 (some .int) 3 := ⟨sn_lv5 km_RL_280 kin_X9_luck ks_X9_luck ki_RX9 kc_X9_luck, by decide +kernel⟩
theorem kc_X8_rate : Cond.code yX8_rate cX8_rate 4 (some .int) ∈ sn_gw := sn_gwI (List.mem_of_getElem? (i := 1029) (by decide +kernel)) (by decide +kernel)
theorem km_RL_281 : Cond.methodLink RL 281 yX8_rate ∈ sn_gw := sn_gwI (List.mem_of_getElem? (i := 1026) (by decide +kernel)) (by decide +kernel)
theorem kin_X8_rate : Cond.instanceMethod yX8_rate ∈ sn_gw := sn_gwI (List.mem_of_getElem? (i := 1027) (by decide +kernel)) (by decide +kernel)
theorem ks_X8_rate : Cond.selects RX8 yX8_rate yX8_rate ∈ sn_gw := sn_gwI (List.mem_of_getElem? (i := 1028) (by decide +kernel)) (by decide +kernel)
theorem kl_RL_281 : sn_LV RL 281 yX8_rate cX8_rate 4 (some .int) 2 := ⟨sn_lv5 km_RL_281 kin_X8_rate ks_X8_rate ki_RX8 kc_X8_rate, by decide +kernel⟩
theorem kc_X9_rate : Cond.code yX9_rate cX9_rate 4 (some .int) ∈ sn_gw := sn_gwI (List.mem_of_getElem? (i := 1777) (by decide +kernel)) (by decide +kernel)
theorem km_RL_284 : Cond.methodLink RL 284 yX9_rate ∈ sn_gw := sn_gwI (List.mem_of_getElem? (i := 1774) (by decide +kernel)) (by decide +kernel)
theorem kin_X9_rate : Cond.instanceMethod yX9_rate ∈ sn_gw := sn_gwI (List.mem_of_getElem? (i := 1775) (by decide +kernel)) (by decide +kernel)
theorem ks_X9_rate : Cond.selects RX9 yX9_rate yX9_rate ∈ sn_gw := sn_gwI (List.mem_of_getElem? (i := 1776) (by decide +kernel)) (by decide +kernel)
theorem kl_RL_284 : sn_LV RL 284 yX9_rate cX9_rate 4 (some .int) 2 := ⟨sn_lv5 km_RL_284 kin_X9_rate ks_X9_rate ki_RX9 kc_X9_rate, by decide +kernel⟩
theorem kc_X8_count : Cond.code yX8_count cX8_count 2 (some .int) ∈ sn_gw := sn_gwI (List.mem_of_getElem? (i := 1033) (by decide +kernel)) (by decide +kernel)
theorem km_RL_285 : Cond.methodLink RL 285 yX8_count ∈ sn_gw := sn_gwI (List.mem_of_getElem? (i := 1030) (by decide +kernel)) (by decide +kernel)
theorem kin_X8_count : Cond.instanceMethod yX8_count ∈ sn_gw := sn_gwI (List.mem_of_getElem? (i := 1031) (by decide +kernel)) (by decide +kernel)
theorem ks_X8_count : Cond.selects RX8 yX8_count yX8_count ∈ sn_gw := sn_gwI (List.mem_of_getElem? (i := 1032) (by decide +kernel)) (by decide +kernel)
theorem kl_RL_285 : sn_LV RL 285 yX8_count cX8_count 2 (some .int) 1 := ⟨sn_lv5 km_RL_285 kin_X8_count ks_X8_count ki_RX8 kc_X8_count, by decide +kernel⟩
theorem kc_X9_count : Cond.code yX9_count cX9_count 4 (some .int) ∈ sn_gw := sn_gwI (List.mem_of_getElem? (i := 1782) (by decide +kernel)) (by decide +kernel)
theorem km_RL_288 : Cond.methodLink RL 288 yX9_count ∈ sn_gw := sn_gwI (List.mem_of_getElem? (i := 1779) (by decide +kernel)) (by decide +kernel)
theorem kin_X9_count : Cond.instanceMethod yX9_count ∈ sn_gw := sn_gwI (List.mem_of_getElem? (i := 1780) (by decide +kernel)) (by decide +kernel)
theorem ks_X9_count : Cond.selects RX9 yX9_count yX9_count ∈ sn_gw := sn_gwI (List.mem_of_getElem? (i := 1781) (by decide +kernel)) (by decide +kernel)
theorem kl_RL_288 : sn_LV RL 288 yX9_count cX9_count 4 (some .int) 1 := ⟨sn_lv5 km_RL_288 kin_X9_count ks_X9_count ki_RX9 kc_X9_count, by decide +kernel⟩
theorem kc_X8_image : Cond.code yX8_image cX8_image 2 (some .int) ∈ sn_gw := sn_gwI (List.mem_of_getElem? (i := 1042) (by decide +kernel)) (by decide +kernel)
theorem km_RL_289 : Cond.methodLink RL 289 yX8_image ∈ sn_gw := sn_gwI (List.mem_of_getElem? (i := 1039) (by decide +kernel)) (by decide +kernel)
theorem kin_X8_image : Cond.instanceMethod yX8_image ∈ sn_gw := sn_gwI (List.mem_of_getElem? (i := 1040) (by decide +kernel)) (by decide +kernel)
theorem ks_X8_image : Cond.selects RX8 yX8_image yX8_image ∈ sn_gw := sn_gwI (List.mem_of_getElem? (i := 1041) (by decide +kernel)) (by decide +kernel)
theorem kl_RL_289 : sn_LV RL 289 yX8_image cX8_image 2 (some .int) 1 := ⟨sn_lv5 km_RL_289 kin_X8_image ks_X8_image ki_RX8 kc_X8_image, by decide +kernel⟩
theorem kc_X9_image : Cond.code yX9_image cX9_image 3 (some .int) ∈ sn_gw := sn_gwI (List.mem_of_getElem? (i := 1220) (by decide +kernel)) (by decide +kernel)
theorem km_RL_292 : Cond.methodLink RL 292 yX9_image ∈ sn_gw := sn_gwI (List.mem_of_getElem? (i := 1217) (by decide +kernel)) (by decide +kernel)
theorem kin_X9_image : Cond.instanceMethod yX9_image ∈ sn_gw := sn_gwI (List.mem_of_getElem? (i := 1218) (by decide +kernel)) (by decide +kernel)
theorem ks_X9_image : Cond.selects RX9 yX9_image yX9_image ∈ sn_gw := sn_gwI (List.mem_of_getElem? (i := 1219) (by decide +kernel)) (by decide +kernel)
theorem kl_RL_292 : sn_LV RL 292 yX9_image cX9_image 3 (some .int) 1 := ⟨sn_lv5 km_RL_292 kin_X9_image ks_X9_image ki_RX9 kc_X9_image, by decide +kernel⟩
theorem kc_X8_back : Cond.code yX8_back cX8_back 2 (some .int) ∈ sn_gw := sn_gwI (List.mem_of_getElem? (i := 1046) (by decide +kernel)) (by decide +kernel)
theorem km_RL_293 : Cond.methodLink RL 293 yX8_back ∈ sn_gw := sn_gwI (List.mem_of_getElem? (i := 1043) (by decide +kernel)) (by decide +kernel)
theorem kin_X8_back : Cond.instanceMethod yX8_back ∈ sn_gw := sn_gwI (List.mem_of_getElem? (i := 1044) (by decide +kernel)) (by decide +kernel)
theorem ks_X8_back : Cond.selects RX8 yX8_back yX8_back ∈ sn_gw := sn_gwI (List.mem_of_getElem? (i := 1045) (by decide +kernel)) (by decide +kernel)
theorem kl_RL_293 : sn_LV RL 293 yX8_back cX8_back 2 (some .int) 1 := ⟨sn_lv5 km_RL_293 kin_X8_back ks_X8_back ki_RX8 kc_X8_back, by decide +kernel⟩
theorem kc_X9_back : Cond.code yX9_back cX9_back 3 (some .int) ∈ sn_gw := sn_gwI (List.mem_of_getElem? (i := 1228) (by decide +kernel)) (by decide +kernel)
theorem km_RL_296 : Cond.methodLink RL 296 yX9_back ∈ sn_gw := sn_gwI (List.mem_of_getElem? (i := 1225) (by decide +kernel)) (by decide +kernel)
theorem kin_X9_back : Cond.instanceMethod yX9_back ∈ sn_gw := sn_gwI (List.mem_of_getElem? (i := 1226) (by decide +kernel)) (by decide +kernel)
theorem ks_X9_back : Cond.selects RX9 yX9_back yX9_back ∈ sn_gw := sn_gwI (List.mem_of_getElem? (i := 1227) (by decide +kernel)) (by decide +kernel)
theorem kl_RL_296 : sn_LV RL 296 yX9_back cX9_back 3 (some .int) 1 := ⟨sn_lv5 km_RL_296 kin_X9_back ks_X9_back ki_RX9 kc_X9_back, by decide +kernel⟩
theorem kc_X8_row : Cond.code yX8_row cX8_row 4 (some .int) ∈ sn_gw := sn_gwI (List.mem_of_getElem? (i := 1050) (by decide +kernel)) (by decide +kernel)
theorem km_RL_297 : Cond.methodLink RL 297 yX8_row ∈ sn_gw := sn_gwI (List.mem_of_getElem? (i := 1047) (by decide +kernel)) (by decide +kernel)
theorem kin_X8_row : Cond.instanceMethod yX8_row ∈ sn_gw := sn_gwI (List.mem_of_getElem? (i := 1048) (by decide +kernel)) (by decide +kernel)
theorem ks_X8_row : Cond.selects RX8 yX8_row yX8_row ∈ sn_gw := sn_gwI (List.mem_of_getElem? (i := 1049) (by decide +kernel)) (by decide +kernel)
theorem kl_RL_297 : sn_LV RL 297 yX8_row cX8_row 4 (some .int) 3 := ⟨sn_lv5 km_RL_297 kin_X8_row ks_X8_row ki_RX8 kc_X8_row, by decide +kernel⟩
theorem kc_X9_row : Cond.code yX9_row cX9_row 5 (some .int) ∈ sn_gw := sn_gwI (List.mem_of_getElem? (i := 1786) (by decide +kernel)) (by decide +kernel)
theorem km_RL_300 : Cond.methodLink RL 300 yX9_row ∈ sn_gw := sn_gwI (List.mem_of_getElem? (i := 1783) (by decide +kernel)) (by decide +kernel)
theorem kin_X9_row : Cond.instanceMethod yX9_row ∈ sn_gw := sn_gwI (List.mem_of_getElem? (i := 1784) (by decide +kernel)) (by decide +kernel)
theorem ks_X9_row : Cond.selects RX9 yX9_row yX9_row ∈ sn_gw := sn_gwI (List.mem_of_getElem? (i := 1785) (by decide +kernel)) (by decide +kernel)
theorem kl_RL_300 : sn_LV RL 300 yX9_row cX9_row 5 (some .int) 3 := ⟨sn_lv5 km_RL_300 kin_X9_row ks_X9_row ki_RX9 kc_X9_row, by decide +kernel⟩
theorem kk_RL_301 : Cond.constantLong RL 301 (4294967295) ∈ sn_gw := sn_gwI (List.mem_of_getElem? (i := 1798) (by decide +kernel)) (by decide +kernel)
theorem kc_X8_write : Cond.code yX8_write cX8_write 5 (some .int) ∈ sn_gw := sn_gwI (List.mem_of_getElem? (i := 1059) (by decide +kernel)) (by decide +kernel)
theorem km_RL_303 : Cond.methodLink RL 303 yX8_write ∈ sn_gw := sn_gwI (List.mem_of_getElem? (i := 1056) (by decide +kernel)) (by decide +kernel)
theorem kin_X8_write : Cond.instanceMethod yX8_write ∈ sn_gw := sn_gwI (List.mem_of_getElem? (i := 1057) (by decide +kernel)) (by decide +kernel)
theorem ks_X8_write : Cond.selects RX8 yX8_write yX8_write ∈ sn_gw := sn_gwI (List.mem_of_getElem? (i := 1058) (by decide +kernel)) (by decide +kernel)
theorem kl_RL_303 : sn_LV RL 303 yX8_write cX8_write 5 (some .int) 3 := ⟨sn_lv5 km_RL_303 kin_X8_write ks_X8_write ki_RX8 kc_X8_write, by decide +kernel⟩
theorem kc_X9_write : Cond.code yX9_write cX9_write 5 (some .int) ∈ sn_gw := sn_gwI (List.mem_of_getElem? (i := 1790) (by decide +kernel)) (by decide +kernel)
theorem km_RL_307 : Cond.methodLink RL 307 yX9_write ∈ sn_gw := sn_gwI (List.mem_of_getElem? (i := 1787) (by decide +kernel)) (by decide +kernel)
theorem kin_X9_write : Cond.instanceMethod yX9_write ∈ sn_gw := sn_gwI (List.mem_of_getElem? (i := 1788) (by decide +kernel)) (by decide +kernel)
theorem ks_X9_write : Cond.selects RX9 yX9_write yX9_write ∈ sn_gw := sn_gwI (List.mem_of_getElem? (i := 1789) (by decide +kernel)) (by decide +kernel)
theorem kl_RL_307 : sn_LV RL 307 yX9_write cX9_write 5 (some .int) 3 := ⟨sn_lv5 km_RL_307 kin_X9_write ks_X9_write ki_RX9 kc_X9_write, by decide +kernel⟩
theorem kc_X8_paste : Cond.code yX8_paste cX8_paste 6 (some .int) ∈ sn_gw := sn_gwI (List.mem_of_getElem? (i := 1067) (by decide +kernel)) (by decide +kernel)
theorem km_RL_308 : Cond.methodLink RL 308 yX8_paste ∈ sn_gw := sn_gwI (List.mem_of_getElem? (i := 1064) (by decide +kernel)) (by decide +kernel)
theorem kin_X8_paste : Cond.instanceMethod yX8_paste ∈ sn_gw := sn_gwI (List.mem_of_getElem? (i := 1065) (by decide +kernel)) (by decide +kernel)
theorem ks_X8_paste : Cond.selects RX8 yX8_paste yX8_paste ∈ sn_gw := sn_gwI (List.mem_of_getElem? (i := 1066) (by decide +kernel)) (by decide +kernel)
theorem kl_RL_308 : sn_LV RL 308 yX8_paste cX8_paste 6 (some .int) 5 := ⟨sn_lv5 km_RL_308 kin_X8_paste ks_X8_paste ki_RX8 kc_X8_paste, by decide +kernel⟩
theorem kc_X9_paste : Cond.code yX9_paste cX9_paste 7 (some .int) ∈ sn_gw := sn_gwI (List.mem_of_getElem? (i := 1797) (by decide +kernel)) (by decide +kernel)
theorem km_RL_311 : Cond.methodLink RL 311 yX9_paste ∈ sn_gw := sn_gwI (List.mem_of_getElem? (i := 1794) (by decide +kernel)) (by decide +kernel)
theorem kin_X9_paste : Cond.instanceMethod yX9_paste ∈ sn_gw := sn_gwI (List.mem_of_getElem? (i := 1795) (by decide +kernel)) (by decide +kernel)
theorem ks_X9_paste : Cond.selects RX9 yX9_paste yX9_paste ∈ sn_gw := sn_gwI (List.mem_of_getElem? (i := 1796) (by decide +kernel)) (by decide +kernel)
theorem kl_RL_311 : sn_LV RL 311 yX9_paste cX9_paste 7 (some .int) 5 := ⟨sn_lv5 km_RL_311 kin_X9_paste ks_X9_paste ki_RX9 kc_X9_paste, by decide +kernel⟩
