section
variable {p : Program} {l : Launch} {e : Env} {s : State} {m : MethodId} {args : Array Value} {below : List Frame} {meth : Method} {c : Code} {Q : State → Prop} {D : va_G} {ct : Nat → ClassId} {ad : Nat → Nat}
-- X8_dust
abbrev rmX8_dust : Room := { frames := 1, cells := 0, slots := 0, locals := 21 }
def fX8_dust (σ : sn_S) (x1 : Int32) : Option Int32 :=
  ((fX8_isMinute σ x1).bind fun t_1 => (if t_1 = 0 then
  (some (-2 : Int32))
  else
  (sn_gd (sn_in x1 30) (some (sn_I σ (48 + 1) x1.toNatClampNeg)))))
theorem wX8_dust_in (C : sn_C p s m args meth c RX8 cX8_dust 2 (some .int) D ct ad layC) {σ : sn_S} {x1 : Int32}  {o : Int32} (hf : fX8_dust σ x1 = some o) (kr : sn_Kr p l e rmX8_dust s m args below meth c Q D ct ad layC cX8_dust .ireturn (true) σ [.int o]) : sn_At p l e rmX8_dust s m args below meth c Q D ct ad layC 2 σ 0 [(0, .ref (ad 0)), (1, .int x1)] [] := by
  intro H locs ls hw hl
  have hx := C.1
  have hb := C.2.1
  unfold fX8_dust at hf
  refine lv_aload_n hx hb dX8_dust_0 rfl (lv_at hl 0 rfl) ?_
  refine lv_iload_n hx hb dX8_dust_1 rfl (lv_at hl 1 rfl) ?_
  obtain ⟨t_1, h_2, hf⟩ := sn_bd hf
  refine sn_callVi (rest := []) C hw (ctX8_isMinute l  h_2) kl_RX8_127 layC_0 rfl rfl rfl rfl (Nat.le_of_ble_eq_true rfl) dX8_dust_2 hl.1 (fun H locs hw => ?_)
  refine lv_if_eq (tgt := 20) hx hb dX8_dust_5 (by decide) (fun c_3 => ?_) (fun c_3 => ?_)
  · have hf := sn_if c_3 hf
    refine lv_bipush (v := (-2)) hx hb dX8_dust_20 (by decide) ?_
    cases hf
    exact kr _ _ _ _ hw rfl dX8_dust_22
  · have hf := sn_el c_3 hf
    refine lv_aload_n hx hb dX8_dust_8 rfl (lv_at hl 0 rfl) ?_
    refine sn_getC (r := 48) C hw fd_RX8_44 layC_0 rfl dX8_dust_9 ?_
    refine sn_getC (r := (48 + 1)) C hw fd_RX8_130 (sn_look sn_isX0_48 (k := 0) rfl) rfl dX8_dust_12 ?_
    refine lv_iload_n hx hb dX8_dust_15 rfl (lv_at hl 1 rfl) ?_
    obtain ⟨g_4, hf⟩ := sn_gdE hf
    refine sn_iald C hw (sn_look sn_isX0_48 (k := 1) rfl) g_4 dX8_dust_16 ?_
    refine lv_goto (tgt := 22) hx hb dX8_dust_17 (by decide) ?_
    cases hf
    exact kr _ _ _ _ hw rfl dX8_dust_22
theorem ctX8_dust (l : Launch) {σ : sn_S} {x1 : Int32}  {o : Int32} (hf : fX8_dust σ x1 = some o) : sn_M l yX8_dust cX8_dust 2 (some .int) rmX8_dust layC (fun ad => [.ref (ad 0), .int x1]) σ (some (fun _ => .int o)) σ :=
  sn_met (by decide) (fun _ => Nat.le_of_ble_eq_true rfl) (fun p e s m args below meth c ls D ct ad C hw hl => wX8_dust_in C  hf (fun H locs ls pc hw ok hd => sn_iret C hw hd) _ _ _ hw hl)
-- X8_sneezes
abbrev rmX8_sneezes : Room := { frames := 1, cells := 0, slots := 0, locals := 21 }
def fX8_sneezes (σ : sn_S) (x1 : Int32) : Option Int32 :=
  ((fX8_isPerson σ x1).bind fun t_1 => (if t_1 = 0 then
  (some (-2 : Int32))
  else
  (sn_gd (sn_in x1 6) (some (sn_I σ (48 + 10) x1.toNatClampNeg)))))
theorem wX8_sneezes_in (C : sn_C p s m args meth c RX8 cX8_sneezes 2 (some .int) D ct ad layC) {σ : sn_S} {x1 : Int32}  {o : Int32} (hf : fX8_sneezes σ x1 = some o) (kr : sn_Kr p l e rmX8_sneezes s m args below meth c Q D ct ad layC cX8_sneezes .ireturn (true) σ [.int o]) : sn_At p l e rmX8_sneezes s m args below meth c Q D ct ad layC 2 σ 0 [(0, .ref (ad 0)), (1, .int x1)] [] := by
  intro H locs ls hw hl
  have hx := C.1
  have hb := C.2.1
  unfold fX8_sneezes at hf
  refine lv_aload_n hx hb dX8_sneezes_0 rfl (lv_at hl 0 rfl) ?_
  refine lv_iload_n hx hb dX8_sneezes_1 rfl (lv_at hl 1 rfl) ?_
  obtain ⟨t_1, h_2, hf⟩ := sn_bd hf
  refine sn_callVi (rest := []) C hw (ctX8_isPerson l  h_2) kl_RX8_109 layC_0 rfl rfl rfl rfl (Nat.le_of_ble_eq_true rfl) dX8_sneezes_2 hl.1 (fun H locs hw => ?_)
  refine lv_if_eq (tgt := 20) hx hb dX8_sneezes_5 (by decide) (fun c_3 => ?_) (fun c_3 => ?_)
  · have hf := sn_if c_3 hf
    refine lv_bipush (v := (-2)) hx hb dX8_sneezes_20 (by decide) ?_
    cases hf
    exact kr _ _ _ _ hw rfl dX8_sneezes_22
  · have hf := sn_el c_3 hf
    refine lv_aload_n hx hb dX8_sneezes_8 rfl (lv_at hl 0 rfl) ?_
    refine sn_getC (r := 48) C hw fd_RX8_44 layC_0 rfl dX8_sneezes_9 ?_
    refine sn_getC (r := (48 + 10)) C hw fd_RX8_133 (sn_look sn_isX0_48 (k := 0) rfl) rfl dX8_sneezes_12 ?_
    refine lv_iload_n hx hb dX8_sneezes_15 rfl (lv_at hl 1 rfl) ?_
    obtain ⟨g_4, hf⟩ := sn_gdE hf
    refine sn_iald C hw (sn_look sn_isX0_48 (k := 10) rfl) g_4 dX8_sneezes_16 ?_
    refine lv_goto (tgt := 22) hx hb dX8_sneezes_17 (by decide) ?_
    cases hf
    exact kr _ _ _ _ hw rfl dX8_sneezes_22
theorem ctX8_sneezes (l : Launch) {σ : sn_S} {x1 : Int32}  {o : Int32} (hf : fX8_sneezes σ x1 = some o) : sn_M l yX8_sneezes cX8_sneezes 2 (some .int) rmX8_sneezes layC (fun ad => [.ref (ad 0), .int x1]) σ (some (fun _ => .int o)) σ :=
  sn_met (by decide) (fun _ => Nat.le_of_ble_eq_true rfl) (fun p e s m args below meth c ls D ct ad C hw hl => wX8_sneezes_in C  hf (fun H locs ls pc hw ok hd => sn_iret C hw hd) _ _ _ hw hl)
-- X8_first
abbrev rmX8_first : Room := { frames := 2, cells := 0, slots := 0, locals := 40 }
def fX8_first (σ : sn_S) (x1 : Int32) : Option Int32 :=
  ((fX8_isPerson σ x1).bind fun t_1 => (if t_1 = 0 then
  (some (-2 : Int32))
  else
  (sn_gd (sn_in x1 6) ((fX8_lowestBit (sn_I σ (48 + 10) x1.toNatClampNeg)).bind fun t_5 => (some t_5)))))
theorem wX8_first_in (C : sn_C p s m args meth c RX8 cX8_first 2 (some .int) D ct ad layC) {σ : sn_S} {x1 : Int32}  {o : Int32} (hf : fX8_first σ x1 = some o) (kr : sn_Kr p l e rmX8_first s m args below meth c Q D ct ad layC cX8_first .ireturn (true) σ [.int o]) : sn_At p l e rmX8_first s m args below meth c Q D ct ad layC 2 σ 0 [(0, .ref (ad 0)), (1, .int x1)] [] := by
  intro H locs ls hw hl
  have hx := C.1
  have hb := C.2.1
  unfold fX8_first at hf
  refine lv_aload_n hx hb dX8_first_0 rfl (lv_at hl 0 rfl) ?_
  refine lv_iload_n hx hb dX8_first_1 rfl (lv_at hl 1 rfl) ?_
  obtain ⟨t_1, h_2, hf⟩ := sn_bd hf
  refine sn_callVi (rest := []) C hw (ctX8_isPerson l  h_2) kl_RX8_109 layC_0 rfl rfl rfl rfl (Nat.le_of_ble_eq_true rfl) dX8_first_2 hl.1 (fun H locs hw => ?_)
  refine lv_if_eq (tgt := 23) hx hb dX8_first_5 (by decide) (fun c_3 => ?_) (fun c_3 => ?_)
  · have hf := sn_if c_3 hf
    refine lv_bipush (v := (-2)) hx hb dX8_first_23 (by decide) ?_
    cases hf
    exact kr _ _ _ _ hw rfl dX8_first_25
  · have hf := sn_el c_3 hf
    refine lv_aload_n hx hb dX8_first_8 rfl (lv_at hl 0 rfl) ?_
    refine sn_getC (r := 48) C hw fd_RX8_44 layC_0 rfl dX8_first_9 ?_
    refine sn_getC (r := (48 + 10)) C hw fd_RX8_133 (sn_look sn_isX0_48 (k := 0) rfl) rfl dX8_first_12 ?_
    refine lv_iload_n hx hb dX8_first_15 rfl (lv_at hl 1 rfl) ?_
    obtain ⟨g_4, hf⟩ := sn_gdE hf
    refine sn_iald C hw (sn_look sn_isX0_48 (k := 10) rfl) g_4 dX8_first_16 ?_
    obtain ⟨t_5, h_6, hf⟩ := sn_bd hf
    refine sn_callSi (rest := []) C hw (ctX8_lowestBit l  h_6) kl_RX8_136 rfl rfl rfl (Nat.le_of_ble_eq_true rfl) dX8_first_17 hl.1 (fun H locs hw => ?_)
    refine lv_goto (tgt := 25) hx hb dX8_first_20 (by decide) ?_
    cases hf
    exact kr _ _ _ _ hw rfl dX8_first_25
theorem ctX8_first (l : Launch) {σ : sn_S} {x1 : Int32}  {o : Int32} (hf : fX8_first σ x1 = some o) : sn_M l yX8_first cX8_first 2 (some .int) rmX8_first layC (fun ad => [.ref (ad 0), .int x1]) σ (some (fun _ => .int o)) σ :=
  sn_met (by decide) (fun _ => Nat.le_of_ble_eq_true rfl) (fun p e s m args below meth c ls D ct ad C hw hl => wX8_first_in C  hf (fun H locs ls pc hw ok hd => sn_iret C hw hd) _ _ _ hw hl)
-- X8_isHouse
abbrev rmX8_isHouse : Room := { frames := 0, cells := 0, slots := 0, locals := 0 }
def fX8_isHouse (σ : sn_S) : Option Int32 :=
  (sn_gd (sn_in (10 : Int32) 11) (if (sn_I σ (3 + 1) (10 : Int32).toNatClampNeg) ≤ 0 then
  (sn_gd (sn_b01 (0 : Int32)) (some (0 : Int32)))
  else
  (sn_gd (sn_b01 (1 : Int32)) (some (1 : Int32)))))
theorem wX8_isHouse_in (C : sn_C p s m args meth c RX8 cX8_isHouse 1 (some .boolean) D ct ad layC) {σ : sn_S}  {o : Int32} (hf : fX8_isHouse σ = some o) (kr : sn_Kr p l e rmX8_isHouse s m args below meth c Q D ct ad layC cX8_isHouse .ireturn (sn_b01 o) σ [.int o]) : sn_At p l e rmX8_isHouse s m args below meth c Q D ct ad layC 1 σ 0 [(0, .ref (ad 0))] [] := by
  intro H locs ls hw hl
  have hx := C.1
  have hb := C.2.1
  unfold fX8_isHouse at hf
  refine lv_aload_n hx hb dX8_isHouse_0 rfl (lv_at hl 0 rfl) ?_
  refine sn_getC (r := 3) C hw fd_RX8_10 layC_0 rfl dX8_isHouse_1 ?_
  refine sn_getC (r := (3 + 1)) C hw fd_RX8_102 (sn_look sn_isX2_3 (k := 0) rfl) rfl dX8_isHouse_4 ?_
  refine lv_bipush (v := 10) hx hb dX8_isHouse_7 (by decide) ?_
  obtain ⟨g_1, hf⟩ := sn_gdE hf
  refine sn_iald C hw (sn_look sn_isX2_3 (k := 1) rfl) g_1 dX8_isHouse_9 ?_
  refine lv_if_le (tgt := 17) hx hb dX8_isHouse_10 (by decide) (fun c_2 => ?_) (fun c_2 => ?_)
  · have hf := sn_if c_2 hf
    refine lv_iconst (v := 0) hx hb dX8_isHouse_17 rfl ?_
    obtain ⟨g_3, hf⟩ := sn_gdE hf
    cases hf
    exact kr _ _ _ _ hw g_3 dX8_isHouse_18
  · have hf := sn_el c_2 hf
    refine lv_iconst (v := 1) hx hb dX8_isHouse_13 rfl ?_
    refine lv_goto (tgt := 18) hx hb dX8_isHouse_14 (by decide) ?_
    obtain ⟨g_4, hf⟩ := sn_gdE hf
    cases hf
    exact kr _ _ _ _ hw g_4 dX8_isHouse_18
theorem ctX8_isHouse (l : Launch) {σ : sn_S}  {o : Int32} (hf : fX8_isHouse σ = some o) : sn_M l yX8_isHouse cX8_isHouse 1 (some .boolean) rmX8_isHouse layC (fun ad => [.ref (ad 0)]) σ (some (fun _ => .int o)) σ :=
  sn_met (by decide) (fun _ => Nat.le_of_ble_eq_true rfl) (fun p e s m args below meth c ls D ct ad C hw hl => wX8_isHouse_in C  hf (fun H locs ls pc hw ok hd => sn_zret C hw ok hd) _ _ _ hw hl)
-- X8_all
abbrev rmX8_all : Room := { frames := 2, cells := 0, slots := 0, locals := 42 }
def fX8_all (σ : sn_S) : Option Int32 :=
  ((fX8_isHouse σ).bind fun t_1 => (if t_1 = 0 then
  (some (-2 : Int32))
  else
  ((fX0_total σ 48).bind fun t_4 => (some t_4))))
theorem wX8_all_in (C : sn_C p s m args meth c RX8 cX8_all 1 (some .int) D ct ad layC) {σ : sn_S}  {o : Int32} (hf : fX8_all σ = some o) (kr : sn_Kr p l e rmX8_all s m args below meth c Q D ct ad layC cX8_all .ireturn (true) σ [.int o]) : sn_At p l e rmX8_all s m args below meth c Q D ct ad layC 1 σ 0 [(0, .ref (ad 0))] [] := by
  intro H locs ls hw hl
  have hx := C.1
  have hb := C.2.1
  unfold fX8_all at hf
  refine lv_aload_n hx hb dX8_all_0 rfl (lv_at hl 0 rfl) ?_
  obtain ⟨t_1, h_2, hf⟩ := sn_bd hf
  refine sn_callVi (rest := []) C hw (ctX8_isHouse l  h_2) kl_RX8_139 layC_0 rfl rfl rfl rfl (Nat.le_of_ble_eq_true rfl) dX8_all_1 hl.1 (fun H locs hw => ?_)
  refine lv_if_eq (tgt := 17) hx hb dX8_all_4 (by decide) (fun c_3 => ?_) (fun c_3 => ?_)
  · have hf := sn_if c_3 hf
    refine lv_bipush (v := (-2)) hx hb dX8_all_17 (by decide) ?_
    cases hf
    exact kr _ _ _ _ hw rfl dX8_all_19
  · have hf := sn_el c_3 hf
    refine lv_aload_n hx hb dX8_all_7 rfl (lv_at hl 0 rfl) ?_
    refine sn_getC (r := 48) C hw fd_RX8_44 layC_0 rfl dX8_all_8 ?_
    obtain ⟨t_4, h_5, hf⟩ := sn_bd hf
    refine sn_callVi (rest := []) C hw (ctX0_total l sn_isX0_48 h_5) kl_RX8_143 (sn_look sn_isX0_48 (k := 0) rfl) rfl rfl rfl rfl (Nat.le_of_ble_eq_true rfl) dX8_all_11 hl.1 (fun H locs hw => ?_)
    refine lv_goto (tgt := 19) hx hb dX8_all_14 (by decide) ?_
    cases hf
    exact kr _ _ _ _ hw rfl dX8_all_19
theorem ctX8_all (l : Launch) {σ : sn_S}  {o : Int32} (hf : fX8_all σ = some o) : sn_M l yX8_all cX8_all 1 (some .int) rmX8_all layC (fun ad => [.ref (ad 0)]) σ (some (fun _ => .int o)) σ :=
  sn_met (by decide) (fun _ => Nat.le_of_ble_eq_true rfl) (fun p e s m args below meth c ls D ct ad C hw hl => wX8_all_in C  hf (fun H locs ls pc hw ok hd => sn_iret C hw hd) _ _ _ hw hl)
-- X8_who
abbrev rmX8_who : Room := { frames := 1, cells := 0, slots := 0, locals := 21 }
def fX8_who (σ : sn_S) (x1 : Int32) : Option Int32 :=
  ((fX8_isMinute σ x1).bind fun t_1 => (if t_1 = 0 then
  (some (-2 : Int32))
  else
  (sn_gd (sn_in x1 30) (some (sn_I σ (48 + 9) x1.toNatClampNeg)))))
theorem wX8_who_in (C : sn_C p s m args meth c RX8 cX8_who 2 (some .int) D ct ad layC) {σ : sn_S} {x1 : Int32}  {o : Int32} (hf : fX8_who σ x1 = some o) (kr : sn_Kr p l e rmX8_who s m args below meth c Q D ct ad layC cX8_who .ireturn (true) σ [.int o]) : sn_At p l e rmX8_who s m args below meth c Q D ct ad layC 2 σ 0 [(0, .ref (ad 0)), (1, .int x1)] [] := by
  intro H locs ls hw hl
  have hx := C.1
  have hb := C.2.1
  unfold fX8_who at hf
  refine lv_aload_n hx hb dX8_who_0 rfl (lv_at hl 0 rfl) ?_
  refine lv_iload_n hx hb dX8_who_1 rfl (lv_at hl 1 rfl) ?_
  obtain ⟨t_1, h_2, hf⟩ := sn_bd hf
  refine sn_callVi (rest := []) C hw (ctX8_isMinute l  h_2) kl_RX8_127 layC_0 rfl rfl rfl rfl (Nat.le_of_ble_eq_true rfl) dX8_who_2 hl.1 (fun H locs hw => ?_)
  refine lv_if_eq (tgt := 20) hx hb dX8_who_5 (by decide) (fun c_3 => ?_) (fun c_3 => ?_)
  · have hf := sn_if c_3 hf
    refine lv_bipush (v := (-2)) hx hb dX8_who_20 (by decide) ?_
    cases hf
    exact kr _ _ _ _ hw rfl dX8_who_22
  · have hf := sn_el c_3 hf
    refine lv_aload_n hx hb dX8_who_8 rfl (lv_at hl 0 rfl) ?_
    refine sn_getC (r := 48) C hw fd_RX8_44 layC_0 rfl dX8_who_9 ?_
    refine sn_getC (r := (48 + 9)) C hw fd_RX8_147 (sn_look sn_isX0_48 (k := 0) rfl) rfl dX8_who_12 ?_
    refine lv_iload_n hx hb dX8_who_15 rfl (lv_at hl 1 rfl) ?_
    obtain ⟨g_4, hf⟩ := sn_gdE hf
    refine sn_iald C hw (sn_look sn_isX0_48 (k := 9) rfl) g_4 dX8_who_16 ?_
    refine lv_goto (tgt := 22) hx hb dX8_who_17 (by decide) ?_
    cases hf
    exact kr _ _ _ _ hw rfl dX8_who_22
theorem ctX8_who (l : Launch) {σ : sn_S} {x1 : Int32}  {o : Int32} (hf : fX8_who σ x1 = some o) : sn_M l yX8_who cX8_who 2 (some .int) rmX8_who layC (fun ad => [.ref (ad 0), .int x1]) σ (some (fun _ => .int o)) σ :=
  sn_met (by decide) (fun _ => Nat.le_of_ble_eq_true rfl) (fun p e s m args below meth c ls D ct ad C hw hl => wX8_who_in C  hf (fun H locs ls pc hw ok hd => sn_iret C hw hd) _ _ _ hw hl)
-- X8_tickle
abbrev rmX8_tickle : Room := { frames := 1, cells := 0, slots := 0, locals := 22 }
def fX8_tickle (σ : sn_S) (x1 : Int32) (x2 : Int32) : Option Int32 :=
  ((fX8_isPerson σ x1).bind fun t_1 => (if t_1 = 0 then
  (some (-2 : Int32))
  else
  ((fX8_isMinute σ x2).bind fun t_4 => (if t_4 = 0 then
  (some (-2 : Int32))
  else
  ((fX0_tickleAt σ 48 x1 x2).bind fun t_7 => (some t_7))))))
theorem wX8_tickle_in (C : sn_C p s m args meth c RX8 cX8_tickle 3 (some .int) D ct ad layC) {σ : sn_S} {x1 : Int32} {x2 : Int32}  {o : Int32} (hf : fX8_tickle σ x1 x2 = some o) (kr : sn_Kr p l e rmX8_tickle s m args below meth c Q D ct ad layC cX8_tickle .ireturn (true) σ [.int o]) : sn_At p l e rmX8_tickle s m args below meth c Q D ct ad layC 3 σ 0 [(0, .ref (ad 0)), (1, .int x1), (2, .int x2)] [] := by
  intro H locs ls hw hl
  have hx := C.1
  have hb := C.2.1
  unfold fX8_tickle at hf
  refine lv_aload_n hx hb dX8_tickle_0 rfl (lv_at hl 0 rfl) ?_
  refine lv_iload_n hx hb dX8_tickle_1 rfl (lv_at hl 1 rfl) ?_
  obtain ⟨t_1, h_2, hf⟩ := sn_bd hf
  refine sn_callVi (rest := []) C hw (ctX8_isPerson l  h_2) kl_RX8_109 layC_0 rfl rfl rfl rfl (Nat.le_of_ble_eq_true rfl) dX8_tickle_2 hl.1 (fun H locs hw => ?_)
  refine lv_if_eq (tgt := 16) hx hb dX8_tickle_5 (by decide) (fun c_3 => ?_) (fun c_3 => ?_)
  · have hf := sn_if c_3 hf
    refine lv_bipush (v := (-2)) hx hb dX8_tickle_16 (by decide) ?_
    cases hf
    exact kr _ _ _ _ hw rfl dX8_tickle_18
  · have hf := sn_el c_3 hf
    refine lv_aload_n hx hb dX8_tickle_8 rfl (lv_at hl 0 rfl) ?_
    refine lv_iload_n hx hb dX8_tickle_9 rfl (lv_at hl 2 rfl) ?_
    obtain ⟨t_4, h_5, hf⟩ := sn_bd hf
    refine sn_callVi (rest := []) C hw (ctX8_isMinute l  h_5) kl_RX8_127 layC_0 rfl rfl rfl rfl (Nat.le_of_ble_eq_true rfl) dX8_tickle_10 hl.1 (fun H locs hw => ?_)
    refine lv_if_ne (tgt := 19) hx hb dX8_tickle_13 (by decide) (fun c_6 => ?_) (fun c_6 => ?_)
    · have hf := sn_el c_6 hf
      refine lv_aload_n hx hb dX8_tickle_19 rfl (lv_at hl 0 rfl) ?_
      refine sn_getC (r := 48) C hw fd_RX8_44 layC_0 rfl dX8_tickle_20 ?_
      refine lv_iload_n hx hb dX8_tickle_23 rfl (lv_at hl 1 rfl) ?_
      refine lv_iload_n hx hb dX8_tickle_24 rfl (lv_at hl 2 rfl) ?_
      obtain ⟨t_7, h_8, hf⟩ := sn_bd hf
      refine sn_callVi (rest := []) C hw (ctX0_tickleAt l sn_isX0_48 h_8) kl_RX8_150 (sn_look sn_isX0_48 (k := 0) rfl) rfl rfl rfl rfl (Nat.le_of_ble_eq_true rfl) dX8_tickle_25 hl.1 (fun H locs hw => ?_)
      cases hf
      exact kr _ _ _ _ hw rfl dX8_tickle_28
    · have hf := sn_if c_6 hf
      refine lv_bipush (v := (-2)) hx hb dX8_tickle_16 (by decide) ?_
      cases hf
      exact kr _ _ _ _ hw rfl dX8_tickle_18
theorem ctX8_tickle (l : Launch) {σ : sn_S} {x1 : Int32} {x2 : Int32}  {o : Int32} (hf : fX8_tickle σ x1 x2 = some o) : sn_M l yX8_tickle cX8_tickle 3 (some .int) rmX8_tickle layC (fun ad => [.ref (ad 0), .int x1, .int x2]) σ (some (fun _ => .int o)) σ :=
  sn_met (by decide) (fun _ => Nat.le_of_ble_eq_true rfl) (fun p e s m args below meth c ls D ct ad C hw hl => wX8_tickle_in C  hf (fun H locs ls pc hw ok hd => sn_iret C hw hd) _ _ _ hw hl)
-- X8_itch
abbrev rmX8_itch : Room := { frames := 1, cells := 0, slots := 0, locals := 32 }
def BX8_itch_46 (σ : sn_S) (x2 : Int32) : Option (Int32) :=
  (some x2)
def BX8_itch_15 (σ : sn_S) (x1 : Int32) (x2 : Int32) (x3 : Int32) : Option ((Int32 × Int32) ⊕ (Int32)) :=
  (if (sn_I σ 48 0) ≤ x3 then
  (some (.inr (x2)))
  else
  ((fX0_tickleAt σ 48 x1 x3).bind fun t_2 => (sn_lt (if x2 < t_2 then t_2 else x2) fun y_4 => (sn_lt (x3 + 1) fun y_6 => (some (.inl (y_4, y_6)))))))
def LX8_itch_15 (σ : sn_S) (x1 : Int32) (s : Int32 × Int32) : Option ((Int32 × Int32) ⊕ (Int32)) := BX8_itch_15 σ x1 s.1 s.2
def fX8_itch (σ : sn_S) (x1 : Int32) : Option Int32 :=
  ((fX8_isPerson σ x1).bind fun t_1 => (if t_1 = 0 then
  (some (-2 : Int32))
  else
  ((sn_it (LX8_itch_15 σ x1) 5000 ((0 : Int32), (0 : Int32))).bind fun t_4 => (BX8_itch_46 σ t_4))))
theorem wX8_itch_46 (C : sn_C p s m args meth c RX8 cX8_itch 4 (some .int) D ct ad layC) {σ : sn_S} {x2 : Int32}  {o : Int32} (hf : BX8_itch_46 σ x2 = some o) (kr : sn_Kr p l e rmX8_itch s m args below meth c Q D ct ad layC cX8_itch .ireturn (true) σ [.int o]) : sn_At p l e rmX8_itch s m args below meth c Q D ct ad layC 4 σ 46 [(2, .int x2)] [] := by
  intro H locs ls hw hl
  have hx := C.1
  have hb := C.2.1
  unfold BX8_itch_46 at hf
  refine lv_iload_n hx hb dX8_itch_46 rfl (lv_at hl 0 rfl) ?_
  cases hf
  exact kr _ _ _ _ hw rfl dX8_itch_47
theorem wX8_itch_15 (C : sn_C p s m args meth c RX8 cX8_itch 4 (some .int) D ct ad layC) {σ : sn_S} {x1 : Int32} {x2 : Int32} {x3 : Int32}  {o : (Int32 × Int32) ⊕ (Int32)} (hf : BX8_itch_15 σ x1 x2 x3 = some o) (kc : ∀ v, o = .inl v → sn_At p l e rmX8_itch s m args below meth c Q D ct ad layC 4 σ 15 [(0, .ref (ad 0)), (1, .int x1), (2, .int v.1), (3, .int v.2)] []) (kx : ∀ v, o = .inr v → sn_At p l e rmX8_itch s m args below meth c Q D ct ad layC 4 σ 46 [(2, .int v)] []) : sn_At p l e rmX8_itch s m args below meth c Q D ct ad layC 4 σ 15 [(0, .ref (ad 0)), (1, .int x1), (2, .int x2), (3, .int x3)] [] := by
  intro H locs ls hw hl
  have hx := C.1
  have hb := C.2.1
  unfold BX8_itch_15 at hf
  refine lv_iload_n hx hb dX8_itch_15 rfl (lv_at hl 3 rfl) ?_
  refine lv_aload_n hx hb dX8_itch_16 rfl (lv_at hl 0 rfl) ?_
  refine sn_getC (r := 48) C hw fd_RX8_44 layC_0 rfl dX8_itch_17 ?_
  refine sn_getI C hw fd_RX8_153 (sn_look sn_isX0_48 (k := 0) rfl) rfl dX8_itch_20 ?_
  refine lv_icmp_ge (tgt := 46) hx hb dX8_itch_23 (by decide) (fun c_1 => ?_) (fun c_1 => ?_)
  · have hf := sn_if c_1 hf
    cases hf
    exact kx _ rfl _ _ _ hw (lv_sub hl [2] rfl)
  · have hf := sn_el c_1 hf
    refine lv_iload_n hx hb dX8_itch_26 rfl (lv_at hl 2 rfl) ?_
    refine lv_aload_n hx hb dX8_itch_27 rfl (lv_at hl 0 rfl) ?_
    refine sn_getC (r := 48) C hw fd_RX8_44 layC_0 rfl dX8_itch_28 ?_
    refine lv_iload_n hx hb dX8_itch_31 rfl (lv_at hl 1 rfl) ?_
    refine lv_iload_n hx hb dX8_itch_32 rfl (lv_at hl 3 rfl) ?_
    obtain ⟨t_2, h_3, hf⟩ := sn_bd hf
    refine sn_callVi (rest := [.int x2]) C hw (ctX0_tickleAt l sn_isX0_48 h_3) kl_RX8_150 (sn_look sn_isX0_48 (k := 0) rfl) rfl rfl rfl rfl (Nat.le_of_ble_eq_true rfl) dX8_itch_33 hl.1 (fun H locs hw => ?_)
    refine va_mmax hx hb (C.2.2.1.trans hl.1.symm) C.2.2.2.1 (C.2.2.2.2.1 _ km_RX8_156) (C.2.2.2.2.1 _ kst_maxI) (C.2.2.2.2.1 _ ki_Math) (C.2.2.2.2.1 _ kc_maxI) (Nat.le_of_ble_eq_true rfl) (Nat.le_of_ble_eq_true rfl) (Nat.zero_le _) (Nat.zero_le _) dX8_itch_36 ?_
    obtain ⟨y_4, e_5, hf⟩ := sn_ltE hf
    refine lv_topi (fun y_4_ e_5_ => ?_)
    obtain rfl : y_4 = y_4_ := e_5.trans e_5_.symm
    refine lv_istore_n (lv' := [(2, .int y_4), (0, .ref (ad 0)), (1, .int x1), (3, .int x3)]) hx hb dX8_itch_39 rfl hl (by decide) rfl (fun ls hl => ?_)
    obtain ⟨y_6, e_7, hf⟩ := sn_ltE hf
    refine lv_iinc (v := y_6) (lv' := [(3, .int y_6), (2, .int y_4), (0, .ref (ad 0)), (1, .int x1)]) hx hb dX8_itch_40 hl (k := 3) rfl (by rw [e_7]; rfl) (by decide) rfl (fun ls hl => ?_)
    refine lv_goto (tgt := 15) hx hb dX8_itch_43 (by decide) ?_
    cases hf
    exact kc _ rfl _ _ _ hw (lv_sub hl [2, 3, 1, 0] rfl)
theorem wX8_itch_L15 (C : sn_C p s m args meth c RX8 cX8_itch 4 (some .int) D ct ad layC) {σ : sn_S} {x1 : Int32}   {z : Int32 × Int32} {t : Int32} (h : sn_it (LX8_itch_15 σ x1) 5000 z = some t) (kx : ∀ v, t = v → sn_At p l e rmX8_itch s m args below meth c Q D ct ad layC 4 σ 46 [(2, .int v)] []) : sn_At p l e rmX8_itch s m args below meth c Q D ct ad layC 4 σ 15 [(0, .ref (ad 0)), (1, .int x1), (2, .int z.1), (3, .int z.2)] [] :=
  sn_loop (f := LX8_itch_15 σ x1) (G := fun z => sn_At p l e rmX8_itch s m args below meth c Q D ct ad layC 4 σ 15 [(0, .ref (ad 0)), (1, .int x1), (2, .int z.1), (3, .int z.2)] []) (E := fun t => (∀ v, t = v → sn_At p l e rmX8_itch s m args below meth c Q D ct ad layC 4 σ 46 [(2, .int v)] []) ∧ True) (fun z o hf k1 k2 => wX8_itch_15 C  hf (fun v e => k1 v e) (fun v e => (k2 _ e).1 v rfl)) 5000 z t h ⟨kx, trivial⟩
theorem wX8_itch_in (C : sn_C p s m args meth c RX8 cX8_itch 4 (some .int) D ct ad layC) {σ : sn_S} {x1 : Int32}  {o : Int32} (hf : fX8_itch σ x1 = some o) (kr : sn_Kr p l e rmX8_itch s m args below meth c Q D ct ad layC cX8_itch .ireturn (true) σ [.int o]) : sn_At p l e rmX8_itch s m args below meth c Q D ct ad layC 4 σ 0 [(0, .ref (ad 0)), (1, .int x1)] [] := by
  intro H locs ls hw hl
  have hx := C.1
  have hb := C.2.1
  unfold fX8_itch at hf
  refine lv_aload_n hx hb dX8_itch_0 rfl (lv_at hl 0 rfl) ?_
  refine lv_iload_n hx hb dX8_itch_1 rfl (lv_at hl 1 rfl) ?_
  obtain ⟨t_1, h_2, hf⟩ := sn_bd hf
  refine sn_callVi (rest := []) C hw (ctX8_isPerson l  h_2) kl_RX8_109 layC_0 rfl rfl rfl rfl (Nat.le_of_ble_eq_true rfl) dX8_itch_2 hl.1 (fun H locs hw => ?_)
  refine lv_if_ne (tgt := 11) hx hb dX8_itch_5 (by decide) (fun c_3 => ?_) (fun c_3 => ?_)
  · have hf := sn_el c_3 hf
    refine lv_iconst (v := 0) hx hb dX8_itch_11 rfl ?_
    refine lv_istore_n (lv' := [(2, .int (0 : Int32)), (0, .ref (ad 0)), (1, .int x1)]) hx hb dX8_itch_12 rfl hl (by decide) rfl (fun ls hl => ?_)
    refine lv_iconst (v := 0) hx hb dX8_itch_13 rfl ?_
    refine lv_istore_n (lv' := [(3, .int (0 : Int32)), (2, .int (0 : Int32)), (0, .ref (ad 0)), (1, .int x1)]) hx hb dX8_itch_14 rfl hl (by decide) rfl (fun ls hl => ?_)
    obtain ⟨t_4, h_5, hf⟩ := sn_bd hf
    exact wX8_itch_L15 C  h_5 (fun v e => by cases e; exact wX8_itch_46 C  hf kr) _ _ _ hw (lv_sub hl [2, 3, 1, 0] rfl)
  · have hf := sn_if c_3 hf
    refine lv_bipush (v := (-2)) hx hb dX8_itch_8 (by decide) ?_
    cases hf
    exact kr _ _ _ _ hw rfl dX8_itch_10
theorem ctX8_itch (l : Launch) {σ : sn_S} {x1 : Int32}  {o : Int32} (hf : fX8_itch σ x1 = some o) : sn_M l yX8_itch cX8_itch 4 (some .int) rmX8_itch layC (fun ad => [.ref (ad 0), .int x1]) σ (some (fun _ => .int o)) σ :=
  sn_met (by decide) (fun _ => Nat.le_of_ble_eq_true rfl) (fun p e s m args below meth c ls D ct ad C hw hl => wX8_itch_in C  hf (fun H locs ls pc hw ok hd => sn_iret C hw hd) _ _ _ hw hl)
-- X8_caught
abbrev rmX8_caught : Room := { frames := 1, cells := 0, slots := 0, locals := 22 }
def BX8_caught_44 (σ : sn_S) (x2 : Int32) : Option (Int32) :=
  (some x2)
def BX8_caught_15 (σ : sn_S) (x1 : Int32) (x2 : Int32) (x3 : Int32) : Option ((Int32 × Int32) ⊕ (Int32)) :=
  (if (sn_I σ 48 0) ≤ x3 then
  (some (.inr (x2)))
  else
  ((fX0_cameAt σ 48 x1 x3).bind fun t_2 => (sn_lt (x2 + t_2) fun y_4 => (sn_lt (x3 + 1) fun y_6 => (some (.inl (y_4, y_6)))))))
def LX8_caught_15 (σ : sn_S) (x1 : Int32) (s : Int32 × Int32) : Option ((Int32 × Int32) ⊕ (Int32)) := BX8_caught_15 σ x1 s.1 s.2
def fX8_caught (σ : sn_S) (x1 : Int32) : Option Int32 :=
  ((fX8_isPerson σ x1).bind fun t_1 => (if t_1 = 0 then
  (some (-2 : Int32))
  else
  ((sn_it (LX8_caught_15 σ x1) 5000 ((0 : Int32), (0 : Int32))).bind fun t_4 => (BX8_caught_44 σ t_4))))
theorem wX8_caught_44 (C : sn_C p s m args meth c RX8 cX8_caught 4 (some .int) D ct ad layC) {σ : sn_S} {x2 : Int32}  {o : Int32} (hf : BX8_caught_44 σ x2 = some o) (kr : sn_Kr p l e rmX8_caught s m args below meth c Q D ct ad layC cX8_caught .ireturn (true) σ [.int o]) : sn_At p l e rmX8_caught s m args below meth c Q D ct ad layC 4 σ 44 [(2, .int x2)] [] := by
  intro H locs ls hw hl
  have hx := C.1
  have hb := C.2.1
  unfold BX8_caught_44 at hf
  refine lv_iload_n hx hb dX8_caught_44 rfl (lv_at hl 0 rfl) ?_
  cases hf
  exact kr _ _ _ _ hw rfl dX8_caught_45
theorem wX8_caught_15 (C : sn_C p s m args meth c RX8 cX8_caught 4 (some .int) D ct ad layC) {σ : sn_S} {x1 : Int32} {x2 : Int32} {x3 : Int32}  {o : (Int32 × Int32) ⊕ (Int32)} (hf : BX8_caught_15 σ x1 x2 x3 = some o) (kc : ∀ v, o = .inl v → sn_At p l e rmX8_caught s m args below meth c Q D ct ad layC 4 σ 15 [(0, .ref (ad 0)), (1, .int x1), (2, .int v.1), (3, .int v.2)] []) (kx : ∀ v, o = .inr v → sn_At p l e rmX8_caught s m args below meth c Q D ct ad layC 4 σ 44 [(2, .int v)] []) : sn_At p l e rmX8_caught s m args below meth c Q D ct ad layC 4 σ 15 [(0, .ref (ad 0)), (1, .int x1), (2, .int x2), (3, .int x3)] [] := by
  intro H locs ls hw hl
  have hx := C.1
  have hb := C.2.1
  unfold BX8_caught_15 at hf
  refine lv_iload_n hx hb dX8_caught_15 rfl (lv_at hl 3 rfl) ?_
  refine lv_aload_n hx hb dX8_caught_16 rfl (lv_at hl 0 rfl) ?_
  refine sn_getC (r := 48) C hw fd_RX8_44 layC_0 rfl dX8_caught_17 ?_
  refine sn_getI C hw fd_RX8_153 (sn_look sn_isX0_48 (k := 0) rfl) rfl dX8_caught_20 ?_
  refine lv_icmp_ge (tgt := 44) hx hb dX8_caught_23 (by decide) (fun c_1 => ?_) (fun c_1 => ?_)
  · have hf := sn_if c_1 hf
    cases hf
    exact kx _ rfl _ _ _ hw (lv_sub hl [2] rfl)
  · have hf := sn_el c_1 hf
    refine lv_iload_n hx hb dX8_caught_26 rfl (lv_at hl 2 rfl) ?_
    refine lv_aload_n hx hb dX8_caught_27 rfl (lv_at hl 0 rfl) ?_
    refine sn_getC (r := 48) C hw fd_RX8_44 layC_0 rfl dX8_caught_28 ?_
    refine lv_iload_n hx hb dX8_caught_31 rfl (lv_at hl 1 rfl) ?_
    refine lv_iload_n hx hb dX8_caught_32 rfl (lv_at hl 3 rfl) ?_
    obtain ⟨t_2, h_3, hf⟩ := sn_bd hf
    refine sn_callVi (rest := [.int x2]) C hw (ctX0_cameAt l sn_isX0_48 h_3) kl_RX8_161 (sn_look sn_isX0_48 (k := 0) rfl) rfl rfl rfl rfl (Nat.le_of_ble_eq_true rfl) dX8_caught_33 hl.1 (fun H locs hw => ?_)
    refine lv_iadd hx hb dX8_caught_36 ?_
    obtain ⟨y_4, e_5, hf⟩ := sn_ltE hf
    refine lv_topi (fun y_4_ e_5_ => ?_)
    obtain rfl : y_4 = y_4_ := e_5.trans e_5_.symm
    refine lv_istore_n (lv' := [(2, .int y_4), (0, .ref (ad 0)), (1, .int x1), (3, .int x3)]) hx hb dX8_caught_37 rfl hl (by decide) rfl (fun ls hl => ?_)
    obtain ⟨y_6, e_7, hf⟩ := sn_ltE hf
    refine lv_iinc (v := y_6) (lv' := [(3, .int y_6), (2, .int y_4), (0, .ref (ad 0)), (1, .int x1)]) hx hb dX8_caught_38 hl (k := 3) rfl (by rw [e_7]; rfl) (by decide) rfl (fun ls hl => ?_)
    refine lv_goto (tgt := 15) hx hb dX8_caught_41 (by decide) ?_
    cases hf
    exact kc _ rfl _ _ _ hw (lv_sub hl [2, 3, 1, 0] rfl)
theorem wX8_caught_L15 (C : sn_C p s m args meth c RX8 cX8_caught 4 (some .int) D ct ad layC) {σ : sn_S} {x1 : Int32}   {z : Int32 × Int32} {t : Int32} (h : sn_it (LX8_caught_15 σ x1) 5000 z = some t) (kx : ∀ v, t = v → sn_At p l e rmX8_caught s m args below meth c Q D ct ad layC 4 σ 44 [(2, .int v)] []) : sn_At p l e rmX8_caught s m args below meth c Q D ct ad layC 4 σ 15 [(0, .ref (ad 0)), (1, .int x1), (2, .int z.1), (3, .int z.2)] [] :=
  sn_loop (f := LX8_caught_15 σ x1) (G := fun z => sn_At p l e rmX8_caught s m args below meth c Q D ct ad layC 4 σ 15 [(0, .ref (ad 0)), (1, .int x1), (2, .int z.1), (3, .int z.2)] []) (E := fun t => (∀ v, t = v → sn_At p l e rmX8_caught s m args below meth c Q D ct ad layC 4 σ 44 [(2, .int v)] []) ∧ True) (fun z o hf k1 k2 => wX8_caught_15 C  hf (fun v e => k1 v e) (fun v e => (k2 _ e).1 v rfl)) 5000 z t h ⟨kx, trivial⟩
theorem wX8_caught_in (C : sn_C p s m args meth c RX8 cX8_caught 4 (some .int) D ct ad layC) {σ : sn_S} {x1 : Int32}  {o : Int32} (hf : fX8_caught σ x1 = some o) (kr : sn_Kr p l e rmX8_caught s m args below meth c Q D ct ad layC cX8_caught .ireturn (true) σ [.int o]) : sn_At p l e rmX8_caught s m args below meth c Q D ct ad layC 4 σ 0 [(0, .ref (ad 0)), (1, .int x1)] [] := by
  intro H locs ls hw hl
  have hx := C.1
  have hb := C.2.1
  unfold fX8_caught at hf
  refine lv_aload_n hx hb dX8_caught_0 rfl (lv_at hl 0 rfl) ?_
  refine lv_iload_n hx hb dX8_caught_1 rfl (lv_at hl 1 rfl) ?_
  obtain ⟨t_1, h_2, hf⟩ := sn_bd hf
  refine sn_callVi (rest := []) C hw (ctX8_isPerson l  h_2) kl_RX8_109 layC_0 rfl rfl rfl rfl (Nat.le_of_ble_eq_true rfl) dX8_caught_2 hl.1 (fun H locs hw => ?_)
  refine lv_if_ne (tgt := 11) hx hb dX8_caught_5 (by decide) (fun c_3 => ?_) (fun c_3 => ?_)
  · have hf := sn_el c_3 hf
    refine lv_iconst (v := 0) hx hb dX8_caught_11 rfl ?_
    refine lv_istore_n (lv' := [(2, .int (0 : Int32)), (0, .ref (ad 0)), (1, .int x1)]) hx hb dX8_caught_12 rfl hl (by decide) rfl (fun ls hl => ?_)
    refine lv_iconst (v := 0) hx hb dX8_caught_13 rfl ?_
    refine lv_istore_n (lv' := [(3, .int (0 : Int32)), (2, .int (0 : Int32)), (0, .ref (ad 0)), (1, .int x1)]) hx hb dX8_caught_14 rfl hl (by decide) rfl (fun ls hl => ?_)
    obtain ⟨t_4, h_5, hf⟩ := sn_bd hf
    exact wX8_caught_L15 C  h_5 (fun v e => by cases e; exact wX8_caught_44 C  hf kr) _ _ _ hw (lv_sub hl [2, 3, 1, 0] rfl)
  · have hf := sn_if c_3 hf
    refine lv_bipush (v := (-2)) hx hb dX8_caught_8 (by decide) ?_
    cases hf
    exact kr _ _ _ _ hw rfl dX8_caught_10
theorem ctX8_caught (l : Launch) {σ : sn_S} {x1 : Int32}  {o : Int32} (hf : fX8_caught σ x1 = some o) : sn_M l yX8_caught cX8_caught 4 (some .int) rmX8_caught layC (fun ad => [.ref (ad 0), .int x1]) σ (some (fun _ => .int o)) σ :=
  sn_met (by decide) (fun _ => Nat.le_of_ble_eq_true rfl) (fun p e s m args below meth c ls D ct ad C hw hl => wX8_caught_in C  hf (fun H locs ls pc hw ok hd => sn_iret C hw hd) _ _ _ hw hl)
-- X8_gave
abbrev rmX8_gave : Room := { frames := 2, cells := 0, slots := 0, locals := 40 }
def fX8_gave (σ : sn_S) (x1 : Int32) : Option Int32 :=
  ((fX8_isPerson σ x1).bind fun t_1 => (if t_1 = 0 then
  (some (-2 : Int32))
  else
  (sn_gd (sn_in x1 6) ((fX8_lowestBit (sn_I σ (48 + 10) x1.toNatClampNeg)).bind fun t_5 => (if (1 : Int32) ≤ t_5 then
  (sn_gd (sn_in (t_5 - (1 : Int32)) 30) ((fX2_neighbours σ 3 x1).bind fun t_9 => (some ((sn_I σ (48 + 9) (t_5 - (1 : Int32)).toNatClampNeg) &&& t_9))))
  else
  (some (0 : Int32)))))))
theorem wX8_gave_in (C : sn_C p s m args meth c RX8 cX8_gave 3 (some .int) D ct ad layC) {σ : sn_S} {x1 : Int32}  {o : Int32} (hf : fX8_gave σ x1 = some o) (kr : sn_Kr p l e rmX8_gave s m args below meth c Q D ct ad layC cX8_gave .ireturn (true) σ [.int o]) : sn_At p l e rmX8_gave s m args below meth c Q D ct ad layC 3 σ 0 [(0, .ref (ad 0)), (1, .int x1)] [] := by
  intro H locs ls hw hl
  have hx := C.1
  have hb := C.2.1
  unfold fX8_gave at hf
  refine lv_aload_n hx hb dX8_gave_0 rfl (lv_at hl 0 rfl) ?_
  refine lv_iload_n hx hb dX8_gave_1 rfl (lv_at hl 1 rfl) ?_
  obtain ⟨t_1, h_2, hf⟩ := sn_bd hf
  refine sn_callVi (rest := []) C hw (ctX8_isPerson l  h_2) kl_RX8_109 layC_0 rfl rfl rfl rfl (Nat.le_of_ble_eq_true rfl) dX8_gave_2 hl.1 (fun H locs hw => ?_)
  refine lv_if_ne (tgt := 11) hx hb dX8_gave_5 (by decide) (fun c_3 => ?_) (fun c_3 => ?_)
  · have hf := sn_el c_3 hf
    refine lv_aload_n hx hb dX8_gave_11 rfl (lv_at hl 0 rfl) ?_
    refine sn_getC (r := 48) C hw fd_RX8_44 layC_0 rfl dX8_gave_12 ?_
    refine sn_getC (r := (48 + 10)) C hw fd_RX8_133 (sn_look sn_isX0_48 (k := 0) rfl) rfl dX8_gave_15 ?_
    refine lv_iload_n hx hb dX8_gave_18 rfl (lv_at hl 1 rfl) ?_
    obtain ⟨g_4, hf⟩ := sn_gdE hf
    refine sn_iald C hw (sn_look sn_isX0_48 (k := 10) rfl) g_4 dX8_gave_19 ?_
    obtain ⟨t_5, h_6, hf⟩ := sn_bd hf
    refine sn_callSi (rest := []) C hw (ctX8_lowestBit l  h_6) kl_RX8_136 rfl rfl rfl (Nat.le_of_ble_eq_true rfl) dX8_gave_20 hl.1 (fun H locs hw => ?_)
    refine lv_istore_n (lv' := [(2, .int t_5), (0, .ref (ad 0)), (1, .int x1)]) hx hb dX8_gave_23 rfl hl (by decide) rfl (fun ls hl => ?_)
    refine lv_iload_n hx hb dX8_gave_24 rfl (lv_at hl 0 rfl) ?_
    refine lv_iconst (v := 1) hx hb dX8_gave_25 rfl ?_
    refine lv_icmp_ge (tgt := 31) hx hb dX8_gave_26 (by decide) (fun c_7 => ?_) (fun c_7 => ?_)
    · have hf := sn_if c_7 hf
      refine lv_aload_n hx hb dX8_gave_31 rfl (lv_at hl 1 rfl) ?_
      refine sn_getC (r := 48) C hw fd_RX8_44 layC_0 rfl dX8_gave_32 ?_
      refine sn_getC (r := (48 + 9)) C hw fd_RX8_147 (sn_look sn_isX0_48 (k := 0) rfl) rfl dX8_gave_35 ?_
      refine lv_iload_n hx hb dX8_gave_38 rfl (lv_at hl 0 rfl) ?_
      refine lv_iconst (v := 1) hx hb dX8_gave_39 rfl ?_
      refine lv_isub hx hb dX8_gave_40 ?_
      obtain ⟨g_8, hf⟩ := sn_gdE hf
      refine sn_iald C hw (sn_look sn_isX0_48 (k := 9) rfl) g_8 dX8_gave_41 ?_
      refine lv_aload_n hx hb dX8_gave_42 rfl (lv_at hl 1 rfl) ?_
      refine sn_getC (r := 3) C hw fd_RX8_10 layC_0 rfl dX8_gave_43 ?_
      refine lv_iload_n hx hb dX8_gave_46 rfl (lv_at hl 2 rfl) ?_
      obtain ⟨t_9, h_10, hf⟩ := sn_bd hf
      refine sn_callVi (rest := [.int (sn_I σ (48 + 9) (t_5 - (1 : Int32)).toNatClampNeg)]) C hw (ctX2_neighbours l sn_isX2_3 h_10) kl_RX8_123 (sn_look sn_isX2_3 (k := 0) rfl) rfl rfl rfl rfl (Nat.le_of_ble_eq_true rfl) dX8_gave_47 hl.1 (fun H locs hw => ?_)
      refine lv_iand hx hb dX8_gave_50 ?_
      cases hf
      exact kr _ _ _ _ hw rfl dX8_gave_51
    · have hf := sn_el c_7 hf
      refine lv_iconst (v := 0) hx hb dX8_gave_29 rfl ?_
      cases hf
      exact kr _ _ _ _ hw rfl dX8_gave_30
  · have hf := sn_if c_3 hf
    refine lv_bipush (v := (-2)) hx hb dX8_gave_8 (by decide) ?_
    cases hf
    exact kr _ _ _ _ hw rfl dX8_gave_10
theorem ctX8_gave (l : Launch) {σ : sn_S} {x1 : Int32}  {o : Int32} (hf : fX8_gave σ x1 = some o) : sn_M l yX8_gave cX8_gave 3 (some .int) rmX8_gave layC (fun ad => [.ref (ad 0), .int x1]) σ (some (fun _ => .int o)) σ :=
  sn_met (by decide) (fun _ => Nat.le_of_ble_eq_true rfl) (fun p e s m args below meth c ls D ct ad C hw hl => wX8_gave_in C  hf (fun H locs ls pc hw ok hd => sn_iret C hw hd) _ _ _ hw hl)
-- X8_worst
abbrev rmX8_worst : Room := { frames := 1, cells := 0, slots := 0, locals := 20 }
def BX8_worst_58 (σ : sn_S) (x1 : Int32) : Option (Int32) :=
  (some x1)
def BX8_worst_52 (σ : sn_S) (x1 : Int32) (x2 : Int32) (x3 : Int32) : Option ((Int32 × Int32 × Int32) ⊕ (Int32)) :=
  (sn_lt (x3 + 1) fun y_1 => (some (.inl (x1, x2, y_1))))
def BX8_worst_16 (σ : sn_S) (x1 : Int32) (x2 : Int32) (x3 : Int32) : Option ((Int32 × Int32 × Int32) ⊕ (Int32)) :=
  (if (sn_I σ 48 1) ≤ x3 then
  (some (.inr (x1)))
  else
  (sn_gd (sn_in x3 6) ((fJ6_bitCount_0f7a4 (sn_I σ (48 + 10) x3.toNatClampNeg)).bind fun t_3 => (if t_3 ≤ x2 then
  (BX8_worst_52 σ x1 x2 x3)
  else
  (BX8_worst_52 σ x3 t_3 x3)))))
def LX8_worst_16 (σ : sn_S) (s : Int32 × Int32 × Int32) : Option ((Int32 × Int32 × Int32) ⊕ (Int32)) := BX8_worst_16 σ s.1 s.2.1 s.2.2
def fX8_worst (σ : sn_S) : Option Int32 :=
  ((fX8_isHouse σ).bind fun t_1 => (if t_1 = 0 then
  (some (-2 : Int32))
  else
  ((sn_it (LX8_worst_16 σ) 5000 ((-1 : Int32), (0 : Int32), (0 : Int32))).bind fun t_4 => (BX8_worst_58 σ t_4))))
theorem wX8_worst_58 (C : sn_C p s m args meth c RX8 cX8_worst 5 (some .int) D ct ad layC) {σ : sn_S} {x1 : Int32}  {o : Int32} (hf : BX8_worst_58 σ x1 = some o) (kr : sn_Kr p l e rmX8_worst s m args below meth c Q D ct ad layC cX8_worst .ireturn (true) σ [.int o]) : sn_At p l e rmX8_worst s m args below meth c Q D ct ad layC 5 σ 58 [(1, .int x1)] [] := by
  intro H locs ls hw hl
  have hx := C.1
  have hb := C.2.1
  unfold BX8_worst_58 at hf
  refine lv_iload_n hx hb dX8_worst_58 rfl (lv_at hl 0 rfl) ?_
  cases hf
  exact kr _ _ _ _ hw rfl dX8_worst_59
theorem wX8_worst_52 (C : sn_C p s m args meth c RX8 cX8_worst 5 (some .int) D ct ad layC) {σ : sn_S} {x1 : Int32} {x2 : Int32} {x3 : Int32}  {o : (Int32 × Int32 × Int32) ⊕ (Int32)} (hf : BX8_worst_52 σ x1 x2 x3 = some o) (kc : ∀ v, o = .inl v → sn_At p l e rmX8_worst s m args below meth c Q D ct ad layC 5 σ 16 [(0, .ref (ad 0)), (1, .int v.1), (2, .int v.2.1), (3, .int v.2.2)] []) (kx : ∀ v, o = .inr v → sn_At p l e rmX8_worst s m args below meth c Q D ct ad layC 5 σ 58 [(1, .int v)] []) : sn_At p l e rmX8_worst s m args below meth c Q D ct ad layC 5 σ 52 [(0, .ref (ad 0)), (1, .int x1), (2, .int x2), (3, .int x3)] [] := by
  intro H locs ls hw hl
  have hx := C.1
  have hb := C.2.1
  unfold BX8_worst_52 at hf
  obtain ⟨y_1, e_2, hf⟩ := sn_ltE hf
  refine lv_iinc (v := y_1) (lv' := [(3, .int y_1), (0, .ref (ad 0)), (1, .int x1), (2, .int x2)]) hx hb dX8_worst_52 hl (k := 3) rfl (by rw [e_2]; rfl) (by decide) rfl (fun ls hl => ?_)
  refine lv_goto (tgt := 16) hx hb dX8_worst_55 (by decide) ?_
  cases hf
  exact kc _ rfl _ _ _ hw (lv_sub hl [1, 2, 3, 0] rfl)
theorem wX8_worst_16 (C : sn_C p s m args meth c RX8 cX8_worst 5 (some .int) D ct ad layC) {σ : sn_S} {x1 : Int32} {x2 : Int32} {x3 : Int32}  {o : (Int32 × Int32 × Int32) ⊕ (Int32)} (hf : BX8_worst_16 σ x1 x2 x3 = some o) (kc : ∀ v, o = .inl v → sn_At p l e rmX8_worst s m args below meth c Q D ct ad layC 5 σ 16 [(0, .ref (ad 0)), (1, .int v.1), (2, .int v.2.1), (3, .int v.2.2)] []) (kx : ∀ v, o = .inr v → sn_At p l e rmX8_worst s m args below meth c Q D ct ad layC 5 σ 58 [(1, .int v)] []) : sn_At p l e rmX8_worst s m args below meth c Q D ct ad layC 5 σ 16 [(0, .ref (ad 0)), (1, .int x1), (2, .int x2), (3, .int x3)] [] := by
  intro H locs ls hw hl
  have hx := C.1
  have hb := C.2.1
  unfold BX8_worst_16 at hf
  refine lv_iload_n hx hb dX8_worst_16 rfl (lv_at hl 3 rfl) ?_
  refine lv_aload_n hx hb dX8_worst_17 rfl (lv_at hl 0 rfl) ?_
  refine sn_getC (r := 48) C hw fd_RX8_44 layC_0 rfl dX8_worst_18 ?_
  refine sn_getI C hw fd_RX8_164 (sn_look sn_isX0_48 (k := 0) rfl) rfl dX8_worst_21 ?_
  refine lv_icmp_ge (tgt := 58) hx hb dX8_worst_24 (by decide) (fun c_1 => ?_) (fun c_1 => ?_)
  · have hf := sn_if c_1 hf
    cases hf
    exact kx _ rfl _ _ _ hw (lv_sub hl [1] rfl)
  · have hf := sn_el c_1 hf
    refine lv_aload_n hx hb dX8_worst_27 rfl (lv_at hl 0 rfl) ?_
    refine sn_getC (r := 48) C hw fd_RX8_44 layC_0 rfl dX8_worst_28 ?_
    refine sn_getC (r := (48 + 10)) C hw fd_RX8_133 (sn_look sn_isX0_48 (k := 0) rfl) rfl dX8_worst_31 ?_
    refine lv_iload_n hx hb dX8_worst_34 rfl (lv_at hl 3 rfl) ?_
    obtain ⟨g_2, hf⟩ := sn_gdE hf
    refine sn_iald C hw (sn_look sn_isX0_48 (k := 10) rfl) g_2 dX8_worst_35 ?_
    obtain ⟨t_3, h_4, hf⟩ := sn_bd hf
    refine sn_callSi (rest := []) C hw (ctJ6_bitCount_0f7a4 l  h_4) kl_RX8_167 rfl rfl rfl (Nat.le_of_ble_eq_true rfl) dX8_worst_36 hl.1 (fun H locs hw => ?_)
    refine lv_istore (lv' := [(4, .int t_3), (0, .ref (ad 0)), (1, .int x1), (2, .int x2), (3, .int x3)]) hx hb dX8_worst_39 hl (by decide) rfl (fun ls hl => ?_)
    refine lv_iload hx hb dX8_worst_41 (lv_at hl 0 rfl) ?_
    refine lv_iload_n hx hb dX8_worst_43 rfl (lv_at hl 3 rfl) ?_
    refine lv_icmp_le (tgt := 52) hx hb dX8_worst_44 (by decide) (fun c_5 => ?_) (fun c_5 => ?_)
    · have hf := sn_if c_5 hf
      exact wX8_worst_52 C  hf kc kx _ _ _ hw (lv_sub hl [1, 2, 3, 4] rfl)
    · have hf := sn_el c_5 hf
      refine lv_iload hx hb dX8_worst_47 (lv_at hl 0 rfl) ?_
      refine lv_istore_n (lv' := [(2, .int t_3), (4, .int t_3), (0, .ref (ad 0)), (1, .int x1), (3, .int x3)]) hx hb dX8_worst_49 rfl hl (by decide) rfl (fun ls hl => ?_)
      refine lv_iload_n hx hb dX8_worst_50 rfl (lv_at hl 4 rfl) ?_
      refine lv_istore_n (lv' := [(1, .int x3), (2, .int t_3), (4, .int t_3), (0, .ref (ad 0)), (3, .int x3)]) hx hb dX8_worst_51 rfl hl (by decide) rfl (fun ls hl => ?_)
      exact wX8_worst_52 C  hf kc kx _ _ _ hw (lv_sub hl [3, 0, 1, 4] rfl)
theorem wX8_worst_L16 (C : sn_C p s m args meth c RX8 cX8_worst 5 (some .int) D ct ad layC) {σ : sn_S}   {z : Int32 × Int32 × Int32} {t : Int32} (h : sn_it (LX8_worst_16 σ) 5000 z = some t) (kx : ∀ v, t = v → sn_At p l e rmX8_worst s m args below meth c Q D ct ad layC 5 σ 58 [(1, .int v)] []) : sn_At p l e rmX8_worst s m args below meth c Q D ct ad layC 5 σ 16 [(0, .ref (ad 0)), (1, .int z.1), (2, .int z.2.1), (3, .int z.2.2)] [] :=
  sn_loop (f := LX8_worst_16 σ) (G := fun z => sn_At p l e rmX8_worst s m args below meth c Q D ct ad layC 5 σ 16 [(0, .ref (ad 0)), (1, .int z.1), (2, .int z.2.1), (3, .int z.2.2)] []) (E := fun t => (∀ v, t = v → sn_At p l e rmX8_worst s m args below meth c Q D ct ad layC 5 σ 58 [(1, .int v)] []) ∧ True) (fun z o hf k1 k2 => wX8_worst_16 C  hf (fun v e => k1 v e) (fun v e => (k2 _ e).1 v rfl)) 5000 z t h ⟨kx, trivial⟩
theorem wX8_worst_in (C : sn_C p s m args meth c RX8 cX8_worst 5 (some .int) D ct ad layC) {σ : sn_S}  {o : Int32} (hf : fX8_worst σ = some o) (kr : sn_Kr p l e rmX8_worst s m args below meth c Q D ct ad layC cX8_worst .ireturn (true) σ [.int o]) : sn_At p l e rmX8_worst s m args below meth c Q D ct ad layC 5 σ 0 [(0, .ref (ad 0))] [] := by
  intro H locs ls hw hl
  have hx := C.1
  have hb := C.2.1
  unfold fX8_worst at hf
  refine lv_aload_n hx hb dX8_worst_0 rfl (lv_at hl 0 rfl) ?_
  obtain ⟨t_1, h_2, hf⟩ := sn_bd hf
  refine sn_callVi (rest := []) C hw (ctX8_isHouse l  h_2) kl_RX8_139 layC_0 rfl rfl rfl rfl (Nat.le_of_ble_eq_true rfl) dX8_worst_1 hl.1 (fun H locs hw => ?_)
  refine lv_if_ne (tgt := 10) hx hb dX8_worst_4 (by decide) (fun c_3 => ?_) (fun c_3 => ?_)
  · have hf := sn_el c_3 hf
    refine lv_iconst (v := (-1)) hx hb dX8_worst_10 rfl ?_
    refine lv_istore_n (lv' := [(1, .int (-1 : Int32)), (0, .ref (ad 0))]) hx hb dX8_worst_11 rfl hl (by decide) rfl (fun ls hl => ?_)
    refine lv_iconst (v := 0) hx hb dX8_worst_12 rfl ?_
    refine lv_istore_n (lv' := [(2, .int (0 : Int32)), (1, .int (-1 : Int32)), (0, .ref (ad 0))]) hx hb dX8_worst_13 rfl hl (by decide) rfl (fun ls hl => ?_)
    refine lv_iconst (v := 0) hx hb dX8_worst_14 rfl ?_
    refine lv_istore_n (lv' := [(3, .int (0 : Int32)), (2, .int (0 : Int32)), (1, .int (-1 : Int32)), (0, .ref (ad 0))]) hx hb dX8_worst_15 rfl hl (by decide) rfl (fun ls hl => ?_)
    obtain ⟨t_4, h_5, hf⟩ := sn_bd hf
    exact wX8_worst_L16 C  h_5 (fun v e => by cases e; exact wX8_worst_58 C  hf kr) _ _ _ hw (lv_sub hl [3, 2, 1, 0] rfl)
  · have hf := sn_if c_3 hf
    refine lv_bipush (v := (-2)) hx hb dX8_worst_7 (by decide) ?_
    cases hf
    exact kr _ _ _ _ hw rfl dX8_worst_9
theorem ctX8_worst (l : Launch) {σ : sn_S}  {o : Int32} (hf : fX8_worst σ = some o) : sn_M l yX8_worst cX8_worst 5 (some .int) rmX8_worst layC (fun ad => [.ref (ad 0)]) σ (some (fun _ => .int o)) σ :=
  sn_met (by decide) (fun _ => Nat.le_of_ble_eq_true rfl) (fun p e s m args below meth c ls D ct ad C hw hl => wX8_worst_in C  hf (fun H locs ls pc hw ok hd => sn_iret C hw hd) _ _ _ hw hl)
-- X8_chorus
abbrev rmX8_chorus : Room := { frames := 1, cells := 0, slots := 0, locals := 32 }
def BX8_chorus_48 (σ : sn_S) (x1 : Int32) : Option (Int32) :=
  (some x1)
def BX8_chorus_14 (σ : sn_S) (x1 : Int32) (x2 : Int32) : Option ((Int32 × Int32) ⊕ (Int32)) :=
  (if (sn_I σ 48 0) ≤ x2 then
  (some (.inr (x1)))
  else
  (sn_gd (sn_in x2 30) ((fJ6_bitCount_0f7a4 (sn_I σ (48 + 9) x2.toNatClampNeg)).bind fun t_3 => (sn_lt (if x1 < t_3 then t_3 else x1) fun y_5 => (sn_lt (x2 + 1) fun y_7 => (some (.inl (y_5, y_7))))))))
def LX8_chorus_14 (σ : sn_S) (s : Int32 × Int32) : Option ((Int32 × Int32) ⊕ (Int32)) := BX8_chorus_14 σ s.1 s.2
def fX8_chorus (σ : sn_S) : Option Int32 :=
  ((fX8_isHouse σ).bind fun t_1 => (if t_1 = 0 then
  (some (-2 : Int32))
  else
  ((sn_it (LX8_chorus_14 σ) 5000 ((0 : Int32), (0 : Int32))).bind fun t_4 => (BX8_chorus_48 σ t_4))))
theorem wX8_chorus_48 (C : sn_C p s m args meth c RX8 cX8_chorus 3 (some .int) D ct ad layC) {σ : sn_S} {x1 : Int32}  {o : Int32} (hf : BX8_chorus_48 σ x1 = some o) (kr : sn_Kr p l e rmX8_chorus s m args below meth c Q D ct ad layC cX8_chorus .ireturn (true) σ [.int o]) : sn_At p l e rmX8_chorus s m args below meth c Q D ct ad layC 3 σ 48 [(1, .int x1)] [] := by
  intro H locs ls hw hl
  have hx := C.1
  have hb := C.2.1
  unfold BX8_chorus_48 at hf
  refine lv_iload_n hx hb dX8_chorus_48 rfl (lv_at hl 0 rfl) ?_
  cases hf
  exact kr _ _ _ _ hw rfl dX8_chorus_49
theorem wX8_chorus_14 (C : sn_C p s m args meth c RX8 cX8_chorus 3 (some .int) D ct ad layC) {σ : sn_S} {x1 : Int32} {x2 : Int32}  {o : (Int32 × Int32) ⊕ (Int32)} (hf : BX8_chorus_14 σ x1 x2 = some o) (kc : ∀ v, o = .inl v → sn_At p l e rmX8_chorus s m args below meth c Q D ct ad layC 3 σ 14 [(0, .ref (ad 0)), (1, .int v.1), (2, .int v.2)] []) (kx : ∀ v, o = .inr v → sn_At p l e rmX8_chorus s m args below meth c Q D ct ad layC 3 σ 48 [(1, .int v)] []) : sn_At p l e rmX8_chorus s m args below meth c Q D ct ad layC 3 σ 14 [(0, .ref (ad 0)), (1, .int x1), (2, .int x2)] [] := by
  intro H locs ls hw hl
  have hx := C.1
  have hb := C.2.1
  unfold BX8_chorus_14 at hf
  refine lv_iload_n hx hb dX8_chorus_14 rfl (lv_at hl 2 rfl) ?_
  refine lv_aload_n hx hb dX8_chorus_15 rfl (lv_at hl 0 rfl) ?_
  refine sn_getC (r := 48) C hw fd_RX8_44 layC_0 rfl dX8_chorus_16 ?_
  refine sn_getI C hw fd_RX8_153 (sn_look sn_isX0_48 (k := 0) rfl) rfl dX8_chorus_19 ?_
  refine lv_icmp_ge (tgt := 48) hx hb dX8_chorus_22 (by decide) (fun c_1 => ?_) (fun c_1 => ?_)
  · have hf := sn_if c_1 hf
    cases hf
    exact kx _ rfl _ _ _ hw (lv_sub hl [1] rfl)
  · have hf := sn_el c_1 hf
    refine lv_iload_n hx hb dX8_chorus_25 rfl (lv_at hl 1 rfl) ?_
    refine lv_aload_n hx hb dX8_chorus_26 rfl (lv_at hl 0 rfl) ?_
    refine sn_getC (r := 48) C hw fd_RX8_44 layC_0 rfl dX8_chorus_27 ?_
    refine sn_getC (r := (48 + 9)) C hw fd_RX8_147 (sn_look sn_isX0_48 (k := 0) rfl) rfl dX8_chorus_30 ?_
    refine lv_iload_n hx hb dX8_chorus_33 rfl (lv_at hl 2 rfl) ?_
    obtain ⟨g_2, hf⟩ := sn_gdE hf
    refine sn_iald C hw (sn_look sn_isX0_48 (k := 9) rfl) g_2 dX8_chorus_34 ?_
    obtain ⟨t_3, h_4, hf⟩ := sn_bd hf
    refine sn_callSi (rest := [.int x1]) C hw (ctJ6_bitCount_0f7a4 l  h_4) kl_RX8_167 rfl rfl rfl (Nat.le_of_ble_eq_true rfl) dX8_chorus_35 hl.1 (fun H locs hw => ?_)
    refine va_mmax hx hb (C.2.2.1.trans hl.1.symm) C.2.2.2.1 (C.2.2.2.2.1 _ km_RX8_156) (C.2.2.2.2.1 _ kst_maxI) (C.2.2.2.2.1 _ ki_Math) (C.2.2.2.2.1 _ kc_maxI) (Nat.le_of_ble_eq_true rfl) (Nat.le_of_ble_eq_true rfl) (Nat.zero_le _) (Nat.zero_le _) dX8_chorus_38 ?_
    obtain ⟨y_5, e_6, hf⟩ := sn_ltE hf
    refine lv_topi (fun y_5_ e_6_ => ?_)
    obtain rfl : y_5 = y_5_ := e_6.trans e_6_.symm
    refine lv_istore_n (lv' := [(1, .int y_5), (0, .ref (ad 0)), (2, .int x2)]) hx hb dX8_chorus_41 rfl hl (by decide) rfl (fun ls hl => ?_)
    obtain ⟨y_7, e_8, hf⟩ := sn_ltE hf
    refine lv_iinc (v := y_7) (lv' := [(2, .int y_7), (1, .int y_5), (0, .ref (ad 0))]) hx hb dX8_chorus_42 hl (k := 2) rfl (by rw [e_8]; rfl) (by decide) rfl (fun ls hl => ?_)
    refine lv_goto (tgt := 14) hx hb dX8_chorus_45 (by decide) ?_
    cases hf
    exact kc _ rfl _ _ _ hw (lv_sub hl [2, 1, 0] rfl)
theorem wX8_chorus_L14 (C : sn_C p s m args meth c RX8 cX8_chorus 3 (some .int) D ct ad layC) {σ : sn_S}   {z : Int32 × Int32} {t : Int32} (h : sn_it (LX8_chorus_14 σ) 5000 z = some t) (kx : ∀ v, t = v → sn_At p l e rmX8_chorus s m args below meth c Q D ct ad layC 3 σ 48 [(1, .int v)] []) : sn_At p l e rmX8_chorus s m args below meth c Q D ct ad layC 3 σ 14 [(0, .ref (ad 0)), (1, .int z.1), (2, .int z.2)] [] :=
  sn_loop (f := LX8_chorus_14 σ) (G := fun z => sn_At p l e rmX8_chorus s m args below meth c Q D ct ad layC 3 σ 14 [(0, .ref (ad 0)), (1, .int z.1), (2, .int z.2)] []) (E := fun t => (∀ v, t = v → sn_At p l e rmX8_chorus s m args below meth c Q D ct ad layC 3 σ 48 [(1, .int v)] []) ∧ True) (fun z o hf k1 k2 => wX8_chorus_14 C  hf (fun v e => k1 v e) (fun v e => (k2 _ e).1 v rfl)) 5000 z t h ⟨kx, trivial⟩
theorem wX8_chorus_in (C : sn_C p s m args meth c RX8 cX8_chorus 3 (some .int) D ct ad layC) {σ : sn_S}  {o : Int32} (hf : fX8_chorus σ = some o) (kr : sn_Kr p l e rmX8_chorus s m args below meth c Q D ct ad layC cX8_chorus .ireturn (true) σ [.int o]) : sn_At p l e rmX8_chorus s m args below meth c Q D ct ad layC 3 σ 0 [(0, .ref (ad 0))] [] := by
  intro H locs ls hw hl
  have hx := C.1
  have hb := C.2.1
  unfold fX8_chorus at hf
  refine lv_aload_n hx hb dX8_chorus_0 rfl (lv_at hl 0 rfl) ?_
  obtain ⟨t_1, h_2, hf⟩ := sn_bd hf
  refine sn_callVi (rest := []) C hw (ctX8_isHouse l  h_2) kl_RX8_139 layC_0 rfl rfl rfl rfl (Nat.le_of_ble_eq_true rfl) dX8_chorus_1 hl.1 (fun H locs hw => ?_)
  refine lv_if_ne (tgt := 10) hx hb dX8_chorus_4 (by decide) (fun c_3 => ?_) (fun c_3 => ?_)
  · have hf := sn_el c_3 hf
    refine lv_iconst (v := 0) hx hb dX8_chorus_10 rfl ?_
    refine lv_istore_n (lv' := [(1, .int (0 : Int32)), (0, .ref (ad 0))]) hx hb dX8_chorus_11 rfl hl (by decide) rfl (fun ls hl => ?_)
    refine lv_iconst (v := 0) hx hb dX8_chorus_12 rfl ?_
    refine lv_istore_n (lv' := [(2, .int (0 : Int32)), (1, .int (0 : Int32)), (0, .ref (ad 0))]) hx hb dX8_chorus_13 rfl hl (by decide) rfl (fun ls hl => ?_)
    obtain ⟨t_4, h_5, hf⟩ := sn_bd hf
    exact wX8_chorus_L14 C  h_5 (fun v e => by cases e; exact wX8_chorus_48 C  hf kr) _ _ _ hw (lv_sub hl [2, 1, 0] rfl)
  · have hf := sn_if c_3 hf
    refine lv_bipush (v := (-2)) hx hb dX8_chorus_7 (by decide) ?_
    cases hf
    exact kr _ _ _ _ hw rfl dX8_chorus_9
theorem ctX8_chorus (l : Launch) {σ : sn_S}  {o : Int32} (hf : fX8_chorus σ = some o) : sn_M l yX8_chorus cX8_chorus 3 (some .int) rmX8_chorus layC (fun ad => [.ref (ad 0)]) σ (some (fun _ => .int o)) σ :=
  sn_met (by decide) (fun _ => Nat.le_of_ble_eq_true rfl) (fun p e s m args below meth c ls D ct ad C hw hl => wX8_chorus_in C  hf (fun H locs ls pc hw ok hd => sn_iret C hw hd) _ _ _ hw hl)
-- X8_calm
abbrev rmX8_calm : Room := { frames := 1, cells := 0, slots := 0, locals := 32 }
def BX8_calm_59 (σ : sn_S) (x1 : Int32) : Option (Int32) :=
  (some x1)
def BX8_calm_46 (σ : sn_S) (x1 : Int32) (x2 : Int32) (x3 : Int32) (t0 : Int32) : Option ((Int32 × Int32 × Int32) ⊕ (Int32)) :=
  (sn_lt (if x1 < t0 then t0 else x1) fun y_1 => (sn_lt (x3 + 1) fun y_3 => (some (.inl (y_1, t0, y_3)))))
def BX8_calm_16 (σ : sn_S) (x1 : Int32) (x2 : Int32) (x3 : Int32) : Option ((Int32 × Int32 × Int32) ⊕ (Int32)) :=
  (if (sn_I σ 48 0) ≤ x3 then
  (some (.inr (x1)))
  else
  (sn_gd (sn_in x3 30) (if (sn_I σ (48 + 9) x3.toNatClampNeg) = 0 then
  (BX8_calm_46 σ x1 x2 x3 (x2 + (1 : Int32)))
  else
  (BX8_calm_46 σ x1 x2 x3 (0 : Int32)))))
def LX8_calm_16 (σ : sn_S) (s : Int32 × Int32 × Int32) : Option ((Int32 × Int32 × Int32) ⊕ (Int32)) := BX8_calm_16 σ s.1 s.2.1 s.2.2
def fX8_calm (σ : sn_S) : Option Int32 :=
  ((fX8_isHouse σ).bind fun t_1 => (if t_1 = 0 then
  (some (-2 : Int32))
  else
  ((sn_it (LX8_calm_16 σ) 5000 ((0 : Int32), (0 : Int32), (0 : Int32))).bind fun t_4 => (BX8_calm_59 σ t_4))))
theorem wX8_calm_59 (C : sn_C p s m args meth c RX8 cX8_calm 4 (some .int) D ct ad layC) {σ : sn_S} {x1 : Int32}  {o : Int32} (hf : BX8_calm_59 σ x1 = some o) (kr : sn_Kr p l e rmX8_calm s m args below meth c Q D ct ad layC cX8_calm .ireturn (true) σ [.int o]) : sn_At p l e rmX8_calm s m args below meth c Q D ct ad layC 4 σ 59 [(1, .int x1)] [] := by
  intro H locs ls hw hl
  have hx := C.1
  have hb := C.2.1
  unfold BX8_calm_59 at hf
  refine lv_iload_n hx hb dX8_calm_59 rfl (lv_at hl 0 rfl) ?_
  cases hf
  exact kr _ _ _ _ hw rfl dX8_calm_60
theorem wX8_calm_46 (C : sn_C p s m args meth c RX8 cX8_calm 4 (some .int) D ct ad layC) {σ : sn_S} {x1 : Int32} {x2 : Int32} {x3 : Int32} {t0 : Int32}  {o : (Int32 × Int32 × Int32) ⊕ (Int32)} (hf : BX8_calm_46 σ x1 x2 x3 t0 = some o) (kc : ∀ v, o = .inl v → sn_At p l e rmX8_calm s m args below meth c Q D ct ad layC 4 σ 16 [(0, .ref (ad 0)), (1, .int v.1), (2, .int v.2.1), (3, .int v.2.2)] []) (kx : ∀ v, o = .inr v → sn_At p l e rmX8_calm s m args below meth c Q D ct ad layC 4 σ 59 [(1, .int v)] []) : sn_At p l e rmX8_calm s m args below meth c Q D ct ad layC 4 σ 46 [(0, .ref (ad 0)), (1, .int x1), (2, .int x2), (3, .int x3)] [.int t0] := by
  intro H locs ls hw hl
  have hx := C.1
  have hb := C.2.1
  unfold BX8_calm_46 at hf
  refine lv_istore_n (lv' := [(2, .int t0), (0, .ref (ad 0)), (1, .int x1), (3, .int x3)]) hx hb dX8_calm_46 rfl hl (by decide) rfl (fun ls hl => ?_)
  refine lv_iload_n hx hb dX8_calm_47 rfl (lv_at hl 2 rfl) ?_
  refine lv_iload_n hx hb dX8_calm_48 rfl (lv_at hl 0 rfl) ?_
  refine va_mmax hx hb (C.2.2.1.trans hl.1.symm) C.2.2.2.1 (C.2.2.2.2.1 _ km_RX8_156) (C.2.2.2.2.1 _ kst_maxI) (C.2.2.2.2.1 _ ki_Math) (C.2.2.2.2.1 _ kc_maxI) (Nat.le_of_ble_eq_true rfl) (Nat.le_of_ble_eq_true rfl) (Nat.zero_le _) (Nat.zero_le _) dX8_calm_49 ?_
  obtain ⟨y_1, e_2, hf⟩ := sn_ltE hf
  refine lv_topi (fun y_1_ e_2_ => ?_)
  obtain rfl : y_1 = y_1_ := e_2.trans e_2_.symm
  refine lv_istore_n (lv' := [(1, .int y_1), (2, .int t0), (0, .ref (ad 0)), (3, .int x3)]) hx hb dX8_calm_52 rfl hl (by decide) rfl (fun ls hl => ?_)
  obtain ⟨y_3, e_4, hf⟩ := sn_ltE hf
  refine lv_iinc (v := y_3) (lv' := [(3, .int y_3), (1, .int y_1), (2, .int t0), (0, .ref (ad 0))]) hx hb dX8_calm_53 hl (k := 3) rfl (by rw [e_4]; rfl) (by decide) rfl (fun ls hl => ?_)
  refine lv_goto (tgt := 16) hx hb dX8_calm_56 (by decide) ?_
  cases hf
  exact kc _ rfl _ _ _ hw (lv_sub hl [3, 1, 2, 0] rfl)
theorem wX8_calm_16 (C : sn_C p s m args meth c RX8 cX8_calm 4 (some .int) D ct ad layC) {σ : sn_S} {x1 : Int32} {x2 : Int32} {x3 : Int32}  {o : (Int32 × Int32 × Int32) ⊕ (Int32)} (hf : BX8_calm_16 σ x1 x2 x3 = some o) (kc : ∀ v, o = .inl v → sn_At p l e rmX8_calm s m args below meth c Q D ct ad layC 4 σ 16 [(0, .ref (ad 0)), (1, .int v.1), (2, .int v.2.1), (3, .int v.2.2)] []) (kx : ∀ v, o = .inr v → sn_At p l e rmX8_calm s m args below meth c Q D ct ad layC 4 σ 59 [(1, .int v)] []) : sn_At p l e rmX8_calm s m args below meth c Q D ct ad layC 4 σ 16 [(0, .ref (ad 0)), (1, .int x1), (2, .int x2), (3, .int x3)] [] := by
  intro H locs ls hw hl
  have hx := C.1
  have hb := C.2.1
  unfold BX8_calm_16 at hf
  refine lv_iload_n hx hb dX8_calm_16 rfl (lv_at hl 3 rfl) ?_
  refine lv_aload_n hx hb dX8_calm_17 rfl (lv_at hl 0 rfl) ?_
  refine sn_getC (r := 48) C hw fd_RX8_44 layC_0 rfl dX8_calm_18 ?_
  refine sn_getI C hw fd_RX8_153 (sn_look sn_isX0_48 (k := 0) rfl) rfl dX8_calm_21 ?_
  refine lv_icmp_ge (tgt := 59) hx hb dX8_calm_24 (by decide) (fun c_1 => ?_) (fun c_1 => ?_)
  · have hf := sn_if c_1 hf
    cases hf
    exact kx _ rfl _ _ _ hw (lv_sub hl [1] rfl)
  · have hf := sn_el c_1 hf
    refine lv_aload_n hx hb dX8_calm_27 rfl (lv_at hl 0 rfl) ?_
    refine sn_getC (r := 48) C hw fd_RX8_44 layC_0 rfl dX8_calm_28 ?_
    refine sn_getC (r := (48 + 9)) C hw fd_RX8_147 (sn_look sn_isX0_48 (k := 0) rfl) rfl dX8_calm_31 ?_
    refine lv_iload_n hx hb dX8_calm_34 rfl (lv_at hl 3 rfl) ?_
    obtain ⟨g_2, hf⟩ := sn_gdE hf
    refine sn_iald C hw (sn_look sn_isX0_48 (k := 9) rfl) g_2 dX8_calm_35 ?_
    refine lv_if_ne (tgt := 45) hx hb dX8_calm_36 (by decide) (fun c_3 => ?_) (fun c_3 => ?_)
    · have hf := sn_el c_3 hf
      refine lv_iconst (v := 0) hx hb dX8_calm_45 rfl ?_
      exact wX8_calm_46 C  hf kc kx _ _ _ hw (lv_sub hl [0, 1, 2, 3] rfl)
    · have hf := sn_if c_3 hf
      refine lv_iload_n hx hb dX8_calm_39 rfl (lv_at hl 2 rfl) ?_
      refine lv_iconst (v := 1) hx hb dX8_calm_40 rfl ?_
      refine lv_iadd hx hb dX8_calm_41 ?_
      refine lv_goto (tgt := 46) hx hb dX8_calm_42 (by decide) ?_
      exact wX8_calm_46 C  hf kc kx _ _ _ hw (lv_sub hl [0, 1, 2, 3] rfl)
theorem wX8_calm_L16 (C : sn_C p s m args meth c RX8 cX8_calm 4 (some .int) D ct ad layC) {σ : sn_S}   {z : Int32 × Int32 × Int32} {t : Int32} (h : sn_it (LX8_calm_16 σ) 5000 z = some t) (kx : ∀ v, t = v → sn_At p l e rmX8_calm s m args below meth c Q D ct ad layC 4 σ 59 [(1, .int v)] []) : sn_At p l e rmX8_calm s m args below meth c Q D ct ad layC 4 σ 16 [(0, .ref (ad 0)), (1, .int z.1), (2, .int z.2.1), (3, .int z.2.2)] [] :=
  sn_loop (f := LX8_calm_16 σ) (G := fun z => sn_At p l e rmX8_calm s m args below meth c Q D ct ad layC 4 σ 16 [(0, .ref (ad 0)), (1, .int z.1), (2, .int z.2.1), (3, .int z.2.2)] []) (E := fun t => (∀ v, t = v → sn_At p l e rmX8_calm s m args below meth c Q D ct ad layC 4 σ 59 [(1, .int v)] []) ∧ True) (fun z o hf k1 k2 => wX8_calm_16 C  hf (fun v e => k1 v e) (fun v e => (k2 _ e).1 v rfl)) 5000 z t h ⟨kx, trivial⟩
theorem wX8_calm_in (C : sn_C p s m args meth c RX8 cX8_calm 4 (some .int) D ct ad layC) {σ : sn_S}  {o : Int32} (hf : fX8_calm σ = some o) (kr : sn_Kr p l e rmX8_calm s m args below meth c Q D ct ad layC cX8_calm .ireturn (true) σ [.int o]) : sn_At p l e rmX8_calm s m args below meth c Q D ct ad layC 4 σ 0 [(0, .ref (ad 0))] [] := by
  intro H locs ls hw hl
  have hx := C.1
  have hb := C.2.1
  unfold fX8_calm at hf
  refine lv_aload_n hx hb dX8_calm_0 rfl (lv_at hl 0 rfl) ?_
  obtain ⟨t_1, h_2, hf⟩ := sn_bd hf
  refine sn_callVi (rest := []) C hw (ctX8_isHouse l  h_2) kl_RX8_139 layC_0 rfl rfl rfl rfl (Nat.le_of_ble_eq_true rfl) dX8_calm_1 hl.1 (fun H locs hw => ?_)
  refine lv_if_ne (tgt := 10) hx hb dX8_calm_4 (by decide) (fun c_3 => ?_) (fun c_3 => ?_)
  · have hf := sn_el c_3 hf
    refine lv_iconst (v := 0) hx hb dX8_calm_10 rfl ?_
    refine lv_istore_n (lv' := [(1, .int (0 : Int32)), (0, .ref (ad 0))]) hx hb dX8_calm_11 rfl hl (by decide) rfl (fun ls hl => ?_)
    refine lv_iconst (v := 0) hx hb dX8_calm_12 rfl ?_
    refine lv_istore_n (lv' := [(2, .int (0 : Int32)), (1, .int (0 : Int32)), (0, .ref (ad 0))]) hx hb dX8_calm_13 rfl hl (by decide) rfl (fun ls hl => ?_)
    refine lv_iconst (v := 0) hx hb dX8_calm_14 rfl ?_
    refine lv_istore_n (lv' := [(3, .int (0 : Int32)), (2, .int (0 : Int32)), (1, .int (0 : Int32)), (0, .ref (ad 0))]) hx hb dX8_calm_15 rfl hl (by decide) rfl (fun ls hl => ?_)
    obtain ⟨t_4, h_5, hf⟩ := sn_bd hf
    exact wX8_calm_L16 C  h_5 (fun v e => by cases e; exact wX8_calm_59 C  hf kr) _ _ _ hw (lv_sub hl [3, 2, 1, 0] rfl)
  · have hf := sn_if c_3 hf
    refine lv_bipush (v := (-2)) hx hb dX8_calm_7 (by decide) ?_
    cases hf
    exact kr _ _ _ _ hw rfl dX8_calm_9
theorem ctX8_calm (l : Launch) {σ : sn_S}  {o : Int32} (hf : fX8_calm σ = some o) : sn_M l yX8_calm cX8_calm 4 (some .int) rmX8_calm layC (fun ad => [.ref (ad 0)]) σ (some (fun _ => .int o)) σ :=
  sn_met (by decide) (fun _ => Nat.le_of_ble_eq_true rfl) (fun p e s m args below meth c ls D ct ad C hw hl => wX8_calm_in C  hf (fun H locs ls pc hw ok hd => sn_iret C hw hd) _ _ _ hw hl)
-- X8_pause
abbrev rmX8_pause : Room := { frames := 1, cells := 0, slots := 0, locals := 21 }
def BX8_pause_79 (σ : sn_S) (x2 : Int32) : Option (Int32) :=
  (some x2)
def BX8_pause_73 (σ : sn_S) (x1 : Int32) (x2 : Int32) (x3 : Int32) (x4 : Int32) : Option ((Int32 × Int32 × Int32) ⊕ (Int32)) :=
  (sn_lt (x4 + 1) fun y_1 => (some (.inl (x2, x3, y_1))))
def BX8_pause_70 (σ : sn_S) (x1 : Int32) (x2 : Int32) (x3 : Int32) (x4 : Int32) : Option ((Int32 × Int32 × Int32) ⊕ (Int32)) :=
  (BX8_pause_73 σ x1 x2 x4 x4)
def BX8_pause_65 (σ : sn_S) (x1 : Int32) (x2 : Int32) (x3 : Int32) (x4 : Int32) : Option ((Int32 × Int32 × Int32) ⊕ (Int32)) :=
  (sn_lt (x4 - x3) fun y_1 => (BX8_pause_70 σ x1 y_1 x3 x4))
def BX8_pause_18 (σ : sn_S) (x1 : Int32) (x2 : Int32) (x3 : Int32) (x4 : Int32) : Option ((Int32 × Int32 × Int32) ⊕ (Int32)) :=
  (if (sn_I σ 48 0) ≤ x4 then
  (some (.inr (x2)))
  else
  (sn_gd (sn_in x1 6) ((fX8_hasBit (sn_I σ (48 + 10) x1.toNatClampNeg) x4).bind fun t_3 => (if t_3 = 0 then
  (BX8_pause_73 σ x1 x2 x3 x4)
  else
  (if x3 = (-1 : Int32) then
  (BX8_pause_70 σ x1 x2 x3 x4)
  else
  (if x2 = (-1 : Int32) then
  (BX8_pause_65 σ x1 x2 x3 x4)
  else
  (if x2 ≤ (x4 - x3) then
  (BX8_pause_70 σ x1 x2 x3 x4)
  else
  (BX8_pause_65 σ x1 x2 x3 x4))))))))
def LX8_pause_18 (σ : sn_S) (x1 : Int32) (s : Int32 × Int32 × Int32) : Option ((Int32 × Int32 × Int32) ⊕ (Int32)) := BX8_pause_18 σ x1 s.1 s.2.1 s.2.2
def fX8_pause (σ : sn_S) (x1 : Int32) : Option Int32 :=
  ((fX8_isPerson σ x1).bind fun t_1 => (if t_1 = 0 then
  (some (-2 : Int32))
  else
  ((sn_it (LX8_pause_18 σ x1) 5000 ((-1 : Int32), (-1 : Int32), (0 : Int32))).bind fun t_4 => (BX8_pause_79 σ t_4))))
theorem wX8_pause_79 (C : sn_C p s m args meth c RX8 cX8_pause 5 (some .int) D ct ad layC) {σ : sn_S} {x2 : Int32}  {o : Int32} (hf : BX8_pause_79 σ x2 = some o) (kr : sn_Kr p l e rmX8_pause s m args below meth c Q D ct ad layC cX8_pause .ireturn (true) σ [.int o]) : sn_At p l e rmX8_pause s m args below meth c Q D ct ad layC 5 σ 79 [(2, .int x2)] [] := by
  intro H locs ls hw hl
  have hx := C.1
  have hb := C.2.1
  unfold BX8_pause_79 at hf
  refine lv_iload_n hx hb dX8_pause_79 rfl (lv_at hl 0 rfl) ?_
  cases hf
  exact kr _ _ _ _ hw rfl dX8_pause_80
theorem wX8_pause_73 (C : sn_C p s m args meth c RX8 cX8_pause 5 (some .int) D ct ad layC) {σ : sn_S} {x1 : Int32} {x2 : Int32} {x3 : Int32} {x4 : Int32}  {o : (Int32 × Int32 × Int32) ⊕ (Int32)} (hf : BX8_pause_73 σ x1 x2 x3 x4 = some o) (kc : ∀ v, o = .inl v → sn_At p l e rmX8_pause s m args below meth c Q D ct ad layC 5 σ 18 [(0, .ref (ad 0)), (1, .int x1), (2, .int v.1), (3, .int v.2.1), (4, .int v.2.2)] []) (kx : ∀ v, o = .inr v → sn_At p l e rmX8_pause s m args below meth c Q D ct ad layC 5 σ 79 [(2, .int v)] []) : sn_At p l e rmX8_pause s m args below meth c Q D ct ad layC 5 σ 73 [(0, .ref (ad 0)), (1, .int x1), (2, .int x2), (3, .int x3), (4, .int x4)] [] := by
  intro H locs ls hw hl
  have hx := C.1
  have hb := C.2.1
  unfold BX8_pause_73 at hf
  obtain ⟨y_1, e_2, hf⟩ := sn_ltE hf
  refine lv_iinc (v := y_1) (lv' := [(4, .int y_1), (0, .ref (ad 0)), (1, .int x1), (2, .int x2), (3, .int x3)]) hx hb dX8_pause_73 hl (k := 4) rfl (by rw [e_2]; rfl) (by decide) rfl (fun ls hl => ?_)
  refine lv_goto (tgt := 18) hx hb dX8_pause_76 (by decide) ?_
  cases hf
  exact kc _ rfl _ _ _ hw (lv_sub hl [1, 2, 3, 4, 0] rfl)
theorem wX8_pause_70 (C : sn_C p s m args meth c RX8 cX8_pause 5 (some .int) D ct ad layC) {σ : sn_S} {x1 : Int32} {x2 : Int32} {x3 : Int32} {x4 : Int32}  {o : (Int32 × Int32 × Int32) ⊕ (Int32)} (hf : BX8_pause_70 σ x1 x2 x3 x4 = some o) (kc : ∀ v, o = .inl v → sn_At p l e rmX8_pause s m args below meth c Q D ct ad layC 5 σ 18 [(0, .ref (ad 0)), (1, .int x1), (2, .int v.1), (3, .int v.2.1), (4, .int v.2.2)] []) (kx : ∀ v, o = .inr v → sn_At p l e rmX8_pause s m args below meth c Q D ct ad layC 5 σ 79 [(2, .int v)] []) : sn_At p l e rmX8_pause s m args below meth c Q D ct ad layC 5 σ 70 [(0, .ref (ad 0)), (1, .int x1), (2, .int x2), (3, .int x3), (4, .int x4)] [] := by
  intro H locs ls hw hl
  have hx := C.1
  have hb := C.2.1
  unfold BX8_pause_70 at hf
  refine lv_iload hx hb dX8_pause_70 (lv_at hl 4 rfl) ?_
  refine lv_istore_n (lv' := [(3, .int x4), (0, .ref (ad 0)), (1, .int x1), (2, .int x2), (4, .int x4)]) hx hb dX8_pause_72 rfl hl (by decide) rfl (fun ls hl => ?_)
  exact wX8_pause_73 C  hf kc kx _ _ _ hw (lv_sub hl [1, 2, 3, 0, 4] rfl)
theorem wX8_pause_65 (C : sn_C p s m args meth c RX8 cX8_pause 5 (some .int) D ct ad layC) {σ : sn_S} {x1 : Int32} {x2 : Int32} {x3 : Int32} {x4 : Int32}  {o : (Int32 × Int32 × Int32) ⊕ (Int32)} (hf : BX8_pause_65 σ x1 x2 x3 x4 = some o) (kc : ∀ v, o = .inl v → sn_At p l e rmX8_pause s m args below meth c Q D ct ad layC 5 σ 18 [(0, .ref (ad 0)), (1, .int x1), (2, .int v.1), (3, .int v.2.1), (4, .int v.2.2)] []) (kx : ∀ v, o = .inr v → sn_At p l e rmX8_pause s m args below meth c Q D ct ad layC 5 σ 79 [(2, .int v)] []) : sn_At p l e rmX8_pause s m args below meth c Q D ct ad layC 5 σ 65 [(0, .ref (ad 0)), (1, .int x1), (2, .int x2), (3, .int x3), (4, .int x4)] [] := by
  intro H locs ls hw hl
  have hx := C.1
  have hb := C.2.1
  unfold BX8_pause_65 at hf
  refine lv_iload hx hb dX8_pause_65 (lv_at hl 4 rfl) ?_
  refine lv_iload_n hx hb dX8_pause_67 rfl (lv_at hl 3 rfl) ?_
  refine lv_isub hx hb dX8_pause_68 ?_
  obtain ⟨y_1, e_2, hf⟩ := sn_ltE hf
  refine lv_topi (fun y_1_ e_2_ => ?_)
  obtain rfl : y_1 = y_1_ := e_2.trans e_2_.symm
  refine lv_istore_n (lv' := [(2, .int y_1), (0, .ref (ad 0)), (1, .int x1), (3, .int x3), (4, .int x4)]) hx hb dX8_pause_69 rfl hl (by decide) rfl (fun ls hl => ?_)
  exact wX8_pause_70 C  hf kc kx _ _ _ hw (lv_sub hl [1, 2, 0, 3, 4] rfl)
theorem wX8_pause_18 (C : sn_C p s m args meth c RX8 cX8_pause 5 (some .int) D ct ad layC) {σ : sn_S} {x1 : Int32} {x2 : Int32} {x3 : Int32} {x4 : Int32}  {o : (Int32 × Int32 × Int32) ⊕ (Int32)} (hf : BX8_pause_18 σ x1 x2 x3 x4 = some o) (kc : ∀ v, o = .inl v → sn_At p l e rmX8_pause s m args below meth c Q D ct ad layC 5 σ 18 [(0, .ref (ad 0)), (1, .int x1), (2, .int v.1), (3, .int v.2.1), (4, .int v.2.2)] []) (kx : ∀ v, o = .inr v → sn_At p l e rmX8_pause s m args below meth c Q D ct ad layC 5 σ 79 [(2, .int v)] []) : sn_At p l e rmX8_pause s m args below meth c Q D ct ad layC 5 σ 18 [(0, .ref (ad 0)), (1, .int x1), (2, .int x2), (3, .int x3), (4, .int x4)] [] := by
  intro H locs ls hw hl
  have hx := C.1
  have hb := C.2.1
  unfold BX8_pause_18 at hf
  refine lv_iload hx hb dX8_pause_18 (lv_at hl 4 rfl) ?_
  refine lv_aload_n hx hb dX8_pause_20 rfl (lv_at hl 0 rfl) ?_
  refine sn_getC (r := 48) C hw fd_RX8_44 layC_0 rfl dX8_pause_21 ?_
  refine sn_getI C hw fd_RX8_153 (sn_look sn_isX0_48 (k := 0) rfl) rfl dX8_pause_24 ?_
  refine lv_icmp_ge (tgt := 79) hx hb dX8_pause_27 (by decide) (fun c_1 => ?_) (fun c_1 => ?_)
  · have hf := sn_if c_1 hf
    cases hf
    exact kx _ rfl _ _ _ hw (lv_sub hl [2] rfl)
  · have hf := sn_el c_1 hf
    refine lv_aload_n hx hb dX8_pause_30 rfl (lv_at hl 0 rfl) ?_
    refine sn_getC (r := 48) C hw fd_RX8_44 layC_0 rfl dX8_pause_31 ?_
    refine sn_getC (r := (48 + 10)) C hw fd_RX8_133 (sn_look sn_isX0_48 (k := 0) rfl) rfl dX8_pause_34 ?_
    refine lv_iload_n hx hb dX8_pause_37 rfl (lv_at hl 1 rfl) ?_
    obtain ⟨g_2, hf⟩ := sn_gdE hf
    refine sn_iald C hw (sn_look sn_isX0_48 (k := 10) rfl) g_2 dX8_pause_38 ?_
    refine lv_iload hx hb dX8_pause_39 (lv_at hl 4 rfl) ?_
    obtain ⟨t_3, h_4, hf⟩ := sn_bd hf
    refine sn_callSi (rest := []) C hw (ctX8_hasBit l  h_4) kl_RX8_172 rfl rfl rfl (Nat.le_of_ble_eq_true rfl) dX8_pause_41 hl.1 (fun H locs hw => ?_)
    refine lv_if_eq (tgt := 73) hx hb dX8_pause_44 (by decide) (fun c_5 => ?_) (fun c_5 => ?_)
    · have hf := sn_if c_5 hf
      exact wX8_pause_73 C  hf kc kx _ _ _ hw (lv_sub hl [0, 1, 2, 3, 4] rfl)
    · have hf := sn_el c_5 hf
      refine lv_iload_n hx hb dX8_pause_47 rfl (lv_at hl 3 rfl) ?_
      refine lv_iconst (v := (-1)) hx hb dX8_pause_48 rfl ?_
      refine lv_icmp_eq (tgt := 70) hx hb dX8_pause_49 (by decide) (fun c_6 => ?_) (fun c_6 => ?_)
      · have hf := sn_if c_6 hf
        exact wX8_pause_70 C  hf kc kx _ _ _ hw (lv_sub hl [0, 1, 2, 3, 4] rfl)
      · have hf := sn_el c_6 hf
        refine lv_iload_n hx hb dX8_pause_52 rfl (lv_at hl 2 rfl) ?_
        refine lv_iconst (v := (-1)) hx hb dX8_pause_53 rfl ?_
        refine lv_icmp_eq (tgt := 65) hx hb dX8_pause_54 (by decide) (fun c_7 => ?_) (fun c_7 => ?_)
        · have hf := sn_if c_7 hf
          exact wX8_pause_65 C  hf kc kx _ _ _ hw (lv_sub hl [0, 1, 2, 3, 4] rfl)
        · have hf := sn_el c_7 hf
          refine lv_iload hx hb dX8_pause_57 (lv_at hl 4 rfl) ?_
          refine lv_iload_n hx hb dX8_pause_59 rfl (lv_at hl 3 rfl) ?_
          refine lv_isub hx hb dX8_pause_60 ?_
          refine lv_iload_n hx hb dX8_pause_61 rfl (lv_at hl 2 rfl) ?_
          refine lv_icmp_ge (tgt := 70) hx hb dX8_pause_62 (by decide) (fun c_8 => ?_) (fun c_8 => ?_)
          · have hf := sn_if c_8 hf
            exact wX8_pause_70 C  hf kc kx _ _ _ hw (lv_sub hl [0, 1, 2, 3, 4] rfl)
          · have hf := sn_el c_8 hf
            exact wX8_pause_65 C  hf kc kx _ _ _ hw (lv_sub hl [0, 1, 2, 3, 4] rfl)
theorem wX8_pause_L18 (C : sn_C p s m args meth c RX8 cX8_pause 5 (some .int) D ct ad layC) {σ : sn_S} {x1 : Int32}   {z : Int32 × Int32 × Int32} {t : Int32} (h : sn_it (LX8_pause_18 σ x1) 5000 z = some t) (kx : ∀ v, t = v → sn_At p l e rmX8_pause s m args below meth c Q D ct ad layC 5 σ 79 [(2, .int v)] []) : sn_At p l e rmX8_pause s m args below meth c Q D ct ad layC 5 σ 18 [(0, .ref (ad 0)), (1, .int x1), (2, .int z.1), (3, .int z.2.1), (4, .int z.2.2)] [] :=
  sn_loop (f := LX8_pause_18 σ x1) (G := fun z => sn_At p l e rmX8_pause s m args below meth c Q D ct ad layC 5 σ 18 [(0, .ref (ad 0)), (1, .int x1), (2, .int z.1), (3, .int z.2.1), (4, .int z.2.2)] []) (E := fun t => (∀ v, t = v → sn_At p l e rmX8_pause s m args below meth c Q D ct ad layC 5 σ 79 [(2, .int v)] []) ∧ True) (fun z o hf k1 k2 => wX8_pause_18 C  hf (fun v e => k1 v e) (fun v e => (k2 _ e).1 v rfl)) 5000 z t h ⟨kx, trivial⟩
theorem wX8_pause_in (C : sn_C p s m args meth c RX8 cX8_pause 5 (some .int) D ct ad layC) {σ : sn_S} {x1 : Int32}  {o : Int32} (hf : fX8_pause σ x1 = some o) (kr : sn_Kr p l e rmX8_pause s m args below meth c Q D ct ad layC cX8_pause .ireturn (true) σ [.int o]) : sn_At p l e rmX8_pause s m args below meth c Q D ct ad layC 5 σ 0 [(0, .ref (ad 0)), (1, .int x1)] [] := by
  intro H locs ls hw hl
  have hx := C.1
  have hb := C.2.1
  unfold fX8_pause at hf
  refine lv_aload_n hx hb dX8_pause_0 rfl (lv_at hl 0 rfl) ?_
  refine lv_iload_n hx hb dX8_pause_1 rfl (lv_at hl 1 rfl) ?_
  obtain ⟨t_1, h_2, hf⟩ := sn_bd hf
  refine sn_callVi (rest := []) C hw (ctX8_isPerson l  h_2) kl_RX8_109 layC_0 rfl rfl rfl rfl (Nat.le_of_ble_eq_true rfl) dX8_pause_2 hl.1 (fun H locs hw => ?_)
  refine lv_if_ne (tgt := 11) hx hb dX8_pause_5 (by decide) (fun c_3 => ?_) (fun c_3 => ?_)
  · have hf := sn_el c_3 hf
    refine lv_iconst (v := (-1)) hx hb dX8_pause_11 rfl ?_
    refine lv_istore_n (lv' := [(2, .int (-1 : Int32)), (0, .ref (ad 0)), (1, .int x1)]) hx hb dX8_pause_12 rfl hl (by decide) rfl (fun ls hl => ?_)
    refine lv_iconst (v := (-1)) hx hb dX8_pause_13 rfl ?_
    refine lv_istore_n (lv' := [(3, .int (-1 : Int32)), (2, .int (-1 : Int32)), (0, .ref (ad 0)), (1, .int x1)]) hx hb dX8_pause_14 rfl hl (by decide) rfl (fun ls hl => ?_)
    refine lv_iconst (v := 0) hx hb dX8_pause_15 rfl ?_
    refine lv_istore (lv' := [(4, .int (0 : Int32)), (3, .int (-1 : Int32)), (2, .int (-1 : Int32)), (0, .ref (ad 0)), (1, .int x1)]) hx hb dX8_pause_16 hl (by decide) rfl (fun ls hl => ?_)
    obtain ⟨t_4, h_5, hf⟩ := sn_bd hf
    exact wX8_pause_L18 C  h_5 (fun v e => by cases e; exact wX8_pause_79 C  hf kr) _ _ _ hw (lv_sub hl [3, 4, 2, 1, 0] rfl)
  · have hf := sn_if c_3 hf
    refine lv_bipush (v := (-2)) hx hb dX8_pause_8 (by decide) ?_
    cases hf
    exact kr _ _ _ _ hw rfl dX8_pause_10
theorem ctX8_pause (l : Launch) {σ : sn_S} {x1 : Int32}  {o : Int32} (hf : fX8_pause σ x1 = some o) : sn_M l yX8_pause cX8_pause 5 (some .int) rmX8_pause layC (fun ad => [.ref (ad 0), .int x1]) σ (some (fun _ => .int o)) σ :=
  sn_met (by decide) (fun _ => Nat.le_of_ble_eq_true rfl) (fun p e s m args below meth c ls D ct ad C hw hl => wX8_pause_in C  hf (fun H locs ls pc hw ok hd => sn_iret C hw hd) _ _ _ hw hl)
end
