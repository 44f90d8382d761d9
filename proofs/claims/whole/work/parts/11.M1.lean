section
variable {p : Program} {l : Launch} {e : Env} {s : State} {m : MethodId} {args : Array Value} {below : List Frame} {meth : Method} {c : Code} {Q : State → Prop} {D : va_G} {ct : Nat → ClassId} {ad : Nat → Nat}
-- X9_good
abbrev rmX9_good : Room := { frames := 0, cells := 0, slots := 0, locals := 0 }
def fX9_good (σ : sn_S) : Option Int32 :=
  (if (sn_I σ 0 12) = 0 then
  (sn_gd (sn_b01 (1 : Int32)) (some (1 : Int32)))
  else
  (sn_gd (sn_b01 (0 : Int32)) (some (0 : Int32))))
theorem wX9_good_in (C : sn_C p s m args meth c RX9 cX9_good 1 (some .boolean) D ct ad layM) {σ : sn_S}  {o : Int32} (hf : fX9_good σ = some o) (kr : sn_Kr p l e rmX9_good s m args below meth c Q D ct ad layM cX9_good .ireturn (sn_b01 o) σ [.int o]) : sn_At p l e rmX9_good s m args below meth c Q D ct ad layM 1 σ 0 [(0, .ref (ad 0))] [] := by
  intro H locs ls hw hl
  have hx := C.1
  have hb := C.2.1
  unfold fX9_good at hf
  refine lv_aload_n hx hb dX9_good_0 rfl (lv_at hl 0 rfl) ?_
  refine sn_getI C hw fd_RX9_137 layM_0 rfl dX9_good_1 ?_
  refine lv_if_ne (tgt := 11) hx hb dX9_good_4 (by decide) (fun c_1 => ?_) (fun c_1 => ?_)
  · have hf := sn_el c_1 hf
    refine lv_iconst (v := 0) hx hb dX9_good_11 rfl ?_
    obtain ⟨g_2, hf⟩ := sn_gdE hf
    cases hf
    exact kr _ _ _ _ hw g_2 dX9_good_12
  · have hf := sn_if c_1 hf
    refine lv_iconst (v := 1) hx hb dX9_good_7 rfl ?_
    refine lv_goto (tgt := 12) hx hb dX9_good_8 (by decide) ?_
    obtain ⟨g_3, hf⟩ := sn_gdE hf
    cases hf
    exact kr _ _ _ _ hw g_3 dX9_good_12
theorem ctX9_good (l : Launch) {σ : sn_S}  {o : Int32} (hf : fX9_good σ = some o) : sn_M l yX9_good cX9_good 1 (some .boolean) rmX9_good layM (fun ad => [.ref (ad 0)]) σ (some (fun _ => .int o)) σ :=
  sn_met (by decide) (fun _ => Nat.le_of_ble_eq_true rfl) (fun p e s m args below meth c ls D ct ad C hw hl => wX9_good_in C  hf (fun H locs ls pc hw ok hd => sn_zret C hw ok hd) _ _ _ hw hl)
-- X9_errs
abbrev rmX9_errs : Room := { frames := 1, cells := 0, slots := 0, locals := 20 }
def fX9_errs (σ : sn_S) (x1 : Int32) : Option sn_S :=
  ((fX9_good σ).bind fun t_1 => (if t_1 = 0 then
  (some σ)
  else
  (sn_lt (sn_pI σ 0 12 x1) fun σ_4 => (sn_lt (sn_pI σ_4 0 13 (sn_I σ_4 0 9)) fun σ_6 => (some σ_6)))))
theorem wX9_errs_in (C : sn_C p s m args meth c RX9 cX9_errs 2 none D ct ad layM) {σ : sn_S} {x1 : Int32}  {o : sn_S} (hf : fX9_errs σ x1 = some o) (kr : sn_Kr p l e rmX9_errs s m args below meth c Q D ct ad layM cX9_errs .return_ (true) o []) : sn_At p l e rmX9_errs s m args below meth c Q D ct ad layM 2 σ 0 [(0, .ref (ad 0)), (1, .int x1)] [] := by
  intro H locs ls hw hl
  have hx := C.1
  have hb := C.2.1
  unfold fX9_errs at hf
  refine lv_aload_n hx hb dX9_errs_0 rfl (lv_at hl 0 rfl) ?_
  obtain ⟨t_1, h_2, hf⟩ := sn_bd hf
  refine sn_callVi (rest := []) C hw (ctX9_good l  h_2) kl_RX9_140 layM_0 rfl rfl rfl rfl (Nat.le_of_ble_eq_true rfl) dX9_errs_1 hl.1 (fun H locs hw => ?_)
  refine lv_if_ne (tgt := 8) hx hb dX9_errs_4 (by decide) (fun c_3 => ?_) (fun c_3 => ?_)
  · have hf := sn_el c_3 hf
    refine lv_aload_n hx hb dX9_errs_8 rfl (lv_at hl 0 rfl) ?_
    refine lv_iload_n hx hb dX9_errs_9 rfl (lv_at hl 1 rfl) ?_
    refine sn_putI C hw fp_RX9_137 layM_0 rfl dX9_errs_10 (fun H locs hw => ?_)
    obtain ⟨σ_4, e_5, hf⟩ := sn_ltE hf
    rw [← e_5] at hw
    refine lv_aload_n hx hb dX9_errs_13 rfl (lv_at hl 0 rfl) ?_
    refine lv_aload_n hx hb dX9_errs_14 rfl (lv_at hl 0 rfl) ?_
    refine sn_getI C hw fd_RX9_113 layM_0 rfl dX9_errs_15 ?_
    refine sn_putI C hw fp_RX9_27 layM_0 rfl dX9_errs_18 (fun H locs hw => ?_)
    obtain ⟨σ_6, e_7, hf⟩ := sn_ltE hf
    rw [← e_7] at hw
    cases hf
    exact kr _ _ _ _ hw rfl dX9_errs_21
  · have hf := sn_if c_3 hf
    cases hf
    exact kr _ _ _ _ hw rfl dX9_errs_7
theorem ctX9_errs (l : Launch) {σ : sn_S} {x1 : Int32}  {o : sn_S} (hf : fX9_errs σ x1 = some o) : sn_M l yX9_errs cX9_errs 2 none rmX9_errs layM (fun ad => [.ref (ad 0), .int x1]) σ none o :=
  sn_met (by decide) (fun _ => Nat.le_of_ble_eq_true rfl) (fun p e s m args below meth c ls D ct ad C hw hl => wX9_errs_in C  hf (fun H locs ls pc hw ok hd => sn_vret C hw hd) _ _ _ hw hl)
-- X9_number
abbrev rmX9_number : Room := { frames := 2, cells := 0, slots := 0, locals := 53 }
def BX9_number_47 (σ : sn_S) : Option ((Int32 × sn_S)) :=
  ((fX9_good σ).bind fun t_1 => (if t_1 = 0 then
  (some ((0 : Int32), σ))
  else
  (sn_lt (sn_I σ 0 11) fun y_4 => ((fX9_advance σ).bind fun t_6 => (some (y_4, t_6))))))
def BX9_number_20 (σ : sn_S) (x1 : Int32) (x2 : Int32) : Option ((Int32 × sn_S)) :=
  ((fX9_good σ).bind fun t_1 => (if t_1 = 0 then
  (BX9_number_47 σ)
  else
  ((fX9_in ((sn_I σ 0 11).toInt64) x1.toInt64 x2.toInt64).bind fun t_4 => (if t_4 = 0 then
  ((fX9_errs σ (2 : Int32)).bind fun t_7 => (BX9_number_47 t_7))
  else
  (BX9_number_47 σ)))))
def fX9_number (σ : sn_S) (x1 : Int32) (x2 : Int32) : Option (Int32 × sn_S) :=
  ((fX9_good σ).bind fun t_1 => (if t_1 = 0 then
  (BX9_number_20 σ x1 x2)
  else
  (if (sn_I σ 0 10) = (2 : Int32) then
  (BX9_number_20 σ x1 x2)
  else
  ((fX9_errs σ (1 : Int32)).bind fun t_5 => (BX9_number_20 t_5 x1 x2)))))
theorem wX9_number_47 (C : sn_C p s m args meth c RX9 cX9_number 4 (some .int) D ct ad layM) {σ : sn_S}  {o : (Int32 × sn_S)} (hf : BX9_number_47 σ = some o) (kr : sn_Kr p l e rmX9_number s m args below meth c Q D ct ad layM cX9_number .ireturn (true) o.2 [.int o.1]) : sn_At p l e rmX9_number s m args below meth c Q D ct ad layM 4 σ 47 [(0, .ref (ad 0))] [] := by
  intro H locs ls hw hl
  have hx := C.1
  have hb := C.2.1
  unfold BX9_number_47 at hf
  refine lv_aload_n hx hb dX9_number_47 rfl (lv_at hl 0 rfl) ?_
  obtain ⟨t_1, h_2, hf⟩ := sn_bd hf
  refine sn_callVi (rest := []) C hw (ctX9_good l  h_2) kl_RX9_140 layM_0 rfl rfl rfl rfl (Nat.le_of_ble_eq_true rfl) dX9_number_48 hl.1 (fun H locs hw => ?_)
  refine lv_if_ne (tgt := 56) hx hb dX9_number_51 (by decide) (fun c_3 => ?_) (fun c_3 => ?_)
  · have hf := sn_el c_3 hf
    refine lv_aload_n hx hb dX9_number_56 rfl (lv_at hl 0 rfl) ?_
    refine sn_getI C hw fd_RX9_127 layM_0 rfl dX9_number_57 ?_
    obtain ⟨y_4, e_5, hf⟩ := sn_ltE hf
    refine lv_topi (fun y_4_ e_5_ => ?_)
    obtain rfl : y_4 = y_4_ := e_5.trans e_5_.symm
    refine lv_istore_n (lv' := [(3, .int y_4), (0, .ref (ad 0))]) hx hb dX9_number_60 rfl hl (by decide) rfl (fun ls hl => ?_)
    refine lv_aload_n hx hb dX9_number_61 rfl (lv_at hl 1 rfl) ?_
    obtain ⟨t_6, h_7, hf⟩ := sn_bd hf
    refine sn_callVv (rest := []) C hw (ctX9_advance l  h_7) kl_RX9_158 layM_0 rfl rfl rfl rfl (Nat.le_of_ble_eq_true rfl) dX9_number_62 hl.1 (fun H locs hw => ?_)
    refine lv_iload_n hx hb dX9_number_65 rfl (lv_at hl 0 rfl) ?_
    cases hf
    exact kr _ _ _ _ hw rfl dX9_number_66
  · have hf := sn_if c_3 hf
    refine lv_iconst (v := 0) hx hb dX9_number_54 rfl ?_
    cases hf
    exact kr _ _ _ _ hw rfl dX9_number_55
theorem wX9_number_20 (C : sn_C p s m args meth c RX9 cX9_number 4 (some .int) D ct ad layM) {σ : sn_S} {x1 : Int32} {x2 : Int32}  {o : (Int32 × sn_S)} (hf : BX9_number_20 σ x1 x2 = some o) (kr : sn_Kr p l e rmX9_number s m args below meth c Q D ct ad layM cX9_number .ireturn (true) o.2 [.int o.1]) : sn_At p l e rmX9_number s m args below meth c Q D ct ad layM 4 σ 20 [(0, .ref (ad 0)), (1, .int x1), (2, .int x2)] [] := by
  intro H locs ls hw hl
  have hx := C.1
  have hb := C.2.1
  unfold BX9_number_20 at hf
  refine lv_aload_n hx hb dX9_number_20 rfl (lv_at hl 0 rfl) ?_
  obtain ⟨t_1, h_2, hf⟩ := sn_bd hf
  refine sn_callVi (rest := []) C hw (ctX9_good l  h_2) kl_RX9_140 layM_0 rfl rfl rfl rfl (Nat.le_of_ble_eq_true rfl) dX9_number_21 hl.1 (fun H locs hw => ?_)
  refine lv_if_eq (tgt := 47) hx hb dX9_number_24 (by decide) (fun c_3 => ?_) (fun c_3 => ?_)
  · have hf := sn_if c_3 hf
    exact wX9_number_47 C  hf kr _ _ _ hw (lv_sub hl [0] rfl)
  · have hf := sn_el c_3 hf
    refine lv_aload_n hx hb dX9_number_27 rfl (lv_at hl 0 rfl) ?_
    refine sn_getI C hw fd_RX9_127 layM_0 rfl dX9_number_28 ?_
    refine lv_i2l hx hb dX9_number_31 rfl ?_
    refine lv_iload_n hx hb dX9_number_32 rfl (lv_at hl 1 rfl) ?_
    refine lv_i2l hx hb dX9_number_33 rfl ?_
    refine lv_iload_n hx hb dX9_number_34 rfl (lv_at hl 2 rfl) ?_
    refine lv_i2l hx hb dX9_number_35 rfl ?_
    obtain ⟨t_4, h_5, hf⟩ := sn_bd hf
    refine sn_callSi (rest := []) C hw (ctX9_in l  h_5) kl_RX9_94 rfl rfl rfl (Nat.le_of_ble_eq_true rfl) dX9_number_36 hl.1 (fun H locs hw => ?_)
    refine lv_if_ne (tgt := 47) hx hb dX9_number_39 (by decide) (fun c_6 => ?_) (fun c_6 => ?_)
    · have hf := sn_el c_6 hf
      exact wX9_number_47 C  hf kr _ _ _ hw (lv_sub hl [0] rfl)
    · have hf := sn_if c_6 hf
      refine lv_aload_n hx hb dX9_number_42 rfl (lv_at hl 0 rfl) ?_
      refine lv_iconst (v := 2) hx hb dX9_number_43 rfl ?_
      obtain ⟨t_7, h_8, hf⟩ := sn_bd hf
      refine sn_callVv (rest := []) C hw (ctX9_errs l  h_8) kl_RX9_164 layM_0 rfl rfl rfl rfl (Nat.le_of_ble_eq_true rfl) dX9_number_44 hl.1 (fun H locs hw => ?_)
      exact wX9_number_47 C  hf kr _ _ _ hw (lv_sub hl [0] rfl)
theorem wX9_number_in (C : sn_C p s m args meth c RX9 cX9_number 4 (some .int) D ct ad layM) {σ : sn_S} {x1 : Int32} {x2 : Int32}  {o : (Int32 × sn_S)} (hf : fX9_number σ x1 x2 = some o) (kr : sn_Kr p l e rmX9_number s m args below meth c Q D ct ad layM cX9_number .ireturn (true) o.2 [.int o.1]) : sn_At p l e rmX9_number s m args below meth c Q D ct ad layM 4 σ 0 [(0, .ref (ad 0)), (1, .int x1), (2, .int x2)] [] := by
  intro H locs ls hw hl
  have hx := C.1
  have hb := C.2.1
  unfold fX9_number at hf
  refine lv_aload_n hx hb dX9_number_0 rfl (lv_at hl 0 rfl) ?_
  obtain ⟨t_1, h_2, hf⟩ := sn_bd hf
  refine sn_callVi (rest := []) C hw (ctX9_good l  h_2) kl_RX9_140 layM_0 rfl rfl rfl rfl (Nat.le_of_ble_eq_true rfl) dX9_number_1 hl.1 (fun H locs hw => ?_)
  refine lv_if_eq (tgt := 20) hx hb dX9_number_4 (by decide) (fun c_3 => ?_) (fun c_3 => ?_)
  · have hf := sn_if c_3 hf
    exact wX9_number_20 C  hf kr _ _ _ hw (lv_sub hl [0, 1, 2] rfl)
  · have hf := sn_el c_3 hf
    refine lv_aload_n hx hb dX9_number_7 rfl (lv_at hl 0 rfl) ?_
    refine sn_getI C hw fd_RX9_116 layM_0 rfl dX9_number_8 ?_
    refine lv_iconst (v := 2) hx hb dX9_number_11 rfl ?_
    refine lv_icmp_eq (tgt := 20) hx hb dX9_number_12 (by decide) (fun c_4 => ?_) (fun c_4 => ?_)
    · have hf := sn_if c_4 hf
      exact wX9_number_20 C  hf kr _ _ _ hw (lv_sub hl [0, 1, 2] rfl)
    · have hf := sn_el c_4 hf
      refine lv_aload_n hx hb dX9_number_15 rfl (lv_at hl 0 rfl) ?_
      refine lv_iconst (v := 1) hx hb dX9_number_16 rfl ?_
      obtain ⟨t_5, h_6, hf⟩ := sn_bd hf
      refine sn_callVv (rest := []) C hw (ctX9_errs l  h_6) kl_RX9_164 layM_0 rfl rfl rfl rfl (Nat.le_of_ble_eq_true rfl) dX9_number_17 hl.1 (fun H locs hw => ?_)
      exact wX9_number_20 C  hf kr _ _ _ hw (lv_sub hl [0, 1, 2] rfl)
theorem ctX9_number (l : Launch) {σ : sn_S} {x1 : Int32} {x2 : Int32}  {o : (Int32 × sn_S)} (hf : fX9_number σ x1 x2 = some o) : sn_M l yX9_number cX9_number 4 (some .int) rmX9_number layM (fun ad => [.ref (ad 0), .int x1, .int x2]) σ (some (fun _ => .int o.1)) o.2 :=
  sn_met (by decide) (fun _ => Nat.le_of_ble_eq_true rfl) (fun p e s m args below meth c ls D ct ad C hw hl => wX9_number_in C  hf (fun H locs ls pc hw ok hd => sn_iret C hw hd) _ _ _ hw hl)
-- X9_fault
abbrev rmX9_fault : Room := { frames := 0, cells := 0, slots := 0, locals := 0 }
def fX9_fault (σ : sn_S) (x1 : Int32) : Option Int32 :=
  (if x1 = 0 then
  (some (sn_I σ 0 12))
  else
  (if x1 = (1 : Int32) then
  (some (sn_I σ 0 13))
  else
  (some (-1 : Int32))))
theorem wX9_fault_in (C : sn_C p s m args meth c RX9 cX9_fault 2 (some .int) D ct ad layM) {σ : sn_S} {x1 : Int32}  {o : Int32} (hf : fX9_fault σ x1 = some o) (kr : sn_Kr p l e rmX9_fault s m args below meth c Q D ct ad layM cX9_fault .ireturn (true) σ [.int o]) : sn_At p l e rmX9_fault s m args below meth c Q D ct ad layM 2 σ 0 [(0, .ref (ad 0)), (1, .int x1)] [] := by
  intro H locs ls hw hl
  have hx := C.1
  have hb := C.2.1
  unfold fX9_fault at hf
  refine lv_iload_n hx hb dX9_fault_0 rfl (lv_at hl 1 rfl) ?_
  refine lv_if_ne (tgt := 11) hx hb dX9_fault_1 (by decide) (fun c_1 => ?_) (fun c_1 => ?_)
  · have hf := sn_el c_1 hf
    refine lv_iload_n hx hb dX9_fault_11 rfl (lv_at hl 1 rfl) ?_
    refine lv_iconst (v := 1) hx hb dX9_fault_12 rfl ?_
    refine lv_icmp_ne (tgt := 23) hx hb dX9_fault_13 (by decide) (fun c_2 => ?_) (fun c_2 => ?_)
    · have hf := sn_el c_2 hf
      refine lv_iconst (v := (-1)) hx hb dX9_fault_23 rfl ?_
      cases hf
      exact kr _ _ _ _ hw rfl dX9_fault_24
    · have hf := sn_if c_2 hf
      refine lv_aload_n hx hb dX9_fault_16 rfl (lv_at hl 0 rfl) ?_
      refine sn_getI C hw fd_RX9_27 layM_0 rfl dX9_fault_17 ?_
      refine lv_goto (tgt := 24) hx hb dX9_fault_20 (by decide) ?_
      cases hf
      exact kr _ _ _ _ hw rfl dX9_fault_24
  · have hf := sn_if c_1 hf
    refine lv_aload_n hx hb dX9_fault_4 rfl (lv_at hl 0 rfl) ?_
    refine sn_getI C hw fd_RX9_137 layM_0 rfl dX9_fault_5 ?_
    refine lv_goto (tgt := 24) hx hb dX9_fault_8 (by decide) ?_
    cases hf
    exact kr _ _ _ _ hw rfl dX9_fault_24
theorem ctX9_fault (l : Launch) {σ : sn_S} {x1 : Int32}  {o : Int32} (hf : fX9_fault σ x1 = some o) : sn_M l yX9_fault cX9_fault 2 (some .int) rmX9_fault layM (fun ad => [.ref (ad 0), .int x1]) σ (some (fun _ => .int o)) σ :=
  sn_met (by decide) (fun _ => Nat.le_of_ble_eq_true rfl) (fun p e s m args below meth c ls D ct ad C hw hl => wX9_fault_in C  hf (fun H locs ls pc hw ok hd => sn_iret C hw hd) _ _ _ hw hl)
-- X9_readNet
abbrev rmX9_readNet : Room := { frames := 3, cells := 0, slots := 0, locals := 76 }
def BX9_readNet_67 (σ : sn_S) (x1 : Int32) (x2 : Int32) : Option (sn_S) :=
  ((fX9_number σ (0 : Int32) x2).bind fun t_1 => (sn_gd (sn_in (x1 + (1 : Int32)) 119) (sn_lt (sn_pI t_1.2 6 (x1 + (1 : Int32)).toNatClampNeg t_1.1) fun σ_4 => (sn_gd (sn_in (7 : Int32) 119) (sn_gd (sn_in (7 : Int32) 119) (sn_lt (sn_pI σ_4 6 (7 : Int32).toNatClampNeg ((sn_I σ_4 6 (7 : Int32).toNatClampNeg) + (1 : Int32))) fun σ_8 => (some σ_8)))))))
def fX9_readNet (σ : sn_S) : Option sn_S :=
  (sn_gd (sn_in (7 : Int32) 119) (sn_lt ((33 : Int32) + ((2 : Int32) * (sn_I σ 6 (7 : Int32).toNatClampNeg))) fun y_2 => (sn_gd (sn_in (5 : Int32) 119) (sn_lt ((sn_I σ 6 (5 : Int32).toNatClampNeg) - (1 : Int32)) fun y_5 => ((fX9_number σ (0 : Int32) y_5).bind fun t_7 => (sn_gd (sn_in y_2 119) (sn_lt (sn_pI t_7.2 6 y_2.toNatClampNeg t_7.1) fun σ_10 => ((fX9_good σ_10).bind fun t_12 => (if t_12 = 0 then
  (BX9_readNet_67 σ_10 y_2 y_5)
  else
  (if (sn_I σ_10 0 10) = (2 : Int32) then
  (sn_gd (sn_in y_2 119) (if (sn_I σ_10 0 11) = (sn_I σ_10 6 y_2.toNatClampNeg) then
  ((fX9_errs σ_10 (2 : Int32)).bind fun t_18 => (BX9_readNet_67 t_18 y_2 y_5))
  else
  (BX9_readNet_67 σ_10 y_2 y_5)))
  else
  (BX9_readNet_67 σ_10 y_2 y_5)))))))))))
theorem wX9_readNet_67 (C : sn_C p s m args meth c RX9 cX9_readNet 3 none D ct ad layM) {σ : sn_S} {x1 : Int32} {x2 : Int32}  {o : sn_S} (hf : BX9_readNet_67 σ x1 x2 = some o) (kr : sn_Kr p l e rmX9_readNet s m args below meth c Q D ct ad layM cX9_readNet .return_ (true) o []) : sn_At p l e rmX9_readNet s m args below meth c Q D ct ad layM 3 σ 67 [(0, .ref (ad 0)), (1, .int x1), (2, .int x2)] [] := by
  intro H locs ls hw hl
  have hx := C.1
  have hb := C.2.1
  unfold BX9_readNet_67 at hf
  refine lv_aload_n hx hb dX9_readNet_67 rfl (lv_at hl 0 rfl) ?_
  refine sn_getC (r := 6) C hw fd_RX9_31 layM_0 rfl dX9_readNet_68 ?_
  refine lv_iload_n hx hb dX9_readNet_71 rfl (lv_at hl 1 rfl) ?_
  refine lv_iconst (v := 1) hx hb dX9_readNet_72 rfl ?_
  refine lv_iadd hx hb dX9_readNet_73 ?_
  refine lv_aload_n hx hb dX9_readNet_74 rfl (lv_at hl 0 rfl) ?_
  refine lv_iconst (v := 0) hx hb dX9_readNet_75 rfl ?_
  refine lv_iload_n hx hb dX9_readNet_76 rfl (lv_at hl 2 rfl) ?_
  obtain ⟨t_1, h_2, hf⟩ := sn_bd hf
  refine sn_callVi (rest := [.int (x1 + (1 : Int32)), .ref (ad 6)]) C hw (ctX9_number l  h_2) kl_RX9_172 layM_0 rfl rfl rfl rfl (Nat.le_of_ble_eq_true rfl) dX9_readNet_77 hl.1 (fun H locs hw => ?_)
  obtain ⟨g_3, hf⟩ := sn_gdE hf
  refine sn_iast C hw layM_6 g_3 dX9_readNet_80 (fun H locs hw => ?_)
  obtain ⟨σ_4, e_5, hf⟩ := sn_ltE hf
  rw [← e_5] at hw
  refine lv_aload_n hx hb dX9_readNet_81 rfl (lv_at hl 0 rfl) ?_
  refine sn_getC (r := 6) C hw fd_RX9_31 layM_0 rfl dX9_readNet_82 ?_
  refine lv_bipush (v := 7) hx hb dX9_readNet_85 (by decide) ?_
  refine lv_dup2_11 hx hb dX9_readNet_87 rfl rfl ?_
  obtain ⟨g_6, hf⟩ := sn_gdE hf
  refine sn_iald C hw layM_6 g_6 dX9_readNet_88 ?_
  refine lv_iconst (v := 1) hx hb dX9_readNet_89 rfl ?_
  refine lv_iadd hx hb dX9_readNet_90 ?_
  obtain ⟨g_7, hf⟩ := sn_gdE hf
  refine sn_iast C hw layM_6 g_7 dX9_readNet_91 (fun H locs hw => ?_)
  obtain ⟨σ_8, e_9, hf⟩ := sn_ltE hf
  rw [← e_9] at hw
  cases hf
  exact kr _ _ _ _ hw rfl dX9_readNet_92
theorem wX9_readNet_in (C : sn_C p s m args meth c RX9 cX9_readNet 3 none D ct ad layM) {σ : sn_S}  {o : sn_S} (hf : fX9_readNet σ = some o) (kr : sn_Kr p l e rmX9_readNet s m args below meth c Q D ct ad layM cX9_readNet .return_ (true) o []) : sn_At p l e rmX9_readNet s m args below meth c Q D ct ad layM 3 σ 0 [(0, .ref (ad 0))] [] := by
  intro H locs ls hw hl
  have hx := C.1
  have hb := C.2.1
  unfold fX9_readNet at hf
  refine lv_bipush (v := 33) hx hb dX9_readNet_0 (by decide) ?_
  refine lv_iconst (v := 2) hx hb dX9_readNet_2 rfl ?_
  refine lv_aload_n hx hb dX9_readNet_3 rfl (lv_at hl 0 rfl) ?_
  refine sn_getC (r := 6) C hw fd_RX9_31 layM_0 rfl dX9_readNet_4 ?_
  refine lv_bipush (v := 7) hx hb dX9_readNet_7 (by decide) ?_
  obtain ⟨g_1, hf⟩ := sn_gdE hf
  refine sn_iald C hw layM_6 g_1 dX9_readNet_9 ?_
  refine lv_imul hx hb dX9_readNet_10 ?_
  refine lv_iadd hx hb dX9_readNet_11 ?_
  obtain ⟨y_2, e_3, hf⟩ := sn_ltE hf
  refine lv_topi (fun y_2_ e_3_ => ?_)
  obtain rfl : y_2 = y_2_ := e_3.trans e_3_.symm
  refine lv_istore_n (lv' := [(1, .int y_2), (0, .ref (ad 0))]) hx hb dX9_readNet_12 rfl hl (by decide) rfl (fun ls hl => ?_)
  refine lv_aload_n hx hb dX9_readNet_13 rfl (lv_at hl 1 rfl) ?_
  refine sn_getC (r := 6) C hw fd_RX9_31 layM_0 rfl dX9_readNet_14 ?_
  refine lv_iconst (v := 5) hx hb dX9_readNet_17 rfl ?_
  obtain ⟨g_4, hf⟩ := sn_gdE hf
  refine sn_iald C hw layM_6 g_4 dX9_readNet_18 ?_
  refine lv_iconst (v := 1) hx hb dX9_readNet_19 rfl ?_
  refine lv_isub hx hb dX9_readNet_20 ?_
  obtain ⟨y_5, e_6, hf⟩ := sn_ltE hf
  refine lv_topi (fun y_5_ e_6_ => ?_)
  obtain rfl : y_5 = y_5_ := e_6.trans e_6_.symm
  refine lv_istore_n (lv' := [(2, .int y_5), (1, .int y_2), (0, .ref (ad 0))]) hx hb dX9_readNet_21 rfl hl (by decide) rfl (fun ls hl => ?_)
  refine lv_aload_n hx hb dX9_readNet_22 rfl (lv_at hl 2 rfl) ?_
  refine sn_getC (r := 6) C hw fd_RX9_31 layM_0 rfl dX9_readNet_23 ?_
  refine lv_iload_n hx hb dX9_readNet_26 rfl (lv_at hl 1 rfl) ?_
  refine lv_aload_n hx hb dX9_readNet_27 rfl (lv_at hl 2 rfl) ?_
  refine lv_iconst (v := 0) hx hb dX9_readNet_28 rfl ?_
  refine lv_iload_n hx hb dX9_readNet_29 rfl (lv_at hl 0 rfl) ?_
  obtain ⟨t_7, h_8, hf⟩ := sn_bd hf
  refine sn_callVi (rest := [.int y_2, .ref (ad 6)]) C hw (ctX9_number l  h_8) kl_RX9_172 layM_0 rfl rfl rfl rfl (Nat.le_of_ble_eq_true rfl) dX9_readNet_30 hl.1 (fun H locs hw => ?_)
  obtain ⟨g_9, hf⟩ := sn_gdE hf
  refine sn_iast C hw layM_6 g_9 dX9_readNet_33 (fun H locs hw => ?_)
  obtain ⟨σ_10, e_11, hf⟩ := sn_ltE hf
  rw [← e_11] at hw
  refine lv_aload_n hx hb dX9_readNet_34 rfl (lv_at hl 2 rfl) ?_
  obtain ⟨t_12, h_13, hf⟩ := sn_bd hf
  refine sn_callVi (rest := []) C hw (ctX9_good l  h_13) kl_RX9_140 layM_0 rfl rfl rfl rfl (Nat.le_of_ble_eq_true rfl) dX9_readNet_35 hl.1 (fun H locs hw => ?_)
  refine lv_if_eq (tgt := 67) hx hb dX9_readNet_38 (by decide) (fun c_14 => ?_) (fun c_14 => ?_)
  · have hf := sn_if c_14 hf
    exact wX9_readNet_67 C  hf kr _ _ _ hw (lv_sub hl [2, 1, 0] rfl)
  · have hf := sn_el c_14 hf
    refine lv_aload_n hx hb dX9_readNet_41 rfl (lv_at hl 2 rfl) ?_
    refine sn_getI C hw fd_RX9_116 layM_0 rfl dX9_readNet_42 ?_
    refine lv_iconst (v := 2) hx hb dX9_readNet_45 rfl ?_
    refine lv_icmp_ne (tgt := 67) hx hb dX9_readNet_46 (by decide) (fun c_15 => ?_) (fun c_15 => ?_)
    · have hf := sn_el c_15 hf
      exact wX9_readNet_67 C  hf kr _ _ _ hw (lv_sub hl [2, 1, 0] rfl)
    · have hf := sn_if c_15 hf
      refine lv_aload_n hx hb dX9_readNet_49 rfl (lv_at hl 2 rfl) ?_
      refine sn_getI C hw fd_RX9_127 layM_0 rfl dX9_readNet_50 ?_
      refine lv_aload_n hx hb dX9_readNet_53 rfl (lv_at hl 2 rfl) ?_
      refine sn_getC (r := 6) C hw fd_RX9_31 layM_0 rfl dX9_readNet_54 ?_
      refine lv_iload_n hx hb dX9_readNet_57 rfl (lv_at hl 1 rfl) ?_
      obtain ⟨g_16, hf⟩ := sn_gdE hf
      refine sn_iald C hw layM_6 g_16 dX9_readNet_58 ?_
      refine lv_icmp_ne (tgt := 67) hx hb dX9_readNet_59 (by decide) (fun c_17 => ?_) (fun c_17 => ?_)
      · have hf := sn_el c_17 hf
        exact wX9_readNet_67 C  hf kr _ _ _ hw (lv_sub hl [2, 1, 0] rfl)
      · have hf := sn_if c_17 hf
        refine lv_aload_n hx hb dX9_readNet_62 rfl (lv_at hl 2 rfl) ?_
        refine lv_iconst (v := 2) hx hb dX9_readNet_63 rfl ?_
        obtain ⟨t_18, h_19, hf⟩ := sn_bd hf
        refine sn_callVv (rest := []) C hw (ctX9_errs l  h_19) kl_RX9_164 layM_0 rfl rfl rfl rfl (Nat.le_of_ble_eq_true rfl) dX9_readNet_64 hl.1 (fun H locs hw => ?_)
        exact wX9_readNet_67 C  hf kr _ _ _ hw (lv_sub hl [2, 1, 0] rfl)
theorem ctX9_readNet (l : Launch) {σ : sn_S}  {o : sn_S} (hf : fX9_readNet σ = some o) : sn_M l yX9_readNet cX9_readNet 3 none rmX9_readNet layM (fun ad => [.ref (ad 0)]) σ none o :=
  sn_met (by decide) (fun _ => Nat.le_of_ble_eq_true rfl) (fun p e s m args below meth c ls D ct ad C hw hl => wX9_readNet_in C  hf (fun H locs ls pc hw ok hd => sn_vret C hw hd) _ _ _ hw hl)
-- X9_nose
abbrev rmX9_nose : Room := { frames := 2, cells := 0, slots := 0, locals := 47 }
def fX9_nose (σ : sn_S) (x1 : Int32) (x2 : Int32) : Option Int32 :=
  ((fX9_isPerson σ x1.toInt64).bind fun t_1 => (if t_1 = 0 then
  (some (-2 : Int32))
  else
  ((fX9_in x2.toInt64 (0 : Int64) (1 : Int64)).bind fun t_4 => (if t_4 = 0 then
  (some (-2 : Int32))
  else
  (sn_gd (sn_in (((11 : Int32) + ((2 : Int32) * x1)) + x2) 119) (some (sn_I σ 1 (((11 : Int32) + ((2 : Int32) * x1)) + x2).toNatClampNeg)))))))
theorem wX9_nose_in (C : sn_C p s m args meth c RX9 cX9_nose 3 (some .int) D ct ad layM) {σ : sn_S} {x1 : Int32} {x2 : Int32}  {o : Int32} (hf : fX9_nose σ x1 x2 = some o) (kr : sn_Kr p l e rmX9_nose s m args below meth c Q D ct ad layM cX9_nose .ireturn (true) σ [.int o]) : sn_At p l e rmX9_nose s m args below meth c Q D ct ad layM 3 σ 0 [(0, .ref (ad 0)), (1, .int x1), (2, .int x2)] [] := by
  intro H locs ls hw hl
  have hx := C.1
  have hb := C.2.1
  unfold fX9_nose at hf
  refine lv_aload_n hx hb dX9_nose_0 rfl (lv_at hl 0 rfl) ?_
  refine lv_iload_n hx hb dX9_nose_1 rfl (lv_at hl 1 rfl) ?_
  refine lv_i2l hx hb dX9_nose_2 rfl ?_
  obtain ⟨t_1, h_2, hf⟩ := sn_bd hf
  refine sn_callVi (rest := []) C hw (ctX9_isPerson l  h_2) kl_RX9_224 layM_0 rfl rfl rfl rfl (Nat.le_of_ble_eq_true rfl) dX9_nose_3 hl.1 (fun H locs hw => ?_)
  refine lv_if_eq (tgt := 35) hx hb dX9_nose_6 (by decide) (fun c_3 => ?_) (fun c_3 => ?_)
  · have hf := sn_if c_3 hf
    refine lv_bipush (v := (-2)) hx hb dX9_nose_35 (by decide) ?_
    cases hf
    exact kr _ _ _ _ hw rfl dX9_nose_37
  · have hf := sn_el c_3 hf
    refine lv_iload_n hx hb dX9_nose_9 rfl (lv_at hl 2 rfl) ?_
    refine lv_i2l hx hb dX9_nose_10 rfl ?_
    refine lv_lconst (v := 0) hx hb dX9_nose_11 rfl ?_
    refine lv_lconst (v := 1) hx hb dX9_nose_12 rfl ?_
    obtain ⟨t_4, h_5, hf⟩ := sn_bd hf
    refine sn_callSi (rest := []) C hw (ctX9_in l  h_5) kl_RX9_94 rfl rfl rfl (Nat.le_of_ble_eq_true rfl) dX9_nose_13 hl.1 (fun H locs hw => ?_)
    refine lv_if_eq (tgt := 35) hx hb dX9_nose_16 (by decide) (fun c_6 => ?_) (fun c_6 => ?_)
    · have hf := sn_if c_6 hf
      refine lv_bipush (v := (-2)) hx hb dX9_nose_35 (by decide) ?_
      cases hf
      exact kr _ _ _ _ hw rfl dX9_nose_37
    · have hf := sn_el c_6 hf
      refine lv_aload_n hx hb dX9_nose_19 rfl (lv_at hl 0 rfl) ?_
      refine sn_getC (r := 1) C hw fd_RX9_9 layM_0 rfl dX9_nose_20 ?_
      refine lv_bipush (v := 11) hx hb dX9_nose_23 (by decide) ?_
      refine lv_iconst (v := 2) hx hb dX9_nose_25 rfl ?_
      refine lv_iload_n hx hb dX9_nose_26 rfl (lv_at hl 1 rfl) ?_
      refine lv_imul hx hb dX9_nose_27 ?_
      refine lv_iadd hx hb dX9_nose_28 ?_
      refine lv_iload_n hx hb dX9_nose_29 rfl (lv_at hl 2 rfl) ?_
      refine lv_iadd hx hb dX9_nose_30 ?_
      obtain ⟨g_7, hf⟩ := sn_gdE hf
      refine sn_iald C hw layM_1 g_7 dX9_nose_31 ?_
      refine lv_goto (tgt := 37) hx hb dX9_nose_32 (by decide) ?_
      cases hf
      exact kr _ _ _ _ hw rfl dX9_nose_37
theorem ctX9_nose (l : Launch) {σ : sn_S} {x1 : Int32} {x2 : Int32}  {o : Int32} (hf : fX9_nose σ x1 x2 = some o) : sn_M l yX9_nose cX9_nose 3 (some .int) rmX9_nose layM (fun ad => [.ref (ad 0), .int x1, .int x2]) σ (some (fun _ => .int o)) σ :=
  sn_met (by decide) (fun _ => Nat.le_of_ble_eq_true rfl) (fun p e s m args below meth c ls D ct ad C hw hl => wX9_nose_in C  hf (fun H locs ls pc hw ok hd => sn_iret C hw hd) _ _ _ hw hl)
-- X9_policy
abbrev rmX9_policy : Room := { frames := 2, cells := 0, slots := 0, locals := 46 }
def fX9_policy (σ : sn_S) (x1 : Int32) (x2 : Int32) : Option Int32 :=
  ((fX9_isPolicy σ x1).bind fun t_1 => (if t_1 = 0 then
  (some (-2 : Int32))
  else
  ((fX9_in x2.toInt64 (0 : Int64) (4 : Int64)).bind fun t_4 => (if t_4 = 0 then
  (some (-2 : Int32))
  else
  ((fX9_of σ x1 x2).bind fun t_7 => (some t_7))))))
theorem wX9_policy_in (C : sn_C p s m args meth c RX9 cX9_policy 3 (some .int) D ct ad layM) {σ : sn_S} {x1 : Int32} {x2 : Int32}  {o : Int32} (hf : fX9_policy σ x1 x2 = some o) (kr : sn_Kr p l e rmX9_policy s m args below meth c Q D ct ad layM cX9_policy .ireturn (true) σ [.int o]) : sn_At p l e rmX9_policy s m args below meth c Q D ct ad layM 3 σ 0 [(0, .ref (ad 0)), (1, .int x1), (2, .int x2)] [] := by
  intro H locs ls hw hl
  have hx := C.1
  have hb := C.2.1
  unfold fX9_policy at hf
  refine lv_aload_n hx hb dX9_policy_0 rfl (lv_at hl 0 rfl) ?_
  refine lv_iload_n hx hb dX9_policy_1 rfl (lv_at hl 1 rfl) ?_
  obtain ⟨t_1, h_2, hf⟩ := sn_bd hf
  refine sn_callVi (rest := []) C hw (ctX9_isPolicy l  h_2) kl_RX9_228 layM_0 rfl rfl rfl rfl (Nat.le_of_ble_eq_true rfl) dX9_policy_2 hl.1 (fun H locs hw => ?_)
  refine lv_if_eq (tgt := 29) hx hb dX9_policy_5 (by decide) (fun c_3 => ?_) (fun c_3 => ?_)
  · have hf := sn_if c_3 hf
    refine lv_bipush (v := (-2)) hx hb dX9_policy_29 (by decide) ?_
    cases hf
    exact kr _ _ _ _ hw rfl dX9_policy_31
  · have hf := sn_el c_3 hf
    refine lv_iload_n hx hb dX9_policy_8 rfl (lv_at hl 2 rfl) ?_
    refine lv_i2l hx hb dX9_policy_9 rfl ?_
    refine lv_lconst (v := 0) hx hb dX9_policy_10 rfl ?_
    refine lv_ldc2 hx hb C.2.2.2.1 (C.2.2.2.2.1 _ kk_RX9_232) dX9_policy_11 ?_
    obtain ⟨t_4, h_5, hf⟩ := sn_bd hf
    refine sn_callSi (rest := []) C hw (ctX9_in l  h_5) kl_RX9_94 rfl rfl rfl (Nat.le_of_ble_eq_true rfl) dX9_policy_14 hl.1 (fun H locs hw => ?_)
    refine lv_if_eq (tgt := 29) hx hb dX9_policy_17 (by decide) (fun c_6 => ?_) (fun c_6 => ?_)
    · have hf := sn_if c_6 hf
      refine lv_bipush (v := (-2)) hx hb dX9_policy_29 (by decide) ?_
      cases hf
      exact kr _ _ _ _ hw rfl dX9_policy_31
    · have hf := sn_el c_6 hf
      refine lv_aload_n hx hb dX9_policy_20 rfl (lv_at hl 0 rfl) ?_
      refine lv_iload_n hx hb dX9_policy_21 rfl (lv_at hl 1 rfl) ?_
      refine lv_iload_n hx hb dX9_policy_22 rfl (lv_at hl 2 rfl) ?_
      obtain ⟨t_7, h_8, hf⟩ := sn_bd hf
      refine sn_callVi (rest := []) C hw (ctX9_of l  h_8) kl_RX9_234 layM_0 rfl rfl rfl rfl (Nat.le_of_ble_eq_true rfl) dX9_policy_23 hl.1 (fun H locs hw => ?_)
      refine lv_goto (tgt := 31) hx hb dX9_policy_26 (by decide) ?_
      cases hf
      exact kr _ _ _ _ hw rfl dX9_policy_31
theorem ctX9_policy (l : Launch) {σ : sn_S} {x1 : Int32} {x2 : Int32}  {o : Int32} (hf : fX9_policy σ x1 x2 = some o) : sn_M l yX9_policy cX9_policy 3 (some .int) rmX9_policy layM (fun ad => [.ref (ad 0), .int x1, .int x2]) σ (some (fun _ => .int o)) σ :=
  sn_met (by decide) (fun _ => Nat.le_of_ble_eq_true rfl) (fun p e s m args below meth c ls D ct ad C hw hl => wX9_policy_in C  hf (fun H locs ls pc hw ok hd => sn_iret C hw hd) _ _ _ hw hl)
-- X9_asItIs
abbrev rmX9_asItIs : Room := { frames := 1, cells := 0, slots := 0, locals := 20 }
def BX9_asItIs_238 (σ : sn_S) : Option (sn_S) :=
  (some σ)
def BX9_asItIs_232 (σ : sn_S) (x1 : Int32) : Option ((sn_S × Int32) ⊕ (sn_S)) :=
  (sn_lt (x1 + 1) fun y_1 => (some (.inl (σ, y_1))))
def BX9_asItIs_161 (σ : sn_S) (x1 : Int32) : Option ((sn_S × Int32) ⊕ (sn_S)) :=
  (sn_gd (sn_in (9 : Int32) 119) (if (sn_I σ 1 (9 : Int32).toNatClampNeg) ≤ x1 then
  (some (.inr (σ)))
  else
  (sn_gd (sn_in ((79 : Int32) + x1) 119) (sn_lt (sn_I σ 1 ((79 : Int32) + x1).toNatClampNeg) fun y_4 => (sn_lt (y_4 / (200 : Int32)) fun y_6 => (sn_lt ((y_4 / (2 : Int32)) - (y_4 / (2 : Int32)) / (100 : Int32) * (100 : Int32)) fun y_8 => (if (y_4 - y_4 / (2 : Int32) * (2 : Int32)) = (1 : Int32) then
  (sn_gd (sn_in y_6 6) (sn_gd (sn_in y_6 6) (sn_lt (sn_pI σ 9 y_6.toNatClampNeg ((sn_I σ 9 y_6.toNatClampNeg) ||| ((1 : Int32) <<< (y_8 &&& 31)))) fun σ_17 => (BX9_asItIs_232 σ_17 x1))))
  else
  (sn_gd (sn_in y_6 6) (sn_gd (sn_in y_6 6) (sn_lt (sn_pI σ 8 y_6.toNatClampNeg ((sn_I σ 8 y_6.toNatClampNeg) ||| ((1 : Int32) <<< (y_8 &&& 31)))) fun σ_13 => (BX9_asItIs_232 σ_13 x1)))))))))))
def LX9_asItIs_161  (s : sn_S × Int32) : Option ((sn_S × Int32) ⊕ (sn_S)) := BX9_asItIs_161 s.1 s.2
def BX9_asItIs_159 (σ : sn_S) : Option (sn_S) :=
  ((sn_it (LX9_asItIs_161 ) 5000 (σ, (0 : Int32))).bind fun t_1 => (BX9_asItIs_238 t_1))
def BX9_asItIs_133 (σ : sn_S) (x1 : Int32) : Option ((sn_S × Int32) ⊕ (sn_S)) :=
  (if (6 : Int32) ≤ x1 then
  (some (.inr (σ)))
  else
  (sn_gd (sn_in x1 6) (sn_lt (sn_pI σ 8 x1.toNatClampNeg (0 : Int32)) fun σ_3 => (sn_gd (sn_in x1 6) (sn_lt (sn_pI σ_3 9 x1.toNatClampNeg (0 : Int32)) fun σ_6 => (sn_lt (x1 + 1) fun y_8 => (some (.inl (σ_6, y_8)))))))))
def LX9_asItIs_133  (s : sn_S × Int32) : Option ((sn_S × Int32) ⊕ (sn_S)) := BX9_asItIs_133 s.1 s.2
def BX9_asItIs_131 (σ : sn_S) : Option (sn_S) :=
  ((sn_it (LX9_asItIs_133 ) 5000 (σ, (0 : Int32))).bind fun t_1 => (BX9_asItIs_159 t_1))
def BX9_asItIs_68 (σ : sn_S) (x1 : Int32) : Option ((sn_S × Int32) ⊕ (sn_S)) :=
  (sn_gd (sn_in (6 : Int32) 119) (if (sn_I σ 1 (6 : Int32).toNatClampNeg) ≤ x1 then
  (some (.inr (σ)))
  else
  (sn_gd (sn_in (((23 : Int32) + ((2 : Int32) * x1)) + (1 : Int32)) 119) (sn_lt (sn_I σ 1 (((23 : Int32) + ((2 : Int32) * x1)) + (1 : Int32)).toNatClampNeg) fun y_4 => (sn_gd (sn_in y_4 30) (sn_gd (sn_in ((23 : Int32) + ((2 : Int32) * x1)) 119) (sn_gd (sn_in y_4 30) (sn_lt (sn_pI σ 7 y_4.toNatClampNeg ((sn_I σ 7 y_4.toNatClampNeg) + (sn_I σ 1 ((23 : Int32) + ((2 : Int32) * x1)).toNatClampNeg))) fun σ_9 => (sn_lt (sn_pI σ_9 0 18 ((sn_I σ_9 0 18) ||| ((1 : Int32) <<< (y_4 &&& 31)))) fun σ_11 => (sn_lt (x1 + 1) fun y_13 => (some (.inl (σ_11, y_13)))))))))))))
def LX9_asItIs_68  (s : sn_S × Int32) : Option ((sn_S × Int32) ⊕ (sn_S)) := BX9_asItIs_68 s.1 s.2
def BX9_asItIs_66 (σ : sn_S) : Option (sn_S) :=
  ((sn_it (LX9_asItIs_68 ) 5000 (σ, (0 : Int32))).bind fun t_1 => (BX9_asItIs_131 t_1))
def BX9_asItIs_42 (σ : sn_S) (x1 : Int32) : Option ((sn_S × Int32) ⊕ (sn_S)) :=
  (if (30 : Int32) ≤ x1 then
  (some (.inr (σ)))
  else
  (sn_gd (sn_in (1 : Int32) 119) (sn_gd (sn_in x1 30) (sn_lt (sn_pI σ 7 x1.toNatClampNeg (sn_I σ 1 (1 : Int32).toNatClampNeg)) fun σ_4 => (sn_lt (x1 + 1) fun y_6 => (some (.inl (σ_4, y_6))))))))
def LX9_asItIs_42  (s : sn_S × Int32) : Option ((sn_S × Int32) ⊕ (sn_S)) := BX9_asItIs_42 s.1 s.2
def fX9_asItIs (σ : sn_S) : Option sn_S :=
  (sn_lt (sn_pI σ 0 18 (0 : Int32)) fun σ_1 => (sn_lt (sn_pI σ_1 0 19 (-1 : Int32)) fun σ_3 => (sn_gd (sn_in (2 : Int32) 119) (sn_lt (sn_pI σ_3 0 20 (sn_I σ_3 1 (2 : Int32).toNatClampNeg)) fun σ_6 => (sn_gd (sn_in (3 : Int32) 119) (sn_lt (sn_pI σ_6 0 21 (sn_I σ_6 1 (3 : Int32).toNatClampNeg)) fun σ_9 => ((fX9_minutes σ_9).bind fun t_11 => (sn_lt (sn_pI σ_9 0 22 (t_11 - (1 : Int32))) fun σ_13 => ((sn_it (LX9_asItIs_42 ) 5000 (σ_13, (0 : Int32))).bind fun t_15 => (BX9_asItIs_66 t_15))))))))))
theorem wX9_asItIs_238 (C : sn_C p s m args meth c RX9 cX9_asItIs 5 none D ct ad layM) {σ : sn_S}  {o : sn_S} (hf : BX9_asItIs_238 σ = some o) (kr : sn_Kr p l e rmX9_asItIs s m args below meth c Q D ct ad layM cX9_asItIs .return_ (true) o []) : sn_At p l e rmX9_asItIs s m args below meth c Q D ct ad layM 5 σ 238 [] [] := by
  intro H locs ls hw hl
  have hx := C.1
  have hb := C.2.1
  unfold BX9_asItIs_238 at hf
  cases hf
  exact kr _ _ _ _ hw rfl dX9_asItIs_238
theorem wX9_asItIs_232 (C : sn_C p s m args meth c RX9 cX9_asItIs 5 none D ct ad layM) {σ : sn_S} {x1 : Int32}  {o : (sn_S × Int32) ⊕ (sn_S)} (hf : BX9_asItIs_232 σ x1 = some o) (kc : ∀ v, o = .inl v → sn_At p l e rmX9_asItIs s m args below meth c Q D ct ad layM 5 v.1 161 [(0, .ref (ad 0)), (1, .int v.2)] []) (kx : ∀ v, o = .inr v → sn_At p l e rmX9_asItIs s m args below meth c Q D ct ad layM 5 v 238 [] []) : sn_At p l e rmX9_asItIs s m args below meth c Q D ct ad layM 5 σ 232 [(0, .ref (ad 0)), (1, .int x1)] [] := by
  intro H locs ls hw hl
  have hx := C.1
  have hb := C.2.1
  unfold BX9_asItIs_232 at hf
  obtain ⟨y_1, e_2, hf⟩ := sn_ltE hf
  refine lv_iinc (v := y_1) (lv' := [(1, .int y_1), (0, .ref (ad 0))]) hx hb dX9_asItIs_232 hl (k := 1) rfl (by rw [e_2]; rfl) (by decide) rfl (fun ls hl => ?_)
  refine lv_goto (tgt := 161) hx hb dX9_asItIs_235 (by decide) ?_
  cases hf
  exact kc _ rfl _ _ _ hw (lv_sub hl [1, 0] rfl)
theorem wX9_asItIs_161 (C : sn_C p s m args meth c RX9 cX9_asItIs 5 none D ct ad layM) {σ : sn_S} {x1 : Int32}  {o : (sn_S × Int32) ⊕ (sn_S)} (hf : BX9_asItIs_161 σ x1 = some o) (kc : ∀ v, o = .inl v → sn_At p l e rmX9_asItIs s m args below meth c Q D ct ad layM 5 v.1 161 [(0, .ref (ad 0)), (1, .int v.2)] []) (kx : ∀ v, o = .inr v → sn_At p l e rmX9_asItIs s m args below meth c Q D ct ad layM 5 v 238 [] []) : sn_At p l e rmX9_asItIs s m args below meth c Q D ct ad layM 5 σ 161 [(0, .ref (ad 0)), (1, .int x1)] [] := by
  intro H locs ls hw hl
  have hx := C.1
  have hb := C.2.1
  unfold BX9_asItIs_161 at hf
  refine lv_iload_n hx hb dX9_asItIs_161 rfl (lv_at hl 1 rfl) ?_
  refine lv_aload_n hx hb dX9_asItIs_162 rfl (lv_at hl 0 rfl) ?_
  refine sn_getC (r := 1) C hw fd_RX9_9 layM_0 rfl dX9_asItIs_163 ?_
  refine lv_bipush (v := 9) hx hb dX9_asItIs_166 (by decide) ?_
  obtain ⟨g_1, hf⟩ := sn_gdE hf
  refine sn_iald C hw layM_1 g_1 dX9_asItIs_168 ?_
  refine lv_icmp_ge (tgt := 238) hx hb dX9_asItIs_169 (by decide) (fun c_2 => ?_) (fun c_2 => ?_)
  · have hf := sn_if c_2 hf
    cases hf
    exact kx _ rfl _ _ _ hw (lv_sub hl [] rfl)
  · have hf := sn_el c_2 hf
    refine lv_aload_n hx hb dX9_asItIs_172 rfl (lv_at hl 0 rfl) ?_
    refine sn_getC (r := 1) C hw fd_RX9_9 layM_0 rfl dX9_asItIs_173 ?_
    refine lv_bipush (v := 79) hx hb dX9_asItIs_176 (by decide) ?_
    refine lv_iload_n hx hb dX9_asItIs_178 rfl (lv_at hl 1 rfl) ?_
    refine lv_iadd hx hb dX9_asItIs_179 ?_
    obtain ⟨g_3, hf⟩ := sn_gdE hf
    refine sn_iald C hw layM_1 g_3 dX9_asItIs_180 ?_
    obtain ⟨y_4, e_5, hf⟩ := sn_ltE hf
    refine lv_topi (fun y_4_ e_5_ => ?_)
    obtain rfl : y_4 = y_4_ := e_5.trans e_5_.symm
    refine lv_istore_n (lv' := [(2, .int y_4), (0, .ref (ad 0)), (1, .int x1)]) hx hb dX9_asItIs_181 rfl hl (by decide) rfl (fun ls hl => ?_)
    refine lv_iload_n hx hb dX9_asItIs_182 rfl (lv_at hl 0 rfl) ?_
    refine lv_sipush (v := 200) hx hb dX9_asItIs_183 (by decide) ?_
    refine lv_idiv hx hb dX9_asItIs_186 (by decide) ?_
    obtain ⟨y_6, e_7, hf⟩ := sn_ltE hf
    refine lv_topi (fun y_6_ e_7_ => ?_)
    obtain rfl : y_6 = y_6_ := e_7.trans e_7_.symm
    refine lv_istore_n (lv' := [(3, .int y_6), (2, .int y_4), (0, .ref (ad 0)), (1, .int x1)]) hx hb dX9_asItIs_187 rfl hl (by decide) rfl (fun ls hl => ?_)
    refine lv_iload_n hx hb dX9_asItIs_188 rfl (lv_at hl 1 rfl) ?_
    refine lv_iconst (v := 2) hx hb dX9_asItIs_189 rfl ?_
    refine lv_idiv hx hb dX9_asItIs_190 (by decide) ?_
    refine lv_bipush (v := 100) hx hb dX9_asItIs_191 (by decide) ?_
    refine lv_irem hx hb dX9_asItIs_193 (by decide) ?_
    obtain ⟨y_8, e_9, hf⟩ := sn_ltE hf
    refine lv_topi (fun y_8_ e_9_ => ?_)
    obtain rfl : y_8 = y_8_ := e_9.trans e_9_.symm
    refine lv_istore (lv' := [(4, .int y_8), (3, .int y_6), (2, .int y_4), (0, .ref (ad 0)), (1, .int x1)]) hx hb dX9_asItIs_194 hl (by decide) rfl (fun ls hl => ?_)
    refine lv_iload_n hx hb dX9_asItIs_196 rfl (lv_at hl 2 rfl) ?_
    refine lv_iconst (v := 2) hx hb dX9_asItIs_197 rfl ?_
    refine lv_irem hx hb dX9_asItIs_198 (by decide) ?_
    refine lv_iconst (v := 1) hx hb dX9_asItIs_199 rfl ?_
    refine lv_icmp_ne (tgt := 219) hx hb dX9_asItIs_200 (by decide) (fun c_10 => ?_) (fun c_10 => ?_)
    · have hf := sn_el c_10 hf
      refine lv_aload_n hx hb dX9_asItIs_219 rfl (lv_at hl 3 rfl) ?_
      refine sn_getC (r := 8) C hw fd_RX9_37 layM_0 rfl dX9_asItIs_220 ?_
      refine lv_iload_n hx hb dX9_asItIs_223 rfl (lv_at hl 1 rfl) ?_
      refine lv_dup2_11 hx hb dX9_asItIs_224 rfl rfl ?_
      obtain ⟨g_11, hf⟩ := sn_gdE hf
      refine sn_iald C hw layM_8 g_11 dX9_asItIs_225 ?_
      refine lv_iconst (v := 1) hx hb dX9_asItIs_226 rfl ?_
      refine lv_iload hx hb dX9_asItIs_227 (lv_at hl 0 rfl) ?_
      refine lv_ishl hx hb dX9_asItIs_229 ?_
      refine lv_ior hx hb dX9_asItIs_230 ?_
      obtain ⟨g_12, hf⟩ := sn_gdE hf
      refine sn_iast C hw layM_8 g_12 dX9_asItIs_231 (fun H locs hw => ?_)
      obtain ⟨σ_13, e_14, hf⟩ := sn_ltE hf
      rw [← e_14] at hw
      exact wX9_asItIs_232 C  hf kc kx _ _ _ hw (lv_sub hl [3, 4] rfl)
    · have hf := sn_if c_10 hf
      refine lv_aload_n hx hb dX9_asItIs_203 rfl (lv_at hl 3 rfl) ?_
      refine sn_getC (r := 9) C hw fd_RX9_40 layM_0 rfl dX9_asItIs_204 ?_
      refine lv_iload_n hx hb dX9_asItIs_207 rfl (lv_at hl 1 rfl) ?_
      refine lv_dup2_11 hx hb dX9_asItIs_208 rfl rfl ?_
      obtain ⟨g_15, hf⟩ := sn_gdE hf
      refine sn_iald C hw layM_9 g_15 dX9_asItIs_209 ?_
      refine lv_iconst (v := 1) hx hb dX9_asItIs_210 rfl ?_
      refine lv_iload hx hb dX9_asItIs_211 (lv_at hl 0 rfl) ?_
      refine lv_ishl hx hb dX9_asItIs_213 ?_
      refine lv_ior hx hb dX9_asItIs_214 ?_
      obtain ⟨g_16, hf⟩ := sn_gdE hf
      refine sn_iast C hw layM_9 g_16 dX9_asItIs_215 (fun H locs hw => ?_)
      obtain ⟨σ_17, e_18, hf⟩ := sn_ltE hf
      rw [← e_18] at hw
      refine lv_goto (tgt := 232) hx hb dX9_asItIs_216 (by decide) ?_
      exact wX9_asItIs_232 C  hf kc kx _ _ _ hw (lv_sub hl [3, 4] rfl)
theorem wX9_asItIs_L161 (C : sn_C p s m args meth c RX9 cX9_asItIs 5 none D ct ad layM)    {z : sn_S × Int32} {t : sn_S} (h : sn_it (LX9_asItIs_161 ) 5000 z = some t) (kx : ∀ v, t = v → sn_At p l e rmX9_asItIs s m args below meth c Q D ct ad layM 5 v 238 [] []) : sn_At p l e rmX9_asItIs s m args below meth c Q D ct ad layM 5 z.1 161 [(0, .ref (ad 0)), (1, .int z.2)] [] :=
  sn_loop (f := LX9_asItIs_161 ) (G := fun z => sn_At p l e rmX9_asItIs s m args below meth c Q D ct ad layM 5 z.1 161 [(0, .ref (ad 0)), (1, .int z.2)] []) (E := fun t => (∀ v, t = v → sn_At p l e rmX9_asItIs s m args below meth c Q D ct ad layM 5 v 238 [] []) ∧ True) (fun z o hf k1 k2 => wX9_asItIs_161 C  hf (fun v e => k1 v e) (fun v e => (k2 _ e).1 v rfl)) 5000 z t h ⟨kx, trivial⟩
theorem wX9_asItIs_159 (C : sn_C p s m args meth c RX9 cX9_asItIs 5 none D ct ad layM) {σ : sn_S}  {o : sn_S} (hf : BX9_asItIs_159 σ = some o) (kr : sn_Kr p l e rmX9_asItIs s m args below meth c Q D ct ad layM cX9_asItIs .return_ (true) o []) : sn_At p l e rmX9_asItIs s m args below meth c Q D ct ad layM 5 σ 159 [(0, .ref (ad 0))] [] := by
  intro H locs ls hw hl
  have hx := C.1
  have hb := C.2.1
  unfold BX9_asItIs_159 at hf
  refine lv_iconst (v := 0) hx hb dX9_asItIs_159 rfl ?_
  refine lv_istore_n (lv' := [(1, .int (0 : Int32)), (0, .ref (ad 0))]) hx hb dX9_asItIs_160 rfl hl (by decide) rfl (fun ls hl => ?_)
  obtain ⟨t_1, h_2, hf⟩ := sn_bd hf
  exact wX9_asItIs_L161 C  h_2 (fun v e => by cases e; exact wX9_asItIs_238 C  hf kr) _ _ _ hw (lv_sub hl [1, 0] rfl)
theorem wX9_asItIs_133 (C : sn_C p s m args meth c RX9 cX9_asItIs 5 none D ct ad layM) {σ : sn_S} {x1 : Int32}  {o : (sn_S × Int32) ⊕ (sn_S)} (hf : BX9_asItIs_133 σ x1 = some o) (kc : ∀ v, o = .inl v → sn_At p l e rmX9_asItIs s m args below meth c Q D ct ad layM 5 v.1 133 [(0, .ref (ad 0)), (1, .int v.2)] []) (kx : ∀ v, o = .inr v → sn_At p l e rmX9_asItIs s m args below meth c Q D ct ad layM 5 v 159 [(0, .ref (ad 0))] []) : sn_At p l e rmX9_asItIs s m args below meth c Q D ct ad layM 5 σ 133 [(0, .ref (ad 0)), (1, .int x1)] [] := by
  intro H locs ls hw hl
  have hx := C.1
  have hb := C.2.1
  unfold BX9_asItIs_133 at hf
  refine lv_iload_n hx hb dX9_asItIs_133 rfl (lv_at hl 1 rfl) ?_
  refine lv_bipush (v := 6) hx hb dX9_asItIs_134 (by decide) ?_
  refine lv_icmp_ge (tgt := 159) hx hb dX9_asItIs_136 (by decide) (fun c_1 => ?_) (fun c_1 => ?_)
  · have hf := sn_if c_1 hf
    cases hf
    exact kx _ rfl _ _ _ hw (lv_sub hl [0] rfl)
  · have hf := sn_el c_1 hf
    refine lv_aload_n hx hb dX9_asItIs_139 rfl (lv_at hl 0 rfl) ?_
    refine sn_getC (r := 8) C hw fd_RX9_37 layM_0 rfl dX9_asItIs_140 ?_
    refine lv_iload_n hx hb dX9_asItIs_143 rfl (lv_at hl 1 rfl) ?_
    refine lv_iconst (v := 0) hx hb dX9_asItIs_144 rfl ?_
    obtain ⟨g_2, hf⟩ := sn_gdE hf
    refine sn_iast C hw layM_8 g_2 dX9_asItIs_145 (fun H locs hw => ?_)
    obtain ⟨σ_3, e_4, hf⟩ := sn_ltE hf
    rw [← e_4] at hw
    refine lv_aload_n hx hb dX9_asItIs_146 rfl (lv_at hl 0 rfl) ?_
    refine sn_getC (r := 9) C hw fd_RX9_40 layM_0 rfl dX9_asItIs_147 ?_
    refine lv_iload_n hx hb dX9_asItIs_150 rfl (lv_at hl 1 rfl) ?_
    refine lv_iconst (v := 0) hx hb dX9_asItIs_151 rfl ?_
    obtain ⟨g_5, hf⟩ := sn_gdE hf
    refine sn_iast C hw layM_9 g_5 dX9_asItIs_152 (fun H locs hw => ?_)
    obtain ⟨σ_6, e_7, hf⟩ := sn_ltE hf
    rw [← e_7] at hw
    obtain ⟨y_8, e_9, hf⟩ := sn_ltE hf
    refine lv_iinc (v := y_8) (lv' := [(1, .int y_8), (0, .ref (ad 0))]) hx hb dX9_asItIs_153 hl (k := 1) rfl (by rw [e_9]; rfl) (by decide) rfl (fun ls hl => ?_)
    refine lv_goto (tgt := 133) hx hb dX9_asItIs_156 (by decide) ?_
    cases hf
    exact kc _ rfl _ _ _ hw (lv_sub hl [1, 0] rfl)
theorem wX9_asItIs_L133 (C : sn_C p s m args meth c RX9 cX9_asItIs 5 none D ct ad layM)    {z : sn_S × Int32} {t : sn_S} (h : sn_it (LX9_asItIs_133 ) 5000 z = some t) (kx : ∀ v, t = v → sn_At p l e rmX9_asItIs s m args below meth c Q D ct ad layM 5 v 159 [(0, .ref (ad 0))] []) : sn_At p l e rmX9_asItIs s m args below meth c Q D ct ad layM 5 z.1 133 [(0, .ref (ad 0)), (1, .int z.2)] [] :=
  sn_loop (f := LX9_asItIs_133 ) (G := fun z => sn_At p l e rmX9_asItIs s m args below meth c Q D ct ad layM 5 z.1 133 [(0, .ref (ad 0)), (1, .int z.2)] []) (E := fun t => (∀ v, t = v → sn_At p l e rmX9_asItIs s m args below meth c Q D ct ad layM 5 v 159 [(0, .ref (ad 0))] []) ∧ True) (fun z o hf k1 k2 => wX9_asItIs_133 C  hf (fun v e => k1 v e) (fun v e => (k2 _ e).1 v rfl)) 5000 z t h ⟨kx, trivial⟩
theorem wX9_asItIs_131 (C : sn_C p s m args meth c RX9 cX9_asItIs 5 none D ct ad layM) {σ : sn_S}  {o : sn_S} (hf : BX9_asItIs_131 σ = some o) (kr : sn_Kr p l e rmX9_asItIs s m args below meth c Q D ct ad layM cX9_asItIs .return_ (true) o []) : sn_At p l e rmX9_asItIs s m args below meth c Q D ct ad layM 5 σ 131 [(0, .ref (ad 0))] [] := by
  intro H locs ls hw hl
  have hx := C.1
  have hb := C.2.1
  unfold BX9_asItIs_131 at hf
  refine lv_iconst (v := 0) hx hb dX9_asItIs_131 rfl ?_
  refine lv_istore_n (lv' := [(1, .int (0 : Int32)), (0, .ref (ad 0))]) hx hb dX9_asItIs_132 rfl hl (by decide) rfl (fun ls hl => ?_)
  obtain ⟨t_1, h_2, hf⟩ := sn_bd hf
  exact wX9_asItIs_L133 C  h_2 (fun v e => by cases e; exact wX9_asItIs_159 C  hf kr) _ _ _ hw (lv_sub hl [1, 0] rfl)
theorem wX9_asItIs_68 (C : sn_C p s m args meth c RX9 cX9_asItIs 5 none D ct ad layM) {σ : sn_S} {x1 : Int32}  {o : (sn_S × Int32) ⊕ (sn_S)} (hf : BX9_asItIs_68 σ x1 = some o) (kc : ∀ v, o = .inl v → sn_At p l e rmX9_asItIs s m args below meth c Q D ct ad layM 5 v.1 68 [(0, .ref (ad 0)), (1, .int v.2)] []) (kx : ∀ v, o = .inr v → sn_At p l e rmX9_asItIs s m args below meth c Q D ct ad layM 5 v 131 [(0, .ref (ad 0))] []) : sn_At p l e rmX9_asItIs s m args below meth c Q D ct ad layM 5 σ 68 [(0, .ref (ad 0)), (1, .int x1)] [] := by
  intro H locs ls hw hl
  have hx := C.1
  have hb := C.2.1
  unfold BX9_asItIs_68 at hf
  refine lv_iload_n hx hb dX9_asItIs_68 rfl (lv_at hl 1 rfl) ?_
  refine lv_aload_n hx hb dX9_asItIs_69 rfl (lv_at hl 0 rfl) ?_
  refine sn_getC (r := 1) C hw fd_RX9_9 layM_0 rfl dX9_asItIs_70 ?_
  refine lv_bipush (v := 6) hx hb dX9_asItIs_73 (by decide) ?_
  obtain ⟨g_1, hf⟩ := sn_gdE hf
  refine sn_iald C hw layM_1 g_1 dX9_asItIs_75 ?_
  refine lv_icmp_ge (tgt := 131) hx hb dX9_asItIs_76 (by decide) (fun c_2 => ?_) (fun c_2 => ?_)
  · have hf := sn_if c_2 hf
    cases hf
    exact kx _ rfl _ _ _ hw (lv_sub hl [0] rfl)
  · have hf := sn_el c_2 hf
    refine lv_aload_n hx hb dX9_asItIs_79 rfl (lv_at hl 0 rfl) ?_
    refine sn_getC (r := 1) C hw fd_RX9_9 layM_0 rfl dX9_asItIs_80 ?_
    refine lv_bipush (v := 23) hx hb dX9_asItIs_83 (by decide) ?_
    refine lv_iconst (v := 2) hx hb dX9_asItIs_85 rfl ?_
    refine lv_iload_n hx hb dX9_asItIs_86 rfl (lv_at hl 1 rfl) ?_
    refine lv_imul hx hb dX9_asItIs_87 ?_
    refine lv_iadd hx hb dX9_asItIs_88 ?_
    refine lv_iconst (v := 1) hx hb dX9_asItIs_89 rfl ?_
    refine lv_iadd hx hb dX9_asItIs_90 ?_
    obtain ⟨g_3, hf⟩ := sn_gdE hf
    refine sn_iald C hw layM_1 g_3 dX9_asItIs_91 ?_
    obtain ⟨y_4, e_5, hf⟩ := sn_ltE hf
    refine lv_topi (fun y_4_ e_5_ => ?_)
    obtain rfl : y_4 = y_4_ := e_5.trans e_5_.symm
    refine lv_istore_n (lv' := [(2, .int y_4), (0, .ref (ad 0)), (1, .int x1)]) hx hb dX9_asItIs_92 rfl hl (by decide) rfl (fun ls hl => ?_)
    refine lv_aload_n hx hb dX9_asItIs_93 rfl (lv_at hl 1 rfl) ?_
    refine sn_getC (r := 7) C hw fd_RX9_34 layM_0 rfl dX9_asItIs_94 ?_
    refine lv_iload_n hx hb dX9_asItIs_97 rfl (lv_at hl 0 rfl) ?_
    refine lv_dup2_11 hx hb dX9_asItIs_98 rfl rfl ?_
    obtain ⟨g_6, hf⟩ := sn_gdE hf
    refine sn_iald C hw layM_7 g_6 dX9_asItIs_99 ?_
    refine lv_aload_n hx hb dX9_asItIs_100 rfl (lv_at hl 1 rfl) ?_
    refine sn_getC (r := 1) C hw fd_RX9_9 layM_0 rfl dX9_asItIs_101 ?_
    refine lv_bipush (v := 23) hx hb dX9_asItIs_104 (by decide) ?_
    refine lv_iconst (v := 2) hx hb dX9_asItIs_106 rfl ?_
    refine lv_iload_n hx hb dX9_asItIs_107 rfl (lv_at hl 2 rfl) ?_
    refine lv_imul hx hb dX9_asItIs_108 ?_
    refine lv_iadd hx hb dX9_asItIs_109 ?_
    obtain ⟨g_7, hf⟩ := sn_gdE hf
    refine sn_iald C hw layM_1 g_7 dX9_asItIs_110 ?_
    refine lv_iadd hx hb dX9_asItIs_111 ?_
    obtain ⟨g_8, hf⟩ := sn_gdE hf
    refine sn_iast C hw layM_7 g_8 dX9_asItIs_112 (fun H locs hw => ?_)
    obtain ⟨σ_9, e_10, hf⟩ := sn_ltE hf
    rw [← e_10] at hw
    refine lv_aload_n hx hb dX9_asItIs_113 rfl (lv_at hl 1 rfl) ?_
    refine lv_dup hx hb dX9_asItIs_114 rfl ?_
    refine sn_getI C hw fd_RX9_237 layM_0 rfl dX9_asItIs_115 ?_
    refine lv_iconst (v := 1) hx hb dX9_asItIs_118 rfl ?_
    refine lv_iload_n hx hb dX9_asItIs_119 rfl (lv_at hl 0 rfl) ?_
    refine lv_ishl hx hb dX9_asItIs_120 ?_
    refine lv_ior hx hb dX9_asItIs_121 ?_
    refine sn_putI C hw fp_RX9_237 layM_0 rfl dX9_asItIs_122 (fun H locs hw => ?_)
    obtain ⟨σ_11, e_12, hf⟩ := sn_ltE hf
    rw [← e_12] at hw
    obtain ⟨y_13, e_14, hf⟩ := sn_ltE hf
    refine lv_iinc (v := y_13) (lv' := [(1, .int y_13), (2, .int y_4), (0, .ref (ad 0))]) hx hb dX9_asItIs_125 hl (k := 2) rfl (by rw [e_14]; rfl) (by decide) rfl (fun ls hl => ?_)
    refine lv_goto (tgt := 68) hx hb dX9_asItIs_128 (by decide) ?_
    cases hf
    exact kc _ rfl _ _ _ hw (lv_sub hl [2, 0] rfl)
theorem wX9_asItIs_L68 (C : sn_C p s m args meth c RX9 cX9_asItIs 5 none D ct ad layM)    {z : sn_S × Int32} {t : sn_S} (h : sn_it (LX9_asItIs_68 ) 5000 z = some t) (kx : ∀ v, t = v → sn_At p l e rmX9_asItIs s m args below meth c Q D ct ad layM 5 v 131 [(0, .ref (ad 0))] []) : sn_At p l e rmX9_asItIs s m args below meth c Q D ct ad layM 5 z.1 68 [(0, .ref (ad 0)), (1, .int z.2)] [] :=
  sn_loop (f := LX9_asItIs_68 ) (G := fun z => sn_At p l e rmX9_asItIs s m args below meth c Q D ct ad layM 5 z.1 68 [(0, .ref (ad 0)), (1, .int z.2)] []) (E := fun t => (∀ v, t = v → sn_At p l e rmX9_asItIs s m args below meth c Q D ct ad layM 5 v 131 [(0, .ref (ad 0))] []) ∧ True) (fun z o hf k1 k2 => wX9_asItIs_68 C  hf (fun v e => k1 v e) (fun v e => (k2 _ e).1 v rfl)) 5000 z t h ⟨kx, trivial⟩
theorem wX9_asItIs_66 (C : sn_C p s m args meth c RX9 cX9_asItIs 5 none D ct ad layM) {σ : sn_S}  {o : sn_S} (hf : BX9_asItIs_66 σ = some o) (kr : sn_Kr p l e rmX9_asItIs s m args below meth c Q D ct ad layM cX9_asItIs .return_ (true) o []) : sn_At p l e rmX9_asItIs s m args below meth c Q D ct ad layM 5 σ 66 [(0, .ref (ad 0))] [] := by
  intro H locs ls hw hl
  have hx := C.1
  have hb := C.2.1
  unfold BX9_asItIs_66 at hf
  refine lv_iconst (v := 0) hx hb dX9_asItIs_66 rfl ?_
  refine lv_istore_n (lv' := [(1, .int (0 : Int32)), (0, .ref (ad 0))]) hx hb dX9_asItIs_67 rfl hl (by decide) rfl (fun ls hl => ?_)
  obtain ⟨t_1, h_2, hf⟩ := sn_bd hf
  exact wX9_asItIs_L68 C  h_2 (fun v e => by cases e; exact wX9_asItIs_131 C  hf kr) _ _ _ hw (lv_sub hl [1, 0] rfl)
theorem wX9_asItIs_42 (C : sn_C p s m args meth c RX9 cX9_asItIs 5 none D ct ad layM) {σ : sn_S} {x1 : Int32}  {o : (sn_S × Int32) ⊕ (sn_S)} (hf : BX9_asItIs_42 σ x1 = some o) (kc : ∀ v, o = .inl v → sn_At p l e rmX9_asItIs s m args below meth c Q D ct ad layM 5 v.1 42 [(0, .ref (ad 0)), (1, .int v.2)] []) (kx : ∀ v, o = .inr v → sn_At p l e rmX9_asItIs s m args below meth c Q D ct ad layM 5 v 66 [(0, .ref (ad 0))] []) : sn_At p l e rmX9_asItIs s m args below meth c Q D ct ad layM 5 σ 42 [(0, .ref (ad 0)), (1, .int x1)] [] := by
  intro H locs ls hw hl
  have hx := C.1
  have hb := C.2.1
  unfold BX9_asItIs_42 at hf
  refine lv_iload_n hx hb dX9_asItIs_42 rfl (lv_at hl 1 rfl) ?_
  refine lv_bipush (v := 30) hx hb dX9_asItIs_43 (by decide) ?_
  refine lv_icmp_ge (tgt := 66) hx hb dX9_asItIs_45 (by decide) (fun c_1 => ?_) (fun c_1 => ?_)
  · have hf := sn_if c_1 hf
    cases hf
    exact kx _ rfl _ _ _ hw (lv_sub hl [0] rfl)
  · have hf := sn_el c_1 hf
    refine lv_aload_n hx hb dX9_asItIs_48 rfl (lv_at hl 0 rfl) ?_
    refine sn_getC (r := 7) C hw fd_RX9_34 layM_0 rfl dX9_asItIs_49 ?_
    refine lv_iload_n hx hb dX9_asItIs_52 rfl (lv_at hl 1 rfl) ?_
    refine lv_aload_n hx hb dX9_asItIs_53 rfl (lv_at hl 0 rfl) ?_
    refine sn_getC (r := 1) C hw fd_RX9_9 layM_0 rfl dX9_asItIs_54 ?_
    refine lv_iconst (v := 1) hx hb dX9_asItIs_57 rfl ?_
    obtain ⟨g_2, hf⟩ := sn_gdE hf
    refine sn_iald C hw layM_1 g_2 dX9_asItIs_58 ?_
    obtain ⟨g_3, hf⟩ := sn_gdE hf
    refine sn_iast C hw layM_7 g_3 dX9_asItIs_59 (fun H locs hw => ?_)
    obtain ⟨σ_4, e_5, hf⟩ := sn_ltE hf
    rw [← e_5] at hw
    obtain ⟨y_6, e_7, hf⟩ := sn_ltE hf
    refine lv_iinc (v := y_6) (lv' := [(1, .int y_6), (0, .ref (ad 0))]) hx hb dX9_asItIs_60 hl (k := 1) rfl (by rw [e_7]; rfl) (by decide) rfl (fun ls hl => ?_)
    refine lv_goto (tgt := 42) hx hb dX9_asItIs_63 (by decide) ?_
    cases hf
    exact kc _ rfl _ _ _ hw (lv_sub hl [1, 0] rfl)
theorem wX9_asItIs_L42 (C : sn_C p s m args meth c RX9 cX9_asItIs 5 none D ct ad layM)    {z : sn_S × Int32} {t : sn_S} (h : sn_it (LX9_asItIs_42 ) 5000 z = some t) (kx : ∀ v, t = v → sn_At p l e rmX9_asItIs s m args below meth c Q D ct ad layM 5 v 66 [(0, .ref (ad 0))] []) : sn_At p l e rmX9_asItIs s m args below meth c Q D ct ad layM 5 z.1 42 [(0, .ref (ad 0)), (1, .int z.2)] [] :=
  sn_loop (f := LX9_asItIs_42 ) (G := fun z => sn_At p l e rmX9_asItIs s m args below meth c Q D ct ad layM 5 z.1 42 [(0, .ref (ad 0)), (1, .int z.2)] []) (E := fun t => (∀ v, t = v → sn_At p l e rmX9_asItIs s m args below meth c Q D ct ad layM 5 v 66 [(0, .ref (ad 0))] []) ∧ True) (fun z o hf k1 k2 => wX9_asItIs_42 C  hf (fun v e => k1 v e) (fun v e => (k2 _ e).1 v rfl)) 5000 z t h ⟨kx, trivial⟩
theorem wX9_asItIs_in (C : sn_C p s m args meth c RX9 cX9_asItIs 5 none D ct ad layM) {σ : sn_S}  {o : sn_S} (hf : fX9_asItIs σ = some o) (kr : sn_Kr p l e rmX9_asItIs s m args below meth c Q D ct ad layM cX9_asItIs .return_ (true) o []) : sn_At p l e rmX9_asItIs s m args below meth c Q D ct ad layM 5 σ 0 [(0, .ref (ad 0))] [] := by
  intro H locs ls hw hl
  have hx := C.1
  have hb := C.2.1
  unfold fX9_asItIs at hf
  refine lv_aload_n hx hb dX9_asItIs_0 rfl (lv_at hl 0 rfl) ?_
  refine lv_iconst (v := 0) hx hb dX9_asItIs_1 rfl ?_
  refine sn_putI C hw fp_RX9_237 layM_0 rfl dX9_asItIs_2 (fun H locs hw => ?_)
  obtain ⟨σ_1, e_2, hf⟩ := sn_ltE hf
  rw [← e_2] at hw
  refine lv_aload_n hx hb dX9_asItIs_5 rfl (lv_at hl 0 rfl) ?_
  refine lv_iconst (v := (-1)) hx hb dX9_asItIs_6 rfl ?_
  refine sn_putI C hw fp_RX9_240 layM_0 rfl dX9_asItIs_7 (fun H locs hw => ?_)
  obtain ⟨σ_3, e_4, hf⟩ := sn_ltE hf
  rw [← e_4] at hw
  refine lv_aload_n hx hb dX9_asItIs_10 rfl (lv_at hl 0 rfl) ?_
  refine lv_aload_n hx hb dX9_asItIs_11 rfl (lv_at hl 0 rfl) ?_
  refine sn_getC (r := 1) C hw fd_RX9_9 layM_0 rfl dX9_asItIs_12 ?_
  refine lv_iconst (v := 2) hx hb dX9_asItIs_15 rfl ?_
  obtain ⟨g_5, hf⟩ := sn_gdE hf
  refine sn_iald C hw layM_1 g_5 dX9_asItIs_16 ?_
  refine sn_putI C hw fp_RX9_243 layM_0 rfl dX9_asItIs_17 (fun H locs hw => ?_)
  obtain ⟨σ_6, e_7, hf⟩ := sn_ltE hf
  rw [← e_7] at hw
  refine lv_aload_n hx hb dX9_asItIs_20 rfl (lv_at hl 0 rfl) ?_
  refine lv_aload_n hx hb dX9_asItIs_21 rfl (lv_at hl 0 rfl) ?_
  refine sn_getC (r := 1) C hw fd_RX9_9 layM_0 rfl dX9_asItIs_22 ?_
  refine lv_iconst (v := 3) hx hb dX9_asItIs_25 rfl ?_
  obtain ⟨g_8, hf⟩ := sn_gdE hf
  refine sn_iald C hw layM_1 g_8 dX9_asItIs_26 ?_
  refine sn_putI C hw fp_RX9_246 layM_0 rfl dX9_asItIs_27 (fun H locs hw => ?_)
  obtain ⟨σ_9, e_10, hf⟩ := sn_ltE hf
  rw [← e_10] at hw
  refine lv_aload_n hx hb dX9_asItIs_30 rfl (lv_at hl 0 rfl) ?_
  refine lv_aload_n hx hb dX9_asItIs_31 rfl (lv_at hl 0 rfl) ?_
  obtain ⟨t_11, h_12, hf⟩ := sn_bd hf
  refine sn_callVi (rest := [.ref (ad 0)]) C hw (ctX9_minutes l  h_12) kl_RX9_249 layM_0 rfl rfl rfl rfl (Nat.le_of_ble_eq_true rfl) dX9_asItIs_32 hl.1 (fun H locs hw => ?_)
  refine lv_iconst (v := 1) hx hb dX9_asItIs_35 rfl ?_
  refine lv_isub hx hb dX9_asItIs_36 ?_
  refine sn_putI C hw fp_RX9_251 layM_0 rfl dX9_asItIs_37 (fun H locs hw => ?_)
  obtain ⟨σ_13, e_14, hf⟩ := sn_ltE hf
  rw [← e_14] at hw
  refine lv_iconst (v := 0) hx hb dX9_asItIs_40 rfl ?_
  refine lv_istore_n (lv' := [(1, .int (0 : Int32)), (0, .ref (ad 0))]) hx hb dX9_asItIs_41 rfl hl (by decide) rfl (fun ls hl => ?_)
  obtain ⟨t_15, h_16, hf⟩ := sn_bd hf
  exact wX9_asItIs_L42 C  h_16 (fun v e => by cases e; exact wX9_asItIs_66 C  hf kr) _ _ _ hw (lv_sub hl [1, 0] rfl)
theorem ctX9_asItIs (l : Launch) {σ : sn_S}  {o : sn_S} (hf : fX9_asItIs σ = some o) : sn_M l yX9_asItIs cX9_asItIs 5 none rmX9_asItIs layM (fun ad => [.ref (ad 0)]) σ none o :=
  sn_met (by decide) (fun _ => Nat.le_of_ble_eq_true rfl) (fun p e s m args below meth c ls D ct ad C hw hl => wX9_asItIs_in C  hf (fun H locs ls pc hw ok hd => sn_vret C hw hd) _ _ _ hw hl)
-- X9_netsTo
abbrev rmX9_netsTo : Room := { frames := 1, cells := 0, slots := 0, locals := 21 }
def BX9_netsTo_97 (σ : sn_S) (x3 : Int32) : Option (Int32) :=
  (some x3)
def BX9_netsTo_91 (σ : sn_S) (x1 : Int32) (x2 : Int32) (x3 : Int32) (x4 : Int32) : Option ((Int32 × Int32) ⊕ (Int32)) :=
  (sn_lt (x4 + 1) fun y_1 => (some (.inl (x3, y_1))))
def BX9_netsTo_88 (σ : sn_S) (x1 : Int32) (x2 : Int32) (x3 : Int32) (x4 : Int32) : Option ((Int32 × Int32) ⊕ (Int32)) :=
  (sn_lt (x3 + 1) fun y_1 => (BX9_netsTo_91 σ x1 x2 y_1 x4))
def BX9_netsTo_72 (σ : sn_S) (x1 : Int32) (x2 : Int32) (x3 : Int32) (x4 : Int32) (x5 : Int32) (x6 : Int32) : Option ((Int32 × Int32) ⊕ (Int32)) :=
  (if x6 = x1 then
  ((fX9_bit x2 x5).bind fun t_2 => (if t_2 = (1 : Int32) then
  (BX9_netsTo_88 σ x1 x2 x3 x4)
  else
  (BX9_netsTo_91 σ x1 x2 x3 x4)))
  else
  (BX9_netsTo_91 σ x1 x2 x3 x4))
def BX9_netsTo_5 (σ : sn_S) (x1 : Int32) (x2 : Int32) (x3 : Int32) (x4 : Int32) : Option ((Int32 × Int32) ⊕ (Int32)) :=
  (sn_gd (sn_in (7 : Int32) 119) (if (sn_I σ 1 (7 : Int32).toNatClampNeg) ≤ x4 then
  (some (.inr (x3)))
  else
  (sn_gd (sn_in ((33 : Int32) + ((2 : Int32) * x4)) 119) (sn_lt (sn_I σ 1 ((33 : Int32) + ((2 : Int32) * x4)).toNatClampNeg) fun y_4 => (sn_gd (sn_in (((33 : Int32) + ((2 : Int32) * x4)) + (1 : Int32)) 119) (sn_lt (sn_I σ 1 (((33 : Int32) + ((2 : Int32) * x4)) + (1 : Int32)).toNatClampNeg) fun y_7 => (if x4 = (sn_I σ 0 19) then
  (BX9_netsTo_91 σ x1 x2 x3 x4)
  else
  (if y_4 = x1 then
  ((fX9_bit x2 y_7).bind fun t_11 => (if t_11 = (1 : Int32) then
  (BX9_netsTo_88 σ x1 x2 x3 x4)
  else
  (BX9_netsTo_72 σ x1 x2 x3 x4 y_4 y_7)))
  else
  (BX9_netsTo_72 σ x1 x2 x3 x4 y_4 y_7)))))))))
def LX9_netsTo_5 (σ : sn_S) (x1 : Int32) (x2 : Int32) (s : Int32 × Int32) : Option ((Int32 × Int32) ⊕ (Int32)) := BX9_netsTo_5 σ x1 x2 s.1 s.2
def fX9_netsTo (σ : sn_S) (x1 : Int32) (x2 : Int32) : Option Int32 :=
  ((sn_it (LX9_netsTo_5 σ x1 x2) 5000 ((0 : Int32), (0 : Int32))).bind fun t_1 => (BX9_netsTo_97 σ t_1))
theorem wX9_netsTo_97 (C : sn_C p s m args meth c RX9 cX9_netsTo 7 (some .int) D ct ad layM) {σ : sn_S} {x3 : Int32}  {o : Int32} (hf : BX9_netsTo_97 σ x3 = some o) (kr : sn_Kr p l e rmX9_netsTo s m args below meth c Q D ct ad layM cX9_netsTo .ireturn (true) σ [.int o]) : sn_At p l e rmX9_netsTo s m args below meth c Q D ct ad layM 7 σ 97 [(3, .int x3)] [] := by
  intro H locs ls hw hl
  have hx := C.1
  have hb := C.2.1
  unfold BX9_netsTo_97 at hf
  refine lv_iload_n hx hb dX9_netsTo_97 rfl (lv_at hl 0 rfl) ?_
  cases hf
  exact kr _ _ _ _ hw rfl dX9_netsTo_98
theorem wX9_netsTo_91 (C : sn_C p s m args meth c RX9 cX9_netsTo 7 (some .int) D ct ad layM) {σ : sn_S} {x1 : Int32} {x2 : Int32} {x3 : Int32} {x4 : Int32}  {o : (Int32 × Int32) ⊕ (Int32)} (hf : BX9_netsTo_91 σ x1 x2 x3 x4 = some o) (kc : ∀ v, o = .inl v → sn_At p l e rmX9_netsTo s m args below meth c Q D ct ad layM 7 σ 5 [(0, .ref (ad 0)), (1, .int x1), (2, .int x2), (3, .int v.1), (4, .int v.2)] []) (kx : ∀ v, o = .inr v → sn_At p l e rmX9_netsTo s m args below meth c Q D ct ad layM 7 σ 97 [(3, .int v)] []) : sn_At p l e rmX9_netsTo s m args below meth c Q D ct ad layM 7 σ 91 [(0, .ref (ad 0)), (1, .int x1), (2, .int x2), (3, .int x3), (4, .int x4)] [] := by
  intro H locs ls hw hl
  have hx := C.1
  have hb := C.2.1
  unfold BX9_netsTo_91 at hf
  obtain ⟨y_1, e_2, hf⟩ := sn_ltE hf
  refine lv_iinc (v := y_1) (lv' := [(4, .int y_1), (0, .ref (ad 0)), (1, .int x1), (2, .int x2), (3, .int x3)]) hx hb dX9_netsTo_91 hl (k := 4) rfl (by rw [e_2]; rfl) (by decide) rfl (fun ls hl => ?_)
  refine lv_goto (tgt := 5) hx hb dX9_netsTo_94 (by decide) ?_
  cases hf
  exact kc _ rfl _ _ _ hw (lv_sub hl [1, 2, 3, 4, 0] rfl)
theorem wX9_netsTo_88 (C : sn_C p s m args meth c RX9 cX9_netsTo 7 (some .int) D ct ad layM) {σ : sn_S} {x1 : Int32} {x2 : Int32} {x3 : Int32} {x4 : Int32}  {o : (Int32 × Int32) ⊕ (Int32)} (hf : BX9_netsTo_88 σ x1 x2 x3 x4 = some o) (kc : ∀ v, o = .inl v → sn_At p l e rmX9_netsTo s m args below meth c Q D ct ad layM 7 σ 5 [(0, .ref (ad 0)), (1, .int x1), (2, .int x2), (3, .int v.1), (4, .int v.2)] []) (kx : ∀ v, o = .inr v → sn_At p l e rmX9_netsTo s m args below meth c Q D ct ad layM 7 σ 97 [(3, .int v)] []) : sn_At p l e rmX9_netsTo s m args below meth c Q D ct ad layM 7 σ 88 [(0, .ref (ad 0)), (1, .int x1), (2, .int x2), (3, .int x3), (4, .int x4)] [] := by
  intro H locs ls hw hl
  have hx := C.1
  have hb := C.2.1
  unfold BX9_netsTo_88 at hf
  obtain ⟨y_1, e_2, hf⟩ := sn_ltE hf
  refine lv_iinc (v := y_1) (lv' := [(3, .int y_1), (0, .ref (ad 0)), (1, .int x1), (2, .int x2), (4, .int x4)]) hx hb dX9_netsTo_88 hl (k := 3) rfl (by rw [e_2]; rfl) (by decide) rfl (fun ls hl => ?_)
  exact wX9_netsTo_91 C  hf kc kx _ _ _ hw (lv_sub hl [1, 2, 3, 0, 4] rfl)
theorem wX9_netsTo_72 (C : sn_C p s m args meth c RX9 cX9_netsTo 7 (some .int) D ct ad layM) {σ : sn_S} {x1 : Int32} {x2 : Int32} {x3 : Int32} {x4 : Int32} {x5 : Int32} {x6 : Int32}  {o : (Int32 × Int32) ⊕ (Int32)} (hf : BX9_netsTo_72 σ x1 x2 x3 x4 x5 x6 = some o) (kc : ∀ v, o = .inl v → sn_At p l e rmX9_netsTo s m args below meth c Q D ct ad layM 7 σ 5 [(0, .ref (ad 0)), (1, .int x1), (2, .int x2), (3, .int v.1), (4, .int v.2)] []) (kx : ∀ v, o = .inr v → sn_At p l e rmX9_netsTo s m args below meth c Q D ct ad layM 7 σ 97 [(3, .int v)] []) : sn_At p l e rmX9_netsTo s m args below meth c Q D ct ad layM 7 σ 72 [(0, .ref (ad 0)), (1, .int x1), (2, .int x2), (3, .int x3), (4, .int x4), (5, .int x5), (6, .int x6)] [] := by
  intro H locs ls hw hl
  have hx := C.1
  have hb := C.2.1
  unfold BX9_netsTo_72 at hf
  refine lv_iload hx hb dX9_netsTo_72 (lv_at hl 6 rfl) ?_
  refine lv_iload_n hx hb dX9_netsTo_74 rfl (lv_at hl 1 rfl) ?_
  refine lv_icmp_ne (tgt := 91) hx hb dX9_netsTo_75 (by decide) (fun c_1 => ?_) (fun c_1 => ?_)
  · have hf := sn_el c_1 hf
    exact wX9_netsTo_91 C  hf kc kx _ _ _ hw (lv_sub hl [0, 1, 2, 3, 4] rfl)
  · have hf := sn_if c_1 hf
    refine lv_iload_n hx hb dX9_netsTo_78 rfl (lv_at hl 2 rfl) ?_
    refine lv_iload hx hb dX9_netsTo_79 (lv_at hl 5 rfl) ?_
    obtain ⟨t_2, h_3, hf⟩ := sn_bd hf
    refine sn_callSi (rest := []) C hw (ctX9_bit l  h_3) kl_RX9_254 rfl rfl rfl (Nat.le_of_ble_eq_true rfl) dX9_netsTo_81 hl.1 (fun H locs hw => ?_)
    refine lv_iconst (v := 1) hx hb dX9_netsTo_84 rfl ?_
    refine lv_icmp_ne (tgt := 91) hx hb dX9_netsTo_85 (by decide) (fun c_4 => ?_) (fun c_4 => ?_)
    · have hf := sn_el c_4 hf
      exact wX9_netsTo_91 C  hf kc kx _ _ _ hw (lv_sub hl [0, 1, 2, 3, 4] rfl)
    · have hf := sn_if c_4 hf
      exact wX9_netsTo_88 C  hf kc kx _ _ _ hw (lv_sub hl [0, 1, 2, 3, 4] rfl)
theorem wX9_netsTo_5 (C : sn_C p s m args meth c RX9 cX9_netsTo 7 (some .int) D ct ad layM) {σ : sn_S} {x1 : Int32} {x2 : Int32} {x3 : Int32} {x4 : Int32}  {o : (Int32 × Int32) ⊕ (Int32)} (hf : BX9_netsTo_5 σ x1 x2 x3 x4 = some o) (kc : ∀ v, o = .inl v → sn_At p l e rmX9_netsTo s m args below meth c Q D ct ad layM 7 σ 5 [(0, .ref (ad 0)), (1, .int x1), (2, .int x2), (3, .int v.1), (4, .int v.2)] []) (kx : ∀ v, o = .inr v → sn_At p l e rmX9_netsTo s m args below meth c Q D ct ad layM 7 σ 97 [(3, .int v)] []) : sn_At p l e rmX9_netsTo s m args below meth c Q D ct ad layM 7 σ 5 [(0, .ref (ad 0)), (1, .int x1), (2, .int x2), (3, .int x3), (4, .int x4)] [] := by
  intro H locs ls hw hl
  have hx := C.1
  have hb := C.2.1
  unfold BX9_netsTo_5 at hf
  refine lv_iload hx hb dX9_netsTo_5 (lv_at hl 4 rfl) ?_
  refine lv_aload_n hx hb dX9_netsTo_7 rfl (lv_at hl 0 rfl) ?_
  refine sn_getC (r := 1) C hw fd_RX9_9 layM_0 rfl dX9_netsTo_8 ?_
  refine lv_bipush (v := 7) hx hb dX9_netsTo_11 (by decide) ?_
  obtain ⟨g_1, hf⟩ := sn_gdE hf
  refine sn_iald C hw layM_1 g_1 dX9_netsTo_13 ?_
  refine lv_icmp_ge (tgt := 97) hx hb dX9_netsTo_14 (by decide) (fun c_2 => ?_) (fun c_2 => ?_)
  · have hf := sn_if c_2 hf
    cases hf
    exact kx _ rfl _ _ _ hw (lv_sub hl [3] rfl)
  · have hf := sn_el c_2 hf
    refine lv_aload_n hx hb dX9_netsTo_17 rfl (lv_at hl 0 rfl) ?_
    refine sn_getC (r := 1) C hw fd_RX9_9 layM_0 rfl dX9_netsTo_18 ?_
    refine lv_bipush (v := 33) hx hb dX9_netsTo_21 (by decide) ?_
    refine lv_iconst (v := 2) hx hb dX9_netsTo_23 rfl ?_
    refine lv_iload hx hb dX9_netsTo_24 (lv_at hl 4 rfl) ?_
    refine lv_imul hx hb dX9_netsTo_26 ?_
    refine lv_iadd hx hb dX9_netsTo_27 ?_
    obtain ⟨g_3, hf⟩ := sn_gdE hf
    refine sn_iald C hw layM_1 g_3 dX9_netsTo_28 ?_
    obtain ⟨y_4, e_5, hf⟩ := sn_ltE hf
    refine lv_topi (fun y_4_ e_5_ => ?_)
    obtain rfl : y_4 = y_4_ := e_5.trans e_5_.symm
    refine lv_istore (lv' := [(5, .int y_4), (0, .ref (ad 0)), (1, .int x1), (2, .int x2), (3, .int x3), (4, .int x4)]) hx hb dX9_netsTo_29 hl (by decide) rfl (fun ls hl => ?_)
    refine lv_aload_n hx hb dX9_netsTo_31 rfl (lv_at hl 1 rfl) ?_
    refine sn_getC (r := 1) C hw fd_RX9_9 layM_0 rfl dX9_netsTo_32 ?_
    refine lv_bipush (v := 33) hx hb dX9_netsTo_35 (by decide) ?_
    refine lv_iconst (v := 2) hx hb dX9_netsTo_37 rfl ?_
    refine lv_iload hx hb dX9_netsTo_38 (lv_at hl 5 rfl) ?_
    refine lv_imul hx hb dX9_netsTo_40 ?_
    refine lv_iadd hx hb dX9_netsTo_41 ?_
    refine lv_iconst (v := 1) hx hb dX9_netsTo_42 rfl ?_
    refine lv_iadd hx hb dX9_netsTo_43 ?_
    obtain ⟨g_6, hf⟩ := sn_gdE hf
    refine sn_iald C hw layM_1 g_6 dX9_netsTo_44 ?_
    obtain ⟨y_7, e_8, hf⟩ := sn_ltE hf
    refine lv_topi (fun y_7_ e_8_ => ?_)
    obtain rfl : y_7 = y_7_ := e_8.trans e_8_.symm
    refine lv_istore (lv' := [(6, .int y_7), (5, .int y_4), (0, .ref (ad 0)), (1, .int x1), (2, .int x2), (3, .int x3), (4, .int x4)]) hx hb dX9_netsTo_45 hl (by decide) rfl (fun ls hl => ?_)
    refine lv_iload hx hb dX9_netsTo_47 (lv_at hl 6 rfl) ?_
    refine lv_aload_n hx hb dX9_netsTo_49 rfl (lv_at hl 2 rfl) ?_
    refine sn_getI C hw fd_RX9_240 layM_0 rfl dX9_netsTo_50 ?_
    refine lv_icmp_eq (tgt := 91) hx hb dX9_netsTo_53 (by decide) (fun c_9 => ?_) (fun c_9 => ?_)
    · have hf := sn_if c_9 hf
      exact wX9_netsTo_91 C  hf kc kx _ _ _ hw (lv_sub hl [2, 3, 4, 5, 6] rfl)
    · have hf := sn_el c_9 hf
      refine lv_iload hx hb dX9_netsTo_56 (lv_at hl 1 rfl) ?_
      refine lv_iload_n hx hb dX9_netsTo_58 rfl (lv_at hl 3 rfl) ?_
      refine lv_icmp_ne (tgt := 72) hx hb dX9_netsTo_59 (by decide) (fun c_10 => ?_) (fun c_10 => ?_)
      · have hf := sn_el c_10 hf
        exact wX9_netsTo_72 C  hf kc kx _ _ _ hw (lv_sub hl [2, 3, 4, 5, 6, 1, 0] rfl)
      · have hf := sn_if c_10 hf
        refine lv_iload_n hx hb dX9_netsTo_62 rfl (lv_at hl 4 rfl) ?_
        refine lv_iload hx hb dX9_netsTo_63 (lv_at hl 0 rfl) ?_
        obtain ⟨t_11, h_12, hf⟩ := sn_bd hf
        refine sn_callSi (rest := []) C hw (ctX9_bit l  h_12) kl_RX9_254 rfl rfl rfl (Nat.le_of_ble_eq_true rfl) dX9_netsTo_65 hl.1 (fun H locs hw => ?_)
        refine lv_iconst (v := 1) hx hb dX9_netsTo_68 rfl ?_
        refine lv_icmp_eq (tgt := 88) hx hb dX9_netsTo_69 (by decide) (fun c_13 => ?_) (fun c_13 => ?_)
        · have hf := sn_if c_13 hf
          exact wX9_netsTo_88 C  hf kc kx _ _ _ hw (lv_sub hl [2, 3, 4, 5, 6] rfl)
        · have hf := sn_el c_13 hf
          exact wX9_netsTo_72 C  hf kc kx _ _ _ hw (lv_sub hl [2, 3, 4, 5, 6, 1, 0] rfl)
theorem wX9_netsTo_L5 (C : sn_C p s m args meth c RX9 cX9_netsTo 7 (some .int) D ct ad layM) {σ : sn_S} {x1 : Int32} {x2 : Int32}   {z : Int32 × Int32} {t : Int32} (h : sn_it (LX9_netsTo_5 σ x1 x2) 5000 z = some t) (kx : ∀ v, t = v → sn_At p l e rmX9_netsTo s m args below meth c Q D ct ad layM 7 σ 97 [(3, .int v)] []) : sn_At p l e rmX9_netsTo s m args below meth c Q D ct ad layM 7 σ 5 [(0, .ref (ad 0)), (1, .int x1), (2, .int x2), (3, .int z.1), (4, .int z.2)] [] :=
  sn_loop (f := LX9_netsTo_5 σ x1 x2) (G := fun z => sn_At p l e rmX9_netsTo s m args below meth c Q D ct ad layM 7 σ 5 [(0, .ref (ad 0)), (1, .int x1), (2, .int x2), (3, .int z.1), (4, .int z.2)] []) (E := fun t => (∀ v, t = v → sn_At p l e rmX9_netsTo s m args below meth c Q D ct ad layM 7 σ 97 [(3, .int v)] []) ∧ True) (fun z o hf k1 k2 => wX9_netsTo_5 C  hf (fun v e => k1 v e) (fun v e => (k2 _ e).1 v rfl)) 5000 z t h ⟨kx, trivial⟩
theorem wX9_netsTo_in (C : sn_C p s m args meth c RX9 cX9_netsTo 7 (some .int) D ct ad layM) {σ : sn_S} {x1 : Int32} {x2 : Int32}  {o : Int32} (hf : fX9_netsTo σ x1 x2 = some o) (kr : sn_Kr p l e rmX9_netsTo s m args below meth c Q D ct ad layM cX9_netsTo .ireturn (true) σ [.int o]) : sn_At p l e rmX9_netsTo s m args below meth c Q D ct ad layM 7 σ 0 [(0, .ref (ad 0)), (1, .int x1), (2, .int x2)] [] := by
  intro H locs ls hw hl
  have hx := C.1
  have hb := C.2.1
  unfold fX9_netsTo at hf
  refine lv_iconst (v := 0) hx hb dX9_netsTo_0 rfl ?_
  refine lv_istore_n (lv' := [(3, .int (0 : Int32)), (0, .ref (ad 0)), (1, .int x1), (2, .int x2)]) hx hb dX9_netsTo_1 rfl hl (by decide) rfl (fun ls hl => ?_)
  refine lv_iconst (v := 0) hx hb dX9_netsTo_2 rfl ?_
  refine lv_istore (lv' := [(4, .int (0 : Int32)), (3, .int (0 : Int32)), (0, .ref (ad 0)), (1, .int x1), (2, .int x2)]) hx hb dX9_netsTo_3 hl (by decide) rfl (fun ls hl => ?_)
  obtain ⟨t_1, h_2, hf⟩ := sn_bd hf
  exact wX9_netsTo_L5 C  h_2 (fun v e => by cases e; exact wX9_netsTo_97 C  hf kr) _ _ _ hw (lv_sub hl [2, 3, 4, 1, 0] rfl)
theorem ctX9_netsTo (l : Launch) {σ : sn_S} {x1 : Int32} {x2 : Int32}  {o : Int32} (hf : fX9_netsTo σ x1 x2 = some o) : sn_M l yX9_netsTo cX9_netsTo 7 (some .int) rmX9_netsTo layM (fun ad => [.ref (ad 0), .int x1, .int x2]) σ (some (fun _ => .int o)) σ :=
  sn_met (by decide) (fun _ => Nat.le_of_ble_eq_true rfl) (fun p e s m args below meth c ls D ct ad C hw hl => wX9_netsTo_in C  hf (fun H locs ls pc hw ok hd => sn_iret C hw hd) _ _ _ hw hl)
-- X9_goMinute
abbrev rmX9_goMinute : Room := { frames := 2, cells := 0, slots := 0, locals := 47 }
def BX9_goMinute_231 (σ : sn_S) : Option (sn_S) :=
  (some σ)
def BX9_goMinute_225 (σ : sn_S) (x1 : Int32) (x2 : Int32) (x3 : Int32) : Option ((sn_S × Int32) ⊕ (sn_S)) :=
  (sn_lt (x3 + 1) fun y_1 => (some (.inl (σ, y_1))))
def BX9_goMinute_192 (σ : sn_S) (x1 : Int32) (x2 : Int32) (x3 : Int32) (x7 : Int32) (t1 : Int32) (t2 : Int32) : Option ((sn_S × Int32) ⊕ (sn_S)) :=
  (sn_gd (sn_in t1 180) (sn_lt (sn_pI σ 12 t1.toNatClampNeg t2) fun σ_2 => (if x7 = 0 then
  (BX9_goMinute_225 σ_2 x1 x2 x3)
  else
  (sn_gd (sn_in x1 30) (sn_gd (sn_in x1 30) (sn_lt (sn_pI σ_2 11 x1.toNatClampNeg ((sn_I σ_2 11 x1.toNatClampNeg) ||| ((1 : Int32) <<< (x3 &&& 31)))) fun σ_7 => (sn_gd (sn_in x3 6) (sn_gd (sn_in x3 6) (sn_lt (sn_pI σ_7 10 x3.toNatClampNeg ((sn_I σ_7 10 x3.toNatClampNeg) ||| ((1 : Int32) <<< (x1 &&& 31)))) fun σ_11 => (BX9_goMinute_225 σ_11 x1 x2 x3))))))))))
def BX9_goMinute_145 (σ : sn_S) (x1 : Int32) (x2 : Int32) (x3 : Int32) (x4 : Int32) (x5 : Int32) (x6 : Int32) (t0 : Int32) : Option ((sn_S × Int32) ⊕ (sn_S)) :=
  (sn_gd (sn_in x3 6) (sn_gd (sn_in x3 6) (sn_lt (sn_pI σ 14 x3.toNatClampNeg ((sn_I σ 14 x3.toNatClampNeg) + x4)) fun σ_3 => (sn_gd (sn_in (((6 : Int32) * x1) + x3) 180) (sn_lt (sn_pI σ_3 13 (((6 : Int32) * x1) + x3).toNatClampNeg x5) fun σ_6 => (if t0 = 0 then
  (BX9_goMinute_192 σ_6 x1 x2 x3 t0 (((6 : Int32) * x1) + x3) x6)
  else
  (BX9_goMinute_192 σ_6 x1 x2 x3 t0 (((6 : Int32) * x1) + x3) (0 : Int32))))))))
def BX9_goMinute_144 (σ : sn_S) (x1 : Int32) (x2 : Int32) (x3 : Int32) (x4 : Int32) (x5 : Int32) (x6 : Int32) : Option ((sn_S × Int32) ⊕ (sn_S)) :=
  (BX9_goMinute_145 σ x1 x2 x3 x4 x5 x6 (0 : Int32))
def BX9_goMinute_104 (σ : sn_S) (x1 : Int32) (x2 : Int32) (x3 : Int32) (x4 : Int32) (x5 : Int32) (t0 : Int32) : Option ((sn_S × Int32) ⊕ (sn_S)) :=
  (sn_lt (t0 + x5) fun y_1 => (sn_gd (sn_in (((11 : Int32) + ((2 : Int32) * x3)) + (1 : Int32)) 119) (if y_1 < (sn_I σ 1 (((11 : Int32) + ((2 : Int32) * x3)) + (1 : Int32)).toNatClampNeg) then
  (BX9_goMinute_144 σ x1 x2 x3 x4 x5 y_1)
  else
  (sn_gd (sn_in x3 6) ((fX9_bit (sn_I σ 8 x3.toNatClampNeg) x1).bind fun t_6 => (if t_6 = 0 then
  (BX9_goMinute_145 σ x1 x2 x3 x4 x5 y_1 (1 : Int32))
  else
  (BX9_goMinute_144 σ x1 x2 x3 x4 x5 y_1)))))))
def BX9_goMinute_26 (σ : sn_S) (x1 : Int32) (x2 : Int32) (x3 : Int32) : Option ((sn_S × Int32) ⊕ (sn_S)) :=
  (sn_gd (sn_in (5 : Int32) 119) (if (sn_I σ 1 (5 : Int32).toNatClampNeg) ≤ x3 then
  (some (.inr (σ)))
  else
  ((fX9_netsTo σ x3 x2).bind fun t_3 => (sn_lt ((5 : Int32) * t_3) fun y_5 => (sn_gd (sn_in ((11 : Int32) + ((2 : Int32) * x3)) 119) (sn_gd (sn_in x1 30) (sn_gd (sn_in x3 6) ((fX9_bit (sn_I σ 9 x3.toNatClampNeg) x1).bind fun t_10 => (sn_lt ((((sn_I σ 1 ((11 : Int32) + ((2 : Int32) * x3)).toNatClampNeg) * (sn_I σ 7 x1.toNatClampNeg)) + y_5) + ((40 : Int32) * t_10)) fun y_12 => (if x1 = 0 then
  (BX9_goMinute_104 σ x1 x2 x3 y_5 y_12 (0 : Int32))
  else
  (sn_gd (sn_in (((6 : Int32) * (x1 - (1 : Int32))) + x3) 180) (BX9_goMinute_104 σ x1 x2 x3 y_5 y_12 (sn_I σ 12 (((6 : Int32) * (x1 - (1 : Int32))) + x3).toNatClampNeg)))))))))))))
def LX9_goMinute_26 (x1 : Int32) (x2 : Int32) (s : sn_S × Int32) : Option ((sn_S × Int32) ⊕ (sn_S)) := BX9_goMinute_26 s.1 x1 x2 s.2
def BX9_goMinute_23 (σ : sn_S) (x1 : Int32) (t0 : Int32) : Option (sn_S) :=
  ((sn_it (LX9_goMinute_26 x1 t0) 5000 (σ, (0 : Int32))).bind fun t_1 => (BX9_goMinute_231 t_1))
def fX9_goMinute (σ : sn_S) (x1 : Int32) : Option sn_S :=
  (sn_gd (sn_in x1 30) (sn_lt (sn_pI σ 11 x1.toNatClampNeg (0 : Int32)) fun σ_2 => (if x1 = 0 then
  (BX9_goMinute_23 σ_2 x1 (0 : Int32))
  else
  (sn_gd (sn_in (x1 - (1 : Int32)) 30) (BX9_goMinute_23 σ_2 x1 (sn_I σ_2 11 (x1 - (1 : Int32)).toNatClampNeg))))))
theorem wX9_goMinute_231 (C : sn_C p s m args meth c RX9 cX9_goMinute 8 none D ct ad layM) {σ : sn_S}  {o : sn_S} (hf : BX9_goMinute_231 σ = some o) (kr : sn_Kr p l e rmX9_goMinute s m args below meth c Q D ct ad layM cX9_goMinute .return_ (true) o []) : sn_At p l e rmX9_goMinute s m args below meth c Q D ct ad layM 8 σ 231 [] [] := by
  intro H locs ls hw hl
  have hx := C.1
  have hb := C.2.1
  unfold BX9_goMinute_231 at hf
  cases hf
  exact kr _ _ _ _ hw rfl dX9_goMinute_231
theorem wX9_goMinute_225 (C : sn_C p s m args meth c RX9 cX9_goMinute 8 none D ct ad layM) {σ : sn_S} {x1 : Int32} {x2 : Int32} {x3 : Int32}  {o : (sn_S × Int32) ⊕ (sn_S)} (hf : BX9_goMinute_225 σ x1 x2 x3 = some o) (kc : ∀ v, o = .inl v → sn_At p l e rmX9_goMinute s m args below meth c Q D ct ad layM 8 v.1 26 [(0, .ref (ad 0)), (1, .int x1), (2, .int x2), (3, .int v.2)] []) (kx : ∀ v, o = .inr v → sn_At p l e rmX9_goMinute s m args below meth c Q D ct ad layM 8 v 231 [] []) : sn_At p l e rmX9_goMinute s m args below meth c Q D ct ad layM 8 σ 225 [(0, .ref (ad 0)), (1, .int x1), (2, .int x2), (3, .int x3)] [] := by
  intro H locs ls hw hl
  have hx := C.1
  have hb := C.2.1
  unfold BX9_goMinute_225 at hf
  obtain ⟨y_1, e_2, hf⟩ := sn_ltE hf
  refine lv_iinc (v := y_1) (lv' := [(3, .int y_1), (0, .ref (ad 0)), (1, .int x1), (2, .int x2)]) hx hb dX9_goMinute_225 hl (k := 3) rfl (by rw [e_2]; rfl) (by decide) rfl (fun ls hl => ?_)
  refine lv_goto (tgt := 26) hx hb dX9_goMinute_228 (by decide) ?_
  cases hf
  exact kc _ rfl _ _ _ hw (lv_sub hl [1, 2, 3, 0] rfl)
theorem wX9_goMinute_192 (C : sn_C p s m args meth c RX9 cX9_goMinute 8 none D ct ad layM) {σ : sn_S} {x1 : Int32} {x2 : Int32} {x3 : Int32} {x7 : Int32} {t1 : Int32} {t2 : Int32}  {o : (sn_S × Int32) ⊕ (sn_S)} (hf : BX9_goMinute_192 σ x1 x2 x3 x7 t1 t2 = some o) (kc : ∀ v, o = .inl v → sn_At p l e rmX9_goMinute s m args below meth c Q D ct ad layM 8 v.1 26 [(0, .ref (ad 0)), (1, .int x1), (2, .int x2), (3, .int v.2)] []) (kx : ∀ v, o = .inr v → sn_At p l e rmX9_goMinute s m args below meth c Q D ct ad layM 8 v 231 [] []) : sn_At p l e rmX9_goMinute s m args below meth c Q D ct ad layM 8 σ 192 [(0, .ref (ad 0)), (1, .int x1), (2, .int x2), (3, .int x3), (7, .int x7)] [.int t2, .int t1, .ref (ad 12)] := by
  intro H locs ls hw hl
  have hx := C.1
  have hb := C.2.1
  unfold BX9_goMinute_192 at hf
  obtain ⟨g_1, hf⟩ := sn_gdE hf
  refine sn_iast C hw layM_12 g_1 dX9_goMinute_192 (fun H locs hw => ?_)
  obtain ⟨σ_2, e_3, hf⟩ := sn_ltE hf
  rw [← e_3] at hw
  refine lv_iload hx hb dX9_goMinute_193 (lv_at hl 4 rfl) ?_
  refine lv_if_ne (tgt := 201) hx hb dX9_goMinute_195 (by decide) (fun c_4 => ?_) (fun c_4 => ?_)
  · have hf := sn_el c_4 hf
    refine lv_aload_n hx hb dX9_goMinute_201 rfl (lv_at hl 0 rfl) ?_
    refine sn_getC (r := 11) C hw fd_RX9_46 layM_0 rfl dX9_goMinute_202 ?_
    refine lv_iload_n hx hb dX9_goMinute_205 rfl (lv_at hl 1 rfl) ?_
    refine lv_dup2_11 hx hb dX9_goMinute_206 rfl rfl ?_
    obtain ⟨g_5, hf⟩ := sn_gdE hf
    refine sn_iald C hw layM_11 g_5 dX9_goMinute_207 ?_
    refine lv_iconst (v := 1) hx hb dX9_goMinute_208 rfl ?_
    refine lv_iload_n hx hb dX9_goMinute_209 rfl (lv_at hl 3 rfl) ?_
    refine lv_ishl hx hb dX9_goMinute_210 ?_
    refine lv_ior hx hb dX9_goMinute_211 ?_
    obtain ⟨g_6, hf⟩ := sn_gdE hf
    refine sn_iast C hw layM_11 g_6 dX9_goMinute_212 (fun H locs hw => ?_)
    obtain ⟨σ_7, e_8, hf⟩ := sn_ltE hf
    rw [← e_8] at hw
    refine lv_aload_n hx hb dX9_goMinute_213 rfl (lv_at hl 0 rfl) ?_
    refine sn_getC (r := 10) C hw fd_RX9_43 layM_0 rfl dX9_goMinute_214 ?_
    refine lv_iload_n hx hb dX9_goMinute_217 rfl (lv_at hl 3 rfl) ?_
    refine lv_dup2_11 hx hb dX9_goMinute_218 rfl rfl ?_
    obtain ⟨g_9, hf⟩ := sn_gdE hf
    refine sn_iald C hw layM_10 g_9 dX9_goMinute_219 ?_
    refine lv_iconst (v := 1) hx hb dX9_goMinute_220 rfl ?_
    refine lv_iload_n hx hb dX9_goMinute_221 rfl (lv_at hl 1 rfl) ?_
    refine lv_ishl hx hb dX9_goMinute_222 ?_
    refine lv_ior hx hb dX9_goMinute_223 ?_
    obtain ⟨g_10, hf⟩ := sn_gdE hf
    refine sn_iast C hw layM_10 g_10 dX9_goMinute_224 (fun H locs hw => ?_)
    obtain ⟨σ_11, e_12, hf⟩ := sn_ltE hf
    rw [← e_12] at hw
    exact wX9_goMinute_225 C  hf kc kx _ _ _ hw (lv_sub hl [0, 1, 2, 3] rfl)
  · have hf := sn_if c_4 hf
    refine lv_goto (tgt := 225) hx hb dX9_goMinute_198 (by decide) ?_
    exact wX9_goMinute_225 C  hf kc kx _ _ _ hw (lv_sub hl [0, 1, 2, 3] rfl)
theorem wX9_goMinute_145 (C : sn_C p s m args meth c RX9 cX9_goMinute 8 none D ct ad layM) {σ : sn_S} {x1 : Int32} {x2 : Int32} {x3 : Int32} {x4 : Int32} {x5 : Int32} {x6 : Int32} {t0 : Int32}  {o : (sn_S × Int32) ⊕ (sn_S)} (hf : BX9_goMinute_145 σ x1 x2 x3 x4 x5 x6 t0 = some o) (kc : ∀ v, o = .inl v → sn_At p l e rmX9_goMinute s m args below meth c Q D ct ad layM 8 v.1 26 [(0, .ref (ad 0)), (1, .int x1), (2, .int x2), (3, .int v.2)] []) (kx : ∀ v, o = .inr v → sn_At p l e rmX9_goMinute s m args below meth c Q D ct ad layM 8 v 231 [] []) : sn_At p l e rmX9_goMinute s m args below meth c Q D ct ad layM 8 σ 145 [(0, .ref (ad 0)), (1, .int x1), (2, .int x2), (3, .int x3), (4, .int x4), (5, .int x5), (6, .int x6)] [.int t0] := by
  intro H locs ls hw hl
  have hx := C.1
  have hb := C.2.1
  unfold BX9_goMinute_145 at hf
  refine lv_istore (lv' := [(7, .int t0), (0, .ref (ad 0)), (1, .int x1), (2, .int x2), (3, .int x3), (4, .int x4), (5, .int x5), (6, .int x6)]) hx hb dX9_goMinute_145 hl (by decide) rfl (fun ls hl => ?_)
  refine lv_aload_n hx hb dX9_goMinute_147 rfl (lv_at hl 1 rfl) ?_
  refine sn_getC (r := 14) C hw fd_RX9_55 layM_0 rfl dX9_goMinute_148 ?_
  refine lv_iload_n hx hb dX9_goMinute_151 rfl (lv_at hl 4 rfl) ?_
  refine lv_dup2_11 hx hb dX9_goMinute_152 rfl rfl ?_
  obtain ⟨g_1, hf⟩ := sn_gdE hf
  refine sn_iald C hw layM_14 g_1 dX9_goMinute_153 ?_
  refine lv_iload hx hb dX9_goMinute_154 (lv_at hl 5 rfl) ?_
  refine lv_iadd hx hb dX9_goMinute_156 ?_
  obtain ⟨g_2, hf⟩ := sn_gdE hf
  refine sn_iast C hw layM_14 g_2 dX9_goMinute_157 (fun H locs hw => ?_)
  obtain ⟨σ_3, e_4, hf⟩ := sn_ltE hf
  rw [← e_4] at hw
  refine lv_aload_n hx hb dX9_goMinute_158 rfl (lv_at hl 1 rfl) ?_
  refine sn_getC (r := 13) C hw fd_RX9_52 layM_0 rfl dX9_goMinute_159 ?_
  refine lv_bipush (v := 6) hx hb dX9_goMinute_162 (by decide) ?_
  refine lv_iload_n hx hb dX9_goMinute_164 rfl (lv_at hl 2 rfl) ?_
  refine lv_imul hx hb dX9_goMinute_165 ?_
  refine lv_iload_n hx hb dX9_goMinute_166 rfl (lv_at hl 4 rfl) ?_
  refine lv_iadd hx hb dX9_goMinute_167 ?_
  refine lv_iload hx hb dX9_goMinute_168 (lv_at hl 6 rfl) ?_
  obtain ⟨g_5, hf⟩ := sn_gdE hf
  refine sn_iast C hw layM_13 g_5 dX9_goMinute_170 (fun H locs hw => ?_)
  obtain ⟨σ_6, e_7, hf⟩ := sn_ltE hf
  rw [← e_7] at hw
  refine lv_aload_n hx hb dX9_goMinute_171 rfl (lv_at hl 1 rfl) ?_
  refine sn_getC (r := 12) C hw fd_RX9_49 layM_0 rfl dX9_goMinute_172 ?_
  refine lv_bipush (v := 6) hx hb dX9_goMinute_175 (by decide) ?_
  refine lv_iload_n hx hb dX9_goMinute_177 rfl (lv_at hl 2 rfl) ?_
  refine lv_imul hx hb dX9_goMinute_178 ?_
  refine lv_iload_n hx hb dX9_goMinute_179 rfl (lv_at hl 4 rfl) ?_
  refine lv_iadd hx hb dX9_goMinute_180 ?_
  refine lv_iload hx hb dX9_goMinute_181 (lv_at hl 0 rfl) ?_
  refine lv_if_eq (tgt := 190) hx hb dX9_goMinute_183 (by decide) (fun c_8 => ?_) (fun c_8 => ?_)
  · have hf := sn_if c_8 hf
    refine lv_iload hx hb dX9_goMinute_190 (lv_at hl 7 rfl) ?_
    exact wX9_goMinute_192 C  hf kc kx _ _ _ hw (lv_sub hl [1, 2, 3, 4, 0] rfl)
  · have hf := sn_el c_8 hf
    refine lv_iconst (v := 0) hx hb dX9_goMinute_186 rfl ?_
    refine lv_goto (tgt := 192) hx hb dX9_goMinute_187 (by decide) ?_
    exact wX9_goMinute_192 C  hf kc kx _ _ _ hw (lv_sub hl [1, 2, 3, 4, 0] rfl)
theorem wX9_goMinute_144 (C : sn_C p s m args meth c RX9 cX9_goMinute 8 none D ct ad layM) {σ : sn_S} {x1 : Int32} {x2 : Int32} {x3 : Int32} {x4 : Int32} {x5 : Int32} {x6 : Int32}  {o : (sn_S × Int32) ⊕ (sn_S)} (hf : BX9_goMinute_144 σ x1 x2 x3 x4 x5 x6 = some o) (kc : ∀ v, o = .inl v → sn_At p l e rmX9_goMinute s m args below meth c Q D ct ad layM 8 v.1 26 [(0, .ref (ad 0)), (1, .int x1), (2, .int x2), (3, .int v.2)] []) (kx : ∀ v, o = .inr v → sn_At p l e rmX9_goMinute s m args below meth c Q D ct ad layM 8 v 231 [] []) : sn_At p l e rmX9_goMinute s m args below meth c Q D ct ad layM 8 σ 144 [(0, .ref (ad 0)), (1, .int x1), (2, .int x2), (3, .int x3), (4, .int x4), (5, .int x5), (6, .int x6)] [] := by
  intro H locs ls hw hl
  have hx := C.1
  have hb := C.2.1
  unfold BX9_goMinute_144 at hf
  refine lv_iconst (v := 0) hx hb dX9_goMinute_144 rfl ?_
  exact wX9_goMinute_145 C  hf kc kx _ _ _ hw (lv_sub hl [0, 1, 2, 3, 4, 5, 6] rfl)
theorem wX9_goMinute_104 (C : sn_C p s m args meth c RX9 cX9_goMinute 8 none D ct ad layM) {σ : sn_S} {x1 : Int32} {x2 : Int32} {x3 : Int32} {x4 : Int32} {x5 : Int32} {t0 : Int32}  {o : (sn_S × Int32) ⊕ (sn_S)} (hf : BX9_goMinute_104 σ x1 x2 x3 x4 x5 t0 = some o) (kc : ∀ v, o = .inl v → sn_At p l e rmX9_goMinute s m args below meth c Q D ct ad layM 8 v.1 26 [(0, .ref (ad 0)), (1, .int x1), (2, .int x2), (3, .int v.2)] []) (kx : ∀ v, o = .inr v → sn_At p l e rmX9_goMinute s m args below meth c Q D ct ad layM 8 v 231 [] []) : sn_At p l e rmX9_goMinute s m args below meth c Q D ct ad layM 8 σ 104 [(0, .ref (ad 0)), (1, .int x1), (2, .int x2), (3, .int x3), (4, .int x4), (5, .int x5)] [.int t0] := by
  intro H locs ls hw hl
  have hx := C.1
  have hb := C.2.1
  unfold BX9_goMinute_104 at hf
  refine lv_iload hx hb dX9_goMinute_104 (lv_at hl 5 rfl) ?_
  refine lv_iadd hx hb dX9_goMinute_106 ?_
  obtain ⟨y_1, e_2, hf⟩ := sn_ltE hf
  refine lv_topi (fun y_1_ e_2_ => ?_)
  obtain rfl : y_1 = y_1_ := e_2.trans e_2_.symm
  refine lv_istore (lv' := [(6, .int y_1), (0, .ref (ad 0)), (1, .int x1), (2, .int x2), (3, .int x3), (4, .int x4), (5, .int x5)]) hx hb dX9_goMinute_107 hl (by decide) rfl (fun ls hl => ?_)
  refine lv_iload hx hb dX9_goMinute_109 (lv_at hl 0 rfl) ?_
  refine lv_aload_n hx hb dX9_goMinute_111 rfl (lv_at hl 1 rfl) ?_
  refine sn_getC (r := 1) C hw fd_RX9_9 layM_0 rfl dX9_goMinute_112 ?_
  refine lv_bipush (v := 11) hx hb dX9_goMinute_115 (by decide) ?_
  refine lv_iconst (v := 2) hx hb dX9_goMinute_117 rfl ?_
  refine lv_iload_n hx hb dX9_goMinute_118 rfl (lv_at hl 4 rfl) ?_
  refine lv_imul hx hb dX9_goMinute_119 ?_
  refine lv_iadd hx hb dX9_goMinute_120 ?_
  refine lv_iconst (v := 1) hx hb dX9_goMinute_121 rfl ?_
  refine lv_iadd hx hb dX9_goMinute_122 ?_
  obtain ⟨g_3, hf⟩ := sn_gdE hf
  refine sn_iald C hw layM_1 g_3 dX9_goMinute_123 ?_
  refine lv_icmp_lt (tgt := 144) hx hb dX9_goMinute_124 (by decide) (fun c_4 => ?_) (fun c_4 => ?_)
  · have hf := sn_if c_4 hf
    exact wX9_goMinute_144 C  hf kc kx _ _ _ hw (lv_sub hl [1, 2, 3, 4, 5, 6, 0] rfl)
  · have hf := sn_el c_4 hf
    refine lv_aload_n hx hb dX9_goMinute_127 rfl (lv_at hl 1 rfl) ?_
    refine sn_getC (r := 8) C hw fd_RX9_37 layM_0 rfl dX9_goMinute_128 ?_
    refine lv_iload_n hx hb dX9_goMinute_131 rfl (lv_at hl 4 rfl) ?_
    obtain ⟨g_5, hf⟩ := sn_gdE hf
    refine sn_iald C hw layM_8 g_5 dX9_goMinute_132 ?_
    refine lv_iload_n hx hb dX9_goMinute_133 rfl (lv_at hl 2 rfl) ?_
    obtain ⟨t_6, h_7, hf⟩ := sn_bd hf
    refine sn_callSi (rest := []) C hw (ctX9_bit l  h_7) kl_RX9_254 rfl rfl rfl (Nat.le_of_ble_eq_true rfl) dX9_goMinute_134 hl.1 (fun H locs hw => ?_)
    refine lv_if_ne (tgt := 144) hx hb dX9_goMinute_137 (by decide) (fun c_8 => ?_) (fun c_8 => ?_)
    · have hf := sn_el c_8 hf
      exact wX9_goMinute_144 C  hf kc kx _ _ _ hw (lv_sub hl [1, 2, 3, 4, 5, 6, 0] rfl)
    · have hf := sn_if c_8 hf
      refine lv_iconst (v := 1) hx hb dX9_goMinute_140 rfl ?_
      refine lv_goto (tgt := 145) hx hb dX9_goMinute_141 (by decide) ?_
      exact wX9_goMinute_145 C  hf kc kx _ _ _ hw (lv_sub hl [1, 2, 3, 4, 5, 6, 0] rfl)
theorem wX9_goMinute_26 (C : sn_C p s m args meth c RX9 cX9_goMinute 8 none D ct ad layM) {σ : sn_S} {x1 : Int32} {x2 : Int32} {x3 : Int32}  {o : (sn_S × Int32) ⊕ (sn_S)} (hf : BX9_goMinute_26 σ x1 x2 x3 = some o) (kc : ∀ v, o = .inl v → sn_At p l e rmX9_goMinute s m args below meth c Q D ct ad layM 8 v.1 26 [(0, .ref (ad 0)), (1, .int x1), (2, .int x2), (3, .int v.2)] []) (kx : ∀ v, o = .inr v → sn_At p l e rmX9_goMinute s m args below meth c Q D ct ad layM 8 v 231 [] []) : sn_At p l e rmX9_goMinute s m args below meth c Q D ct ad layM 8 σ 26 [(0, .ref (ad 0)), (1, .int x1), (2, .int x2), (3, .int x3)] [] := by
  intro H locs ls hw hl
  have hx := C.1
  have hb := C.2.1
  unfold BX9_goMinute_26 at hf
  refine lv_iload_n hx hb dX9_goMinute_26 rfl (lv_at hl 3 rfl) ?_
  refine lv_aload_n hx hb dX9_goMinute_27 rfl (lv_at hl 0 rfl) ?_
  refine sn_getC (r := 1) C hw fd_RX9_9 layM_0 rfl dX9_goMinute_28 ?_
  refine lv_iconst (v := 5) hx hb dX9_goMinute_31 rfl ?_
  obtain ⟨g_1, hf⟩ := sn_gdE hf
  refine sn_iald C hw layM_1 g_1 dX9_goMinute_32 ?_
  refine lv_icmp_ge (tgt := 231) hx hb dX9_goMinute_33 (by decide) (fun c_2 => ?_) (fun c_2 => ?_)
  · have hf := sn_if c_2 hf
    cases hf
    exact kx _ rfl _ _ _ hw (lv_sub hl [] rfl)
  · have hf := sn_el c_2 hf
    refine lv_iconst (v := 5) hx hb dX9_goMinute_36 rfl ?_
    refine lv_aload_n hx hb dX9_goMinute_37 rfl (lv_at hl 0 rfl) ?_
    refine lv_iload_n hx hb dX9_goMinute_38 rfl (lv_at hl 3 rfl) ?_
    refine lv_iload_n hx hb dX9_goMinute_39 rfl (lv_at hl 2 rfl) ?_
    obtain ⟨t_3, h_4, hf⟩ := sn_bd hf
    refine sn_callVi (rest := [.int (5 : Int32)]) C hw (ctX9_netsTo l  h_4) kl_RX9_257 layM_0 rfl rfl rfl rfl (Nat.le_of_ble_eq_true rfl) dX9_goMinute_40 hl.1 (fun H locs hw => ?_)
    refine lv_imul hx hb dX9_goMinute_43 ?_
    obtain ⟨y_5, e_6, hf⟩ := sn_ltE hf
    refine lv_topi (fun y_5_ e_6_ => ?_)
    obtain rfl : y_5 = y_5_ := e_6.trans e_6_.symm
    refine lv_istore (lv' := [(4, .int y_5), (0, .ref (ad 0)), (1, .int x1), (2, .int x2), (3, .int x3)]) hx hb dX9_goMinute_44 hl (by decide) rfl (fun ls hl => ?_)
    refine lv_aload_n hx hb dX9_goMinute_46 rfl (lv_at hl 1 rfl) ?_
    refine sn_getC (r := 1) C hw fd_RX9_9 layM_0 rfl dX9_goMinute_47 ?_
    refine lv_bipush (v := 11) hx hb dX9_goMinute_50 (by decide) ?_
    refine lv_iconst (v := 2) hx hb dX9_goMinute_52 rfl ?_
    refine lv_iload_n hx hb dX9_goMinute_53 rfl (lv_at hl 4 rfl) ?_
    refine lv_imul hx hb dX9_goMinute_54 ?_
    refine lv_iadd hx hb dX9_goMinute_55 ?_
    obtain ⟨g_7, hf⟩ := sn_gdE hf
    refine sn_iald C hw layM_1 g_7 dX9_goMinute_56 ?_
    refine lv_aload_n hx hb dX9_goMinute_57 rfl (lv_at hl 1 rfl) ?_
    refine sn_getC (r := 7) C hw fd_RX9_34 layM_0 rfl dX9_goMinute_58 ?_
    refine lv_iload_n hx hb dX9_goMinute_61 rfl (lv_at hl 2 rfl) ?_
    obtain ⟨g_8, hf⟩ := sn_gdE hf
    refine sn_iald C hw layM_7 g_8 dX9_goMinute_62 ?_
    refine lv_imul hx hb dX9_goMinute_63 ?_
    refine lv_iload hx hb dX9_goMinute_64 (lv_at hl 0 rfl) ?_
    refine lv_iadd hx hb dX9_goMinute_66 ?_
    refine lv_bipush (v := 40) hx hb dX9_goMinute_67 (by decide) ?_
    refine lv_aload_n hx hb dX9_goMinute_69 rfl (lv_at hl 1 rfl) ?_
    refine sn_getC (r := 9) C hw fd_RX9_40 layM_0 rfl dX9_goMinute_70 ?_
    refine lv_iload_n hx hb dX9_goMinute_73 rfl (lv_at hl 4 rfl) ?_
    obtain ⟨g_9, hf⟩ := sn_gdE hf
    refine sn_iald C hw layM_9 g_9 dX9_goMinute_74 ?_
    refine lv_iload_n hx hb dX9_goMinute_75 rfl (lv_at hl 2 rfl) ?_
    obtain ⟨t_10, h_11, hf⟩ := sn_bd hf
    refine sn_callSi (rest := [.int (40 : Int32), .int (((sn_I σ 1 ((11 : Int32) + ((2 : Int32) * x3)).toNatClampNeg) * (sn_I σ 7 x1.toNatClampNeg)) + y_5)]) C hw (ctX9_bit l  h_11) kl_RX9_254 rfl rfl rfl (Nat.le_of_ble_eq_true rfl) dX9_goMinute_76 hl.1 (fun H locs hw => ?_)
    refine lv_imul hx hb dX9_goMinute_79 ?_
    refine lv_iadd hx hb dX9_goMinute_80 ?_
    obtain ⟨y_12, e_13, hf⟩ := sn_ltE hf
    refine lv_topi (fun y_12_ e_13_ => ?_)
    obtain rfl : y_12 = y_12_ := e_13.trans e_13_.symm
    refine lv_istore (lv' := [(5, .int y_12), (4, .int y_5), (0, .ref (ad 0)), (1, .int x1), (2, .int x2), (3, .int x3)]) hx hb dX9_goMinute_81 hl (by decide) rfl (fun ls hl => ?_)
    refine lv_iload_n hx hb dX9_goMinute_83 rfl (lv_at hl 3 rfl) ?_
    refine lv_if_ne (tgt := 91) hx hb dX9_goMinute_84 (by decide) (fun c_14 => ?_) (fun c_14 => ?_)
    · have hf := sn_el c_14 hf
      refine lv_aload_n hx hb dX9_goMinute_91 rfl (lv_at hl 2 rfl) ?_
      refine sn_getC (r := 12) C hw fd_RX9_49 layM_0 rfl dX9_goMinute_92 ?_
      refine lv_bipush (v := 6) hx hb dX9_goMinute_95 (by decide) ?_
      refine lv_iload_n hx hb dX9_goMinute_97 rfl (lv_at hl 3 rfl) ?_
      refine lv_iconst (v := 1) hx hb dX9_goMinute_98 rfl ?_
      refine lv_isub hx hb dX9_goMinute_99 ?_
      refine lv_imul hx hb dX9_goMinute_100 ?_
      refine lv_iload_n hx hb dX9_goMinute_101 rfl (lv_at hl 5 rfl) ?_
      refine lv_iadd hx hb dX9_goMinute_102 ?_
      obtain ⟨g_15, hf⟩ := sn_gdE hf
      refine sn_iald C hw layM_12 g_15 dX9_goMinute_103 ?_
      exact wX9_goMinute_104 C  hf kc kx _ _ _ hw (lv_sub hl [2, 3, 4, 5, 1, 0] rfl)
    · have hf := sn_if c_14 hf
      refine lv_iconst (v := 0) hx hb dX9_goMinute_87 rfl ?_
      refine lv_goto (tgt := 104) hx hb dX9_goMinute_88 (by decide) ?_
      exact wX9_goMinute_104 C  hf kc kx _ _ _ hw (lv_sub hl [2, 3, 4, 5, 1, 0] rfl)
theorem wX9_goMinute_L26 (C : sn_C p s m args meth c RX9 cX9_goMinute 8 none D ct ad layM) {x1 : Int32} {x2 : Int32}   {z : sn_S × Int32} {t : sn_S} (h : sn_it (LX9_goMinute_26 x1 x2) 5000 z = some t) (kx : ∀ v, t = v → sn_At p l e rmX9_goMinute s m args below meth c Q D ct ad layM 8 v 231 [] []) : sn_At p l e rmX9_goMinute s m args below meth c Q D ct ad layM 8 z.1 26 [(0, .ref (ad 0)), (1, .int x1), (2, .int x2), (3, .int z.2)] [] :=
  sn_loop (f := LX9_goMinute_26 x1 x2) (G := fun z => sn_At p l e rmX9_goMinute s m args below meth c Q D ct ad layM 8 z.1 26 [(0, .ref (ad 0)), (1, .int x1), (2, .int x2), (3, .int z.2)] []) (E := fun t => (∀ v, t = v → sn_At p l e rmX9_goMinute s m args below meth c Q D ct ad layM 8 v 231 [] []) ∧ True) (fun z o hf k1 k2 => wX9_goMinute_26 C  hf (fun v e => k1 v e) (fun v e => (k2 _ e).1 v rfl)) 5000 z t h ⟨kx, trivial⟩
theorem wX9_goMinute_23 (C : sn_C p s m args meth c RX9 cX9_goMinute 8 none D ct ad layM) {σ : sn_S} {x1 : Int32} {t0 : Int32}  {o : sn_S} (hf : BX9_goMinute_23 σ x1 t0 = some o) (kr : sn_Kr p l e rmX9_goMinute s m args below meth c Q D ct ad layM cX9_goMinute .return_ (true) o []) : sn_At p l e rmX9_goMinute s m args below meth c Q D ct ad layM 8 σ 23 [(0, .ref (ad 0)), (1, .int x1)] [.int t0] := by
  intro H locs ls hw hl
  have hx := C.1
  have hb := C.2.1
  unfold BX9_goMinute_23 at hf
  refine lv_istore_n (lv' := [(2, .int t0), (0, .ref (ad 0)), (1, .int x1)]) hx hb dX9_goMinute_23 rfl hl (by decide) rfl (fun ls hl => ?_)
  refine lv_iconst (v := 0) hx hb dX9_goMinute_24 rfl ?_
  refine lv_istore_n (lv' := [(3, .int (0 : Int32)), (2, .int t0), (0, .ref (ad 0)), (1, .int x1)]) hx hb dX9_goMinute_25 rfl hl (by decide) rfl (fun ls hl => ?_)
  obtain ⟨t_1, h_2, hf⟩ := sn_bd hf
  exact wX9_goMinute_L26 C  h_2 (fun v e => by cases e; exact wX9_goMinute_231 C  hf kr) _ _ _ hw (lv_sub hl [2, 3, 1, 0] rfl)
theorem wX9_goMinute_in (C : sn_C p s m args meth c RX9 cX9_goMinute 8 none D ct ad layM) {σ : sn_S} {x1 : Int32}  {o : sn_S} (hf : fX9_goMinute σ x1 = some o) (kr : sn_Kr p l e rmX9_goMinute s m args below meth c Q D ct ad layM cX9_goMinute .return_ (true) o []) : sn_At p l e rmX9_goMinute s m args below meth c Q D ct ad layM 8 σ 0 [(0, .ref (ad 0)), (1, .int x1)] [] := by
  intro H locs ls hw hl
  have hx := C.1
  have hb := C.2.1
  unfold fX9_goMinute at hf
  refine lv_aload_n hx hb dX9_goMinute_0 rfl (lv_at hl 0 rfl) ?_
  refine sn_getC (r := 11) C hw fd_RX9_46 layM_0 rfl dX9_goMinute_1 ?_
  refine lv_iload_n hx hb dX9_goMinute_4 rfl (lv_at hl 1 rfl) ?_
  refine lv_iconst (v := 0) hx hb dX9_goMinute_5 rfl ?_
  obtain ⟨g_1, hf⟩ := sn_gdE hf
  refine sn_iast C hw layM_11 g_1 dX9_goMinute_6 (fun H locs hw => ?_)
  obtain ⟨σ_2, e_3, hf⟩ := sn_ltE hf
  rw [← e_3] at hw
  refine lv_iload_n hx hb dX9_goMinute_7 rfl (lv_at hl 1 rfl) ?_
  refine lv_if_ne (tgt := 15) hx hb dX9_goMinute_8 (by decide) (fun c_4 => ?_) (fun c_4 => ?_)
  · have hf := sn_el c_4 hf
    refine lv_aload_n hx hb dX9_goMinute_15 rfl (lv_at hl 0 rfl) ?_
    refine sn_getC (r := 11) C hw fd_RX9_46 layM_0 rfl dX9_goMinute_16 ?_
    refine lv_iload_n hx hb dX9_goMinute_19 rfl (lv_at hl 1 rfl) ?_
    refine lv_iconst (v := 1) hx hb dX9_goMinute_20 rfl ?_
    refine lv_isub hx hb dX9_goMinute_21 ?_
    obtain ⟨g_5, hf⟩ := sn_gdE hf
    refine sn_iald C hw layM_11 g_5 dX9_goMinute_22 ?_
    exact wX9_goMinute_23 C  hf kr _ _ _ hw (lv_sub hl [0, 1] rfl)
  · have hf := sn_if c_4 hf
    refine lv_iconst (v := 0) hx hb dX9_goMinute_11 rfl ?_
    refine lv_goto (tgt := 23) hx hb dX9_goMinute_12 (by decide) ?_
    exact wX9_goMinute_23 C  hf kr _ _ _ hw (lv_sub hl [0, 1] rfl)
theorem ctX9_goMinute (l : Launch) {σ : sn_S} {x1 : Int32}  {o : sn_S} (hf : fX9_goMinute σ x1 = some o) : sn_M l yX9_goMinute cX9_goMinute 8 none rmX9_goMinute layM (fun ad => [.ref (ad 0), .int x1]) σ none o :=
  sn_met (by decide) (fun _ => Nat.le_of_ble_eq_true rfl) (fun p e s m args below meth c ls D ct ad C hw hl => wX9_goMinute_in C  hf (fun H locs ls pc hw ok hd => sn_vret C hw hd) _ _ _ hw hl)
end
