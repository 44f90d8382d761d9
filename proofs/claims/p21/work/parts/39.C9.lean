section
variable {p : Program} {l : Launch} {e : Env} {s : State} {m : MethodId} {args : Array Value} {below : List Frame} {meth : Method} {c : Code} {Q : State → Prop} {D : va_G} {ct : Nat → ClassId} {ad : Nat → Nat} {A : Nat → Prop} {lay : List sn_E}
-- X8_back
abbrev rmX8_back : Room := { frames := 6, cells := 0, slots := 0, locals := 133 }
def fX8_back (σ : sn_S) (x1 : Int32) : Option (Int32 × sn_S) :=
  (if x1 < 0 then
  (some ((-2 : Int32), σ))
  else
  (if x1 < (3 : Int32) then
  (sn_gd (sn_in x1 3) (if (sn_I σ 16 x1.toNatClampNeg) = 0 then
  (some ((-6 : Int32), σ))
  else
  (sn_gd (sn_in x1 3) ((fX2_copyFrom σ 1 (sn_at sn_rs15 x1)).bind fun t_6 => ((fX8_liveAnew t_6).bind fun t_8 => (some ((0 : Int32), t_8)))))))
  else
  (some ((-2 : Int32), σ))))
theorem wX8_back_in (C : sn_C p s m args meth c RX8 cX8_back 2 (some .int) D ct ad layC A) {σ : sn_S} {x1 : Int32}  {o : (Int32 × sn_S)} (hf : fX8_back σ x1 = some o) (kr : sn_Kr p l e rmX8_back s m args below meth c Q D ct ad layC A cX8_back .ireturn (true) o.2 [.int o.1]) : sn_At p l e rmX8_back s m args below meth c Q D ct ad layC A 2 σ 0 [(0, .ref (ad 0)), (1, .int x1)] [] := by
  intro H locs ls hw hl
  have hx := C.1
  have hb := C.2.1
  unfold fX8_back at hf
  refine lv_iload_n hx hb dX8_back_0 rfl (lv_at hl 1 rfl) ?_
  refine lv_if_lt (tgt := 9) hx hb dX8_back_1 (by decide) (fun c_1 => ?_) (fun c_1 => ?_)
  · have hf := sn_if c_1 hf
    refine lv_bipush (v := (-2)) hx hb dX8_back_9 (by decide) ?_
    cases hf
    exact kr _ _ _ _ hw rfl dX8_back_11
  · have hf := sn_el c_1 hf
    refine lv_iload_n hx hb dX8_back_4 rfl (lv_at hl 1 rfl) ?_
    refine lv_iconst (v := 3) hx hb dX8_back_5 rfl ?_
    refine lv_icmp_lt (tgt := 12) hx hb dX8_back_6 (by decide) (fun c_2 => ?_) (fun c_2 => ?_)
    · have hf := sn_if c_2 hf
      refine lv_aload_n hx hb dX8_back_12 rfl (lv_at hl 0 rfl) ?_
      refine sn_getC (r := 16) C hw fd_RX8_23 layC_0 rfl dX8_back_13 ?_
      refine lv_iload_n hx hb dX8_back_16 rfl (lv_at hl 1 rfl) ?_
      obtain ⟨g_3, hf⟩ := sn_gdE hf
      refine sn_zald C hw layC_16 g_3 dX8_back_17 ?_
      refine lv_if_ne (tgt := 24) hx hb dX8_back_18 (by decide) (fun c_4 => ?_) (fun c_4 => ?_)
      · have hf := sn_el c_4 hf
        refine lv_aload_n hx hb dX8_back_24 rfl (lv_at hl 0 rfl) ?_
        refine sn_getC (r := 1) C hw fd_RX8_10 layC_0 rfl dX8_back_25 ?_
        refine lv_aload_n hx hb dX8_back_28 rfl (lv_at hl 0 rfl) ?_
        refine sn_getC (r := 15) C hw fd_RX8_19 layC_0 rfl dX8_back_29 ?_
        refine lv_iload_n hx hb dX8_back_32 rfl (lv_at hl 1 rfl) ?_
        obtain ⟨g_5, hf⟩ := sn_gdE hf
        refine sn_aldO C hw layC_15 rfl g_5 dX8_back_33 ?_
        obtain ⟨t_6, h_7, hf⟩ := sn_bd hf
        refine sn_callVv (rest := []) C hw (ctX2_copyFrom l sn_isX2_1 (sn_rs_house g_5) h_7) kl_RX8_94 (sn_look sn_isX2_1 (k := 0) rfl) rfl rfl rfl rfl (Nat.le_of_ble_eq_true rfl) dX8_back_34 hl.1 (fun H locs hw => ?_)
        refine lv_aload_n hx hb dX8_back_37 rfl (lv_at hl 0 rfl) ?_
        obtain ⟨t_8, h_9, hf⟩ := sn_bd hf
        refine sn_callVv (rest := []) C hw (ctX8_liveAnew l  h_9) kl_RX8_97 layC_0 rfl rfl rfl rfl (Nat.le_of_ble_eq_true rfl) dX8_back_38 hl.1 (fun H locs hw => ?_)
        refine lv_iconst (v := 0) hx hb dX8_back_41 rfl ?_
        cases hf
        exact kr _ _ _ _ hw rfl dX8_back_42
      · have hf := sn_if c_4 hf
        refine lv_bipush (v := (-6)) hx hb dX8_back_21 (by decide) ?_
        cases hf
        exact kr _ _ _ _ hw rfl dX8_back_23
    · have hf := sn_el c_2 hf
      refine lv_bipush (v := (-2)) hx hb dX8_back_9 (by decide) ?_
      cases hf
      exact kr _ _ _ _ hw rfl dX8_back_11
theorem ctX8_back (l : Launch) {σ : sn_S} {x1 : Int32}  {o : (Int32 × sn_S)} (hf : fX8_back σ x1 = some o) : sn_M l yX8_back cX8_back 2 (some .int) rmX8_back layC (fun ad => [.ref (ad 0), .int x1]) σ (some (fun _ => .int o.1)) o.2 :=
  sn_met (by decide) (fun _ => Nat.le_of_ble_eq_true rfl) (fun p e s m args below meth c ls D ct ad A C hw hl => wX8_back_in C  hf (fun H locs ls pc hw ok hd => sn_iret C hw hd) _ _ _ hw hl)
-- X8_row
abbrev rmX8_row : Room := { frames := 2, cells := 0, slots := 0, locals := 47 }
def fX8_row (σ : sn_S) (x1 : Int32) (x2 : Int32) (x3 : Int32) : Option (Int32 × sn_S) :=
  ((fX6_isSlot x1).bind fun t_1 => (if t_1 = 0 then
  (some ((-2 : Int32), σ))
  else
  (if x2 < 0 then
  (some ((-2 : Int32), σ))
  else
  (if (3 : Int32) < x2 then
  (some ((-2 : Int32), σ))
  else
  (if x3 ≤ (60 : Int32) then
  (if 0 ≤ x3 then
  ((fX6_make σ x1 x2 x3).bind fun t_8 => (some ((0 : Int32), t_8)))
  else
  (some ((-3 : Int32), σ)))
  else
  (some ((-2 : Int32), σ)))))))
theorem wX8_row_in (C : sn_C p s m args meth c RX8 cX8_row 4 (some .int) D ct ad layC A) {σ : sn_S} {x1 : Int32} {x2 : Int32} {x3 : Int32}  {o : (Int32 × sn_S)} (hf : fX8_row σ x1 x2 x3 = some o) (kr : sn_Kr p l e rmX8_row s m args below meth c Q D ct ad layC A cX8_row .ireturn (true) o.2 [.int o.1]) : sn_At p l e rmX8_row s m args below meth c Q D ct ad layC A 4 σ 0 [(0, .ref (ad 0)), (1, .int x1), (2, .int x2), (3, .int x3)] [] := by
  intro H locs ls hw hl
  have hx := C.1
  have hb := C.2.1
  unfold fX8_row at hf
  refine lv_iload_n hx hb dX8_row_0 rfl (lv_at hl 1 rfl) ?_
  obtain ⟨t_1, h_2, hf⟩ := sn_bd hf
  refine sn_callSi (rest := []) C hw (ctX6_isSlot l  h_2) kl_RX8_287 rfl rfl rfl (Nat.le_of_ble_eq_true rfl) dX8_row_1 hl.1 (fun H locs hw => ?_)
  refine lv_if_eq (tgt := 22) hx hb dX8_row_4 (by decide) (fun c_3 => ?_) (fun c_3 => ?_)
  · have hf := sn_if c_3 hf
    refine lv_bipush (v := (-2)) hx hb dX8_row_22 (by decide) ?_
    cases hf
    exact kr _ _ _ _ hw rfl dX8_row_24
  · have hf := sn_el c_3 hf
    refine lv_iload_n hx hb dX8_row_7 rfl (lv_at hl 2 rfl) ?_
    refine lv_if_lt (tgt := 22) hx hb dX8_row_8 (by decide) (fun c_4 => ?_) (fun c_4 => ?_)
    · have hf := sn_if c_4 hf
      refine lv_bipush (v := (-2)) hx hb dX8_row_22 (by decide) ?_
      cases hf
      exact kr _ _ _ _ hw rfl dX8_row_24
    · have hf := sn_el c_4 hf
      refine lv_iload_n hx hb dX8_row_11 rfl (lv_at hl 2 rfl) ?_
      refine lv_iconst (v := 3) hx hb dX8_row_12 rfl ?_
      refine lv_icmp_gt (tgt := 22) hx hb dX8_row_13 (by decide) (fun c_5 => ?_) (fun c_5 => ?_)
      · have hf := sn_if c_5 hf
        refine lv_bipush (v := (-2)) hx hb dX8_row_22 (by decide) ?_
        cases hf
        exact kr _ _ _ _ hw rfl dX8_row_24
      · have hf := sn_el c_5 hf
        refine lv_iload_n hx hb dX8_row_16 rfl (lv_at hl 3 rfl) ?_
        refine lv_bipush (v := 60) hx hb dX8_row_17 (by decide) ?_
        refine lv_icmp_le (tgt := 25) hx hb dX8_row_19 (by decide) (fun c_6 => ?_) (fun c_6 => ?_)
        · have hf := sn_if c_6 hf
          refine lv_iload_n hx hb dX8_row_25 rfl (lv_at hl 3 rfl) ?_
          refine lv_if_ge (tgt := 32) hx hb dX8_row_26 (by decide) (fun c_7 => ?_) (fun c_7 => ?_)
          · have hf := sn_if c_7 hf
            refine lv_aload_n hx hb dX8_row_32 rfl (lv_at hl 0 rfl) ?_
            refine sn_getC (r := 19) C hw fd_RX8_37 layC_0 rfl dX8_row_33 ?_
            refine lv_iload_n hx hb dX8_row_36 rfl (lv_at hl 1 rfl) ?_
            refine lv_iload_n hx hb dX8_row_37 rfl (lv_at hl 2 rfl) ?_
            refine lv_iload_n hx hb dX8_row_38 rfl (lv_at hl 3 rfl) ?_
            obtain ⟨t_8, h_9, hf⟩ := sn_bd hf
            refine sn_callVv (rest := []) C hw (ctX6_make l  h_9) kl_RX8_354 layC_19 rfl rfl rfl rfl (Nat.le_of_ble_eq_true rfl) dX8_row_39 hl.1 (fun H locs hw => ?_)
            refine lv_iconst (v := 0) hx hb dX8_row_42 rfl ?_
            cases hf
            exact kr _ _ _ _ hw rfl dX8_row_43
          · have hf := sn_el c_7 hf
            refine lv_bipush (v := (-3)) hx hb dX8_row_29 (by decide) ?_
            cases hf
            exact kr _ _ _ _ hw rfl dX8_row_31
        · have hf := sn_el c_6 hf
          refine lv_bipush (v := (-2)) hx hb dX8_row_22 (by decide) ?_
          cases hf
          exact kr _ _ _ _ hw rfl dX8_row_24
theorem ctX8_row (l : Launch) {σ : sn_S} {x1 : Int32} {x2 : Int32} {x3 : Int32}  {o : (Int32 × sn_S)} (hf : fX8_row σ x1 x2 x3 = some o) : sn_M l yX8_row cX8_row 4 (some .int) rmX8_row layC (fun ad => [.ref (ad 0), .int x1, .int x2, .int x3]) σ (some (fun _ => .int o.1)) o.2 :=
  sn_met (by decide) (fun _ => Nat.le_of_ble_eq_true rfl) (fun p e s m args below meth c ls D ct ad A C hw hl => wX8_row_in C  hf (fun H locs ls pc hw ok hd => sn_iret C hw hd) _ _ _ hw hl)
-- X8_write
abbrev rmX8_write : Room := { frames := 1, cells := 0, slots := 0, locals := 24 }
def fX8_write (σ : sn_S) (x1 : Int32) (x2 : Int32) (x3 : Int64) : Option (Int32 × sn_S) :=
  ((fX6_isSlot x1).bind fun t_1 => (if t_1 = 0 then
  (some ((-2 : Int32), σ))
  else
  ((fX6_has σ x1).bind fun t_4 => (if t_4 = 0 then
  (some ((-6 : Int32), σ))
  else
  (if x2 < 0 then
  (some ((-7 : Int32), σ))
  else
  (sn_gd (sn_in x1 4) (if x2 < (sn_I σ 26 x1.toNatClampNeg) then
  ((fX6_put σ x1 x2 x3).bind fun t_10 => (some ((0 : Int32), t_10)))
  else
  (some ((-7 : Int32), σ)))))))))
theorem wX8_write_in (C : sn_C p s m args meth c RX8 cX8_write 5 (some .int) D ct ad layC A) {σ : sn_S} {x1 : Int32} {x2 : Int32} {x3 : Int64}  {o : (Int32 × sn_S)} (hf : fX8_write σ x1 x2 x3 = some o) (kr : sn_Kr p l e rmX8_write s m args below meth c Q D ct ad layC A cX8_write .ireturn (true) o.2 [.int o.1]) : sn_At p l e rmX8_write s m args below meth c Q D ct ad layC A 5 σ 0 [(0, .ref (ad 0)), (1, .int x1), (2, .int x2), (3, .long x3)] [] := by
  intro H locs ls hw hl
  have hx := C.1
  have hb := C.2.1
  unfold fX8_write at hf
  refine lv_iload_n hx hb dX8_write_0 rfl (lv_at hl 1 rfl) ?_
  obtain ⟨t_1, h_2, hf⟩ := sn_bd hf
  refine sn_callSi (rest := []) C hw (ctX6_isSlot l  h_2) kl_RX8_287 rfl rfl rfl (Nat.le_of_ble_eq_true rfl) dX8_write_1 hl.1 (fun H locs hw => ?_)
  refine lv_if_ne (tgt := 10) hx hb dX8_write_4 (by decide) (fun c_3 => ?_) (fun c_3 => ?_)
  · have hf := sn_el c_3 hf
    refine lv_aload_n hx hb dX8_write_10 rfl (lv_at hl 0 rfl) ?_
    refine sn_getC (r := 19) C hw fd_RX8_37 layC_0 rfl dX8_write_11 ?_
    refine lv_iload_n hx hb dX8_write_14 rfl (lv_at hl 1 rfl) ?_
    obtain ⟨t_4, h_5, hf⟩ := sn_bd hf
    refine sn_callVi (rest := []) C hw (ctX6_has l  h_5) kl_RX8_290 layC_19 rfl rfl rfl rfl (Nat.le_of_ble_eq_true rfl) dX8_write_15 hl.1 (fun H locs hw => ?_)
    refine lv_if_ne (tgt := 24) hx hb dX8_write_18 (by decide) (fun c_6 => ?_) (fun c_6 => ?_)
    · have hf := sn_el c_6 hf
      refine lv_iload_n hx hb dX8_write_24 rfl (lv_at hl 2 rfl) ?_
      refine lv_if_lt (tgt := 41) hx hb dX8_write_25 (by decide) (fun c_7 => ?_) (fun c_7 => ?_)
      · have hf := sn_if c_7 hf
        refine lv_bipush (v := (-7)) hx hb dX8_write_41 (by decide) ?_
        cases hf
        exact kr _ _ _ _ hw rfl dX8_write_43
      · have hf := sn_el c_7 hf
        refine lv_iload_n hx hb dX8_write_28 rfl (lv_at hl 2 rfl) ?_
        refine lv_aload_n hx hb dX8_write_29 rfl (lv_at hl 0 rfl) ?_
        refine sn_getC (r := 19) C hw fd_RX8_37 layC_0 rfl dX8_write_30 ?_
        refine sn_getC (r := 26) C hw fd_RX8_293 layC_19 rfl dX8_write_33 ?_
        refine lv_iload_n hx hb dX8_write_36 rfl (lv_at hl 1 rfl) ?_
        obtain ⟨g_8, hf⟩ := sn_gdE hf
        refine sn_iald C hw layC_26 g_8 dX8_write_37 ?_
        refine lv_icmp_lt (tgt := 44) hx hb dX8_write_38 (by decide) (fun c_9 => ?_) (fun c_9 => ?_)
        · have hf := sn_if c_9 hf
          refine lv_aload_n hx hb dX8_write_44 rfl (lv_at hl 0 rfl) ?_
          refine sn_getC (r := 19) C hw fd_RX8_37 layC_0 rfl dX8_write_45 ?_
          refine lv_iload_n hx hb dX8_write_48 rfl (lv_at hl 1 rfl) ?_
          refine lv_iload_n hx hb dX8_write_49 rfl (lv_at hl 2 rfl) ?_
          refine lv_lload_n hx hb dX8_write_50 rfl (lv_at hl 3 rfl) ?_
          obtain ⟨t_10, h_11, hf⟩ := sn_bd hf
          refine sn_callVv (rest := []) C hw (ctX6_put l  h_11) kl_RX8_358 layC_19 rfl rfl rfl rfl (Nat.le_of_ble_eq_true rfl) dX8_write_51 hl.1 (fun H locs hw => ?_)
          refine lv_iconst (v := 0) hx hb dX8_write_54 rfl ?_
          cases hf
          exact kr _ _ _ _ hw rfl dX8_write_55
        · have hf := sn_el c_9 hf
          refine lv_bipush (v := (-7)) hx hb dX8_write_41 (by decide) ?_
          cases hf
          exact kr _ _ _ _ hw rfl dX8_write_43
    · have hf := sn_if c_6 hf
      refine lv_bipush (v := (-6)) hx hb dX8_write_21 (by decide) ?_
      cases hf
      exact kr _ _ _ _ hw rfl dX8_write_23
  · have hf := sn_if c_3 hf
    refine lv_bipush (v := (-2)) hx hb dX8_write_7 (by decide) ?_
    cases hf
    exact kr _ _ _ _ hw rfl dX8_write_9
theorem ctX8_write (l : Launch) {σ : sn_S} {x1 : Int32} {x2 : Int32} {x3 : Int64}  {o : (Int32 × sn_S)} (hf : fX8_write σ x1 x2 x3 = some o) : sn_M l yX8_write cX8_write 5 (some .int) rmX8_write layC (fun ad => [.ref (ad 0), .int x1, .int x2, .long x3]) σ (some (fun _ => .int o.1)) o.2 :=
  sn_met (by decide) (fun _ => Nat.le_of_ble_eq_true rfl) (fun p e s m args below meth c ls D ct ad A C hw hl => wX8_write_in C  hf (fun H locs ls pc hw ok hd => sn_iret C hw hd) _ _ _ hw hl)
-- X8_paste
abbrev rmX8_paste : Room := { frames := 1, cells := 0, slots := 0, locals := 48 }
def fX8_paste (σ : sn_S) (x1 : Int32) (x2 : Int32) (x3 : Int32) (x4 : Int32) (x5 : Int32) : Option (Int32 × sn_S) :=
  ((fX6_isSlot x1).bind fun t_1 => (if t_1 = 0 then
  (some ((-2 : Int32), σ))
  else
  ((fX6_isSlot x3).bind fun t_4 => (if t_4 = 0 then
  (some ((-2 : Int32), σ))
  else
  ((fX6_has σ x1).bind fun t_7 => (if t_7 = 0 then
  (some ((-6 : Int32), σ))
  else
  ((fX6_has σ x3).bind fun t_10 => (if t_10 = 0 then
  (some ((-6 : Int32), σ))
  else
  (sn_gd (sn_in x1 4) (sn_gd (sn_in x3 4) (if (sn_I σ 25 x1.toNatClampNeg) = (sn_I σ 25 x3.toNatClampNeg) then
  ((fX6_spans σ x1 x2 x5).bind fun t_16 => (if t_16 = 0 then
  (some ((-7 : Int32), σ))
  else
  ((fX6_spans σ x3 x4 x5).bind fun t_19 => (if t_19 = 0 then
  (some ((-7 : Int32), σ))
  else
  (sn_gd (sn_in x1 4) (sn_gd (sn_in x3 4) (sn_gd (sn_cpok x2 x4 x5 60 60) (sn_lt (sn_wL σ (sn_at sn_rs20 x3) (va_cpy (sn_L σ (sn_at sn_rs20 x1)) (sn_L σ (sn_at sn_rs20 x3)) x2.toNatClampNeg x4.toNatClampNeg x5.toNatClampNeg)) fun σ_25 => (some ((0 : Int32), σ_25))))))))))
  else
  (some ((-8 : Int32), σ)))))))))))))
theorem wX8_paste_in (C : sn_C p s m args meth c RX8 cX8_paste 6 (some .int) D ct ad layC A) {σ : sn_S} {x1 : Int32} {x2 : Int32} {x3 : Int32} {x4 : Int32} {x5 : Int32}  {o : (Int32 × sn_S)} (hf : fX8_paste σ x1 x2 x3 x4 x5 = some o) (kr : sn_Kr p l e rmX8_paste s m args below meth c Q D ct ad layC A cX8_paste .ireturn (true) o.2 [.int o.1]) : sn_At p l e rmX8_paste s m args below meth c Q D ct ad layC A 6 σ 0 [(0, .ref (ad 0)), (1, .int x1), (2, .int x2), (3, .int x3), (4, .int x4), (5, .int x5)] [] := by
  intro H locs ls hw hl
  have hx := C.1
  have hb := C.2.1
  unfold fX8_paste at hf
  refine lv_iload_n hx hb dX8_paste_0 rfl (lv_at hl 1 rfl) ?_
  obtain ⟨t_1, h_2, hf⟩ := sn_bd hf
  refine sn_callSi (rest := []) C hw (ctX6_isSlot l  h_2) kl_RX8_287 rfl rfl rfl (Nat.le_of_ble_eq_true rfl) dX8_paste_1 hl.1 (fun H locs hw => ?_)
  refine lv_if_eq (tgt := 14) hx hb dX8_paste_4 (by decide) (fun c_3 => ?_) (fun c_3 => ?_)
  · have hf := sn_if c_3 hf
    refine lv_bipush (v := (-2)) hx hb dX8_paste_14 (by decide) ?_
    cases hf
    exact kr _ _ _ _ hw rfl dX8_paste_16
  · have hf := sn_el c_3 hf
    refine lv_iload_n hx hb dX8_paste_7 rfl (lv_at hl 3 rfl) ?_
    obtain ⟨t_4, h_5, hf⟩ := sn_bd hf
    refine sn_callSi (rest := []) C hw (ctX6_isSlot l  h_5) kl_RX8_287 rfl rfl rfl (Nat.le_of_ble_eq_true rfl) dX8_paste_8 hl.1 (fun H locs hw => ?_)
    refine lv_if_ne (tgt := 17) hx hb dX8_paste_11 (by decide) (fun c_6 => ?_) (fun c_6 => ?_)
    · have hf := sn_el c_6 hf
      refine lv_aload_n hx hb dX8_paste_17 rfl (lv_at hl 0 rfl) ?_
      refine sn_getC (r := 19) C hw fd_RX8_37 layC_0 rfl dX8_paste_18 ?_
      refine lv_iload_n hx hb dX8_paste_21 rfl (lv_at hl 1 rfl) ?_
      obtain ⟨t_7, h_8, hf⟩ := sn_bd hf
      refine sn_callVi (rest := []) C hw (ctX6_has l  h_8) kl_RX8_290 layC_19 rfl rfl rfl rfl (Nat.le_of_ble_eq_true rfl) dX8_paste_22 hl.1 (fun H locs hw => ?_)
      refine lv_if_eq (tgt := 39) hx hb dX8_paste_25 (by decide) (fun c_9 => ?_) (fun c_9 => ?_)
      · have hf := sn_if c_9 hf
        refine lv_bipush (v := (-6)) hx hb dX8_paste_39 (by decide) ?_
        cases hf
        exact kr _ _ _ _ hw rfl dX8_paste_41
      · have hf := sn_el c_9 hf
        refine lv_aload_n hx hb dX8_paste_28 rfl (lv_at hl 0 rfl) ?_
        refine sn_getC (r := 19) C hw fd_RX8_37 layC_0 rfl dX8_paste_29 ?_
        refine lv_iload_n hx hb dX8_paste_32 rfl (lv_at hl 3 rfl) ?_
        obtain ⟨t_10, h_11, hf⟩ := sn_bd hf
        refine sn_callVi (rest := []) C hw (ctX6_has l  h_11) kl_RX8_290 layC_19 rfl rfl rfl rfl (Nat.le_of_ble_eq_true rfl) dX8_paste_33 hl.1 (fun H locs hw => ?_)
        refine lv_if_ne (tgt := 42) hx hb dX8_paste_36 (by decide) (fun c_12 => ?_) (fun c_12 => ?_)
        · have hf := sn_el c_12 hf
          refine lv_aload_n hx hb dX8_paste_42 rfl (lv_at hl 0 rfl) ?_
          refine sn_getC (r := 19) C hw fd_RX8_37 layC_0 rfl dX8_paste_43 ?_
          refine sn_getC (r := 25) C hw fd_RX8_361 layC_19 rfl dX8_paste_46 ?_
          refine lv_iload_n hx hb dX8_paste_49 rfl (lv_at hl 1 rfl) ?_
          obtain ⟨g_13, hf⟩ := sn_gdE hf
          refine sn_iald C hw layC_25 g_13 dX8_paste_50 ?_
          refine lv_aload_n hx hb dX8_paste_51 rfl (lv_at hl 0 rfl) ?_
          refine sn_getC (r := 19) C hw fd_RX8_37 layC_0 rfl dX8_paste_52 ?_
          refine sn_getC (r := 25) C hw fd_RX8_361 layC_19 rfl dX8_paste_55 ?_
          refine lv_iload_n hx hb dX8_paste_58 rfl (lv_at hl 3 rfl) ?_
          obtain ⟨g_14, hf⟩ := sn_gdE hf
          refine sn_iald C hw layC_25 g_14 dX8_paste_59 ?_
          refine lv_icmp_eq (tgt := 66) hx hb dX8_paste_60 (by decide) (fun c_15 => ?_) (fun c_15 => ?_)
          · have hf := sn_if c_15 hf
            refine lv_aload_n hx hb dX8_paste_66 rfl (lv_at hl 0 rfl) ?_
            refine sn_getC (r := 19) C hw fd_RX8_37 layC_0 rfl dX8_paste_67 ?_
            refine lv_iload_n hx hb dX8_paste_70 rfl (lv_at hl 1 rfl) ?_
            refine lv_iload_n hx hb dX8_paste_71 rfl (lv_at hl 2 rfl) ?_
            refine lv_iload hx hb dX8_paste_72 (lv_at hl 5 rfl) ?_
            obtain ⟨t_16, h_17, hf⟩ := sn_bd hf
            refine sn_callVi (rest := []) C hw (ctX6_spans l  h_17) kl_RX8_364 layC_19 rfl rfl rfl rfl (Nat.le_of_ble_eq_true rfl) dX8_paste_74 hl.1 (fun H locs hw => ?_)
            refine lv_if_eq (tgt := 95) hx hb dX8_paste_77 (by decide) (fun c_18 => ?_) (fun c_18 => ?_)
            · have hf := sn_if c_18 hf
              refine lv_bipush (v := (-7)) hx hb dX8_paste_95 (by decide) ?_
              cases hf
              exact kr _ _ _ _ hw rfl dX8_paste_97
            · have hf := sn_el c_18 hf
              refine lv_aload_n hx hb dX8_paste_80 rfl (lv_at hl 0 rfl) ?_
              refine sn_getC (r := 19) C hw fd_RX8_37 layC_0 rfl dX8_paste_81 ?_
              refine lv_iload_n hx hb dX8_paste_84 rfl (lv_at hl 3 rfl) ?_
              refine lv_iload hx hb dX8_paste_85 (lv_at hl 4 rfl) ?_
              refine lv_iload hx hb dX8_paste_87 (lv_at hl 5 rfl) ?_
              obtain ⟨t_19, h_20, hf⟩ := sn_bd hf
              refine sn_callVi (rest := []) C hw (ctX6_spans l  h_20) kl_RX8_364 layC_19 rfl rfl rfl rfl (Nat.le_of_ble_eq_true rfl) dX8_paste_89 hl.1 (fun H locs hw => ?_)
              refine lv_if_ne (tgt := 98) hx hb dX8_paste_92 (by decide) (fun c_21 => ?_) (fun c_21 => ?_)
              · have hf := sn_el c_21 hf
                refine lv_aload_n hx hb dX8_paste_98 rfl (lv_at hl 0 rfl) ?_
                refine sn_getC (r := 19) C hw fd_RX8_37 layC_0 rfl dX8_paste_99 ?_
                refine sn_getC (r := 20) C hw fd_RX8_299 layC_19 rfl dX8_paste_102 ?_
                refine lv_iload_n hx hb dX8_paste_105 rfl (lv_at hl 1 rfl) ?_
                obtain ⟨g_22, hf⟩ := sn_gdE hf
                refine sn_aldA C hw layC_20 rfl g_22 dX8_paste_106 ?_
                refine lv_iload_n hx hb dX8_paste_107 rfl (lv_at hl 2 rfl) ?_
                refine lv_aload_n hx hb dX8_paste_108 rfl (lv_at hl 0 rfl) ?_
                refine sn_getC (r := 19) C hw fd_RX8_37 layC_0 rfl dX8_paste_109 ?_
                refine sn_getC (r := 20) C hw fd_RX8_299 layC_19 rfl dX8_paste_112 ?_
                refine lv_iload_n hx hb dX8_paste_115 rfl (lv_at hl 3 rfl) ?_
                obtain ⟨g_23, hf⟩ := sn_gdE hf
                refine sn_aldA C hw layC_20 rfl g_23 dX8_paste_116 ?_
                refine lv_iload hx hb dX8_paste_117 (lv_at hl 4 rfl) ?_
                refine lv_iload hx hb dX8_paste_119 (lv_at hl 5 rfl) ?_
                obtain ⟨g_24, hf⟩ := sn_gdE hf
                refine sn_cpyL (rest := []) C hw km_RX8_367 kna_copy kst_copy ki_System (sn_rs_row g_22) (sn_rs_row g_23) g_24 (Nat.le_of_ble_eq_true rfl) (Nat.le_of_ble_eq_true rfl) dX8_paste_121 hl.1 (fun H locs hw => ?_)
                obtain ⟨σ_25, e_26, hf⟩ := sn_ltE hf
                rw [← e_26] at hw
                refine lv_iconst (v := 0) hx hb dX8_paste_124 rfl ?_
                cases hf
                exact kr _ _ _ _ hw rfl dX8_paste_125
              · have hf := sn_if c_21 hf
                refine lv_bipush (v := (-7)) hx hb dX8_paste_95 (by decide) ?_
                cases hf
                exact kr _ _ _ _ hw rfl dX8_paste_97
          · have hf := sn_el c_15 hf
            refine lv_bipush (v := (-8)) hx hb dX8_paste_63 (by decide) ?_
            cases hf
            exact kr _ _ _ _ hw rfl dX8_paste_65
        · have hf := sn_if c_12 hf
          refine lv_bipush (v := (-6)) hx hb dX8_paste_39 (by decide) ?_
          cases hf
          exact kr _ _ _ _ hw rfl dX8_paste_41
    · have hf := sn_if c_6 hf
      refine lv_bipush (v := (-2)) hx hb dX8_paste_14 (by decide) ?_
      cases hf
      exact kr _ _ _ _ hw rfl dX8_paste_16
theorem ctX8_paste (l : Launch) {σ : sn_S} {x1 : Int32} {x2 : Int32} {x3 : Int32} {x4 : Int32} {x5 : Int32}  {o : (Int32 × sn_S)} (hf : fX8_paste σ x1 x2 x3 x4 x5 = some o) : sn_M l yX8_paste cX8_paste 6 (some .int) rmX8_paste layC (fun ad => [.ref (ad 0), .int x1, .int x2, .int x3, .int x4, .int x5]) σ (some (fun _ => .int o.1)) o.2 :=
  sn_met (by decide) (fun _ => Nat.le_of_ble_eq_true rfl) (fun p e s m args below meth c ls D ct ad A C hw hl => wX8_paste_in C  hf (fun H locs ls pc hw ok hd => sn_iret C hw hd) _ _ _ hw hl)
end
