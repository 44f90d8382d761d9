section
variable {p : Program} {l : Launch} {e : Env} {s : State} {m : MethodId} {args : Array Value} {below : List Frame} {meth : Method} {c : Code} {Q : State → Prop} {D : va_G} {ct : Nat → ClassId} {ad : Nat → Nat} {A : Nat → Prop} {lay : List sn_E}
-- X6_put
abbrev rmX6_put : Room := { frames := 0, cells := 0, slots := 0, locals := 0 }
def fX6_put (σ : sn_S) (x1 : Int32) (x2 : Int32) (x3 : Int64) : Option sn_S :=
  (sn_gd (sn_in x1 4) (if (sn_I σ 25 x1.toNatClampNeg) = 0 then
  (sn_gd (sn_in x1 4) (sn_gd (sn_in x2 60) (sn_lt (sn_pL σ (sn_at sn_rs20 x1) x2.toNatClampNeg x3.toInt32.toInt8.toInt32.toInt64) fun σ_5 => (some σ_5))))
  else
  (if (sn_I σ 25 x1.toNatClampNeg) = 1 then
  (sn_gd (sn_in x1 4) (sn_gd (sn_in x2 60) (sn_lt (sn_pL σ (sn_at sn_rs20 x1) x2.toNatClampNeg x3.toInt32.toInt16.toInt32.toInt64) fun σ_10 => (some σ_10))))
  else
  (if (sn_I σ 25 x1.toNatClampNeg) = 2 then
  (sn_gd (sn_in x1 4) (sn_gd (sn_in x2 60) (sn_lt (sn_pL σ (sn_at sn_rs20 x1) x2.toNatClampNeg x3.toInt32.toInt64) fun σ_15 => (some σ_15))))
  else
  (sn_gd (sn_in x1 4) (sn_gd (sn_in x2 60) (sn_lt (sn_pL σ (sn_at sn_rs20 x1) x2.toNatClampNeg x3) fun σ_19 => (some σ_19))))))))
theorem wX6_put_in (C : sn_C p s m args meth c RX6 cX6_put 5 none D ct ad layC A) {σ : sn_S} {x1 : Int32} {x2 : Int32} {x3 : Int64}  {o : sn_S} (hf : fX6_put σ x1 x2 x3 = some o) (kr : sn_Kr p l e rmX6_put s m args below meth c Q D ct ad layC A cX6_put .return_ (true) o []) : sn_At p l e rmX6_put s m args below meth c Q D ct ad layC A 5 σ 0 [(0, .ref (ad 19)), (1, .int x1), (2, .int x2), (3, .long x3)] [] := by
  intro H locs ls hw hl
  have hx := C.1
  have hb := C.2.1
  unfold fX6_put at hf
  refine lv_aload_n hx hb dX6_put_0 rfl (lv_at hl 0 rfl) ?_
  refine sn_getC (r := 25) C hw fd_RX6_16 layC_19 rfl dX6_put_1 ?_
  refine lv_iload_n hx hb dX6_put_4 rfl (lv_at hl 1 rfl) ?_
  obtain ⟨g_1, hf⟩ := sn_gdE hf
  refine sn_iald C hw layC_25 g_1 dX6_put_5 ?_
  by_cases c_2 : (sn_I σ 25 x1.toNatClampNeg) = 0
  · have hf := sn_if c_2 hf
    refine lv_tableIn (tgt := 32) (off := 26) hx hb dX6_put_6 (by rw [c_2]; decide) (by rw [c_2]; decide) (by rw [c_2]; rfl) (by decide) ?_
    refine lv_aload_n hx hb dX6_put_32 rfl (lv_at hl 0 rfl) ?_
    refine sn_getC (r := 20) C hw fd_RX6_11 layC_19 rfl dX6_put_33 ?_
    refine lv_iload_n hx hb dX6_put_36 rfl (lv_at hl 1 rfl) ?_
    obtain ⟨g_3, hf⟩ := sn_gdE hf
    refine sn_aldA C hw layC_20 rfl g_3 dX6_put_37 ?_
    refine lv_iload_n hx hb dX6_put_38 rfl (lv_at hl 2 rfl) ?_
    refine lv_lload_n hx hb dX6_put_39 rfl (lv_at hl 3 rfl) ?_
    refine lv_l2i hx hb dX6_put_40 rfl ?_
    refine lv_i2b hx hb dX6_put_41 rfl ?_
    refine lv_i2l hx hb dX6_put_42 rfl ?_
    obtain ⟨g_4, hf⟩ := sn_gdE hf
    refine sn_last C hw (sn_rs_row g_3) g_4 dX6_put_43 (fun H locs hw => ?_)
    obtain ⟨σ_5, e_6, hf⟩ := sn_ltE hf
    rw [← e_6] at hw
    refine lv_goto (tgt := 85) hx hb dX6_put_44 (by decide) ?_
    cases hf
    exact kr _ _ _ _ hw rfl dX6_put_85
  have hf := sn_el c_2 hf
  by_cases c_7 : (sn_I σ 25 x1.toNatClampNeg) = 1
  · have hf := sn_if c_7 hf
    refine lv_tableIn (tgt := 47) (off := 41) hx hb dX6_put_6 (by rw [c_7]; decide) (by rw [c_7]; decide) (by rw [c_7]; rfl) (by decide) ?_
    refine lv_aload_n hx hb dX6_put_47 rfl (lv_at hl 0 rfl) ?_
    refine sn_getC (r := 20) C hw fd_RX6_11 layC_19 rfl dX6_put_48 ?_
    refine lv_iload_n hx hb dX6_put_51 rfl (lv_at hl 1 rfl) ?_
    obtain ⟨g_8, hf⟩ := sn_gdE hf
    refine sn_aldA C hw layC_20 rfl g_8 dX6_put_52 ?_
    refine lv_iload_n hx hb dX6_put_53 rfl (lv_at hl 2 rfl) ?_
    refine lv_lload_n hx hb dX6_put_54 rfl (lv_at hl 3 rfl) ?_
    refine lv_l2i hx hb dX6_put_55 rfl ?_
    refine lv_i2s hx hb dX6_put_56 rfl ?_
    refine lv_i2l hx hb dX6_put_57 rfl ?_
    obtain ⟨g_9, hf⟩ := sn_gdE hf
    refine sn_last C hw (sn_rs_row g_8) g_9 dX6_put_58 (fun H locs hw => ?_)
    obtain ⟨σ_10, e_11, hf⟩ := sn_ltE hf
    rw [← e_11] at hw
    refine lv_goto (tgt := 85) hx hb dX6_put_59 (by decide) ?_
    cases hf
    exact kr _ _ _ _ hw rfl dX6_put_85
  have hf := sn_el c_7 hf
  by_cases c_12 : (sn_I σ 25 x1.toNatClampNeg) = 2
  · have hf := sn_if c_12 hf
    refine lv_tableIn (tgt := 62) (off := 56) hx hb dX6_put_6 (by rw [c_12]; decide) (by rw [c_12]; decide) (by rw [c_12]; rfl) (by decide) ?_
    refine lv_aload_n hx hb dX6_put_62 rfl (lv_at hl 0 rfl) ?_
    refine sn_getC (r := 20) C hw fd_RX6_11 layC_19 rfl dX6_put_63 ?_
    refine lv_iload_n hx hb dX6_put_66 rfl (lv_at hl 1 rfl) ?_
    obtain ⟨g_13, hf⟩ := sn_gdE hf
    refine sn_aldA C hw layC_20 rfl g_13 dX6_put_67 ?_
    refine lv_iload_n hx hb dX6_put_68 rfl (lv_at hl 2 rfl) ?_
    refine lv_lload_n hx hb dX6_put_69 rfl (lv_at hl 3 rfl) ?_
    refine lv_l2i hx hb dX6_put_70 rfl ?_
    refine lv_i2l hx hb dX6_put_71 rfl ?_
    obtain ⟨g_14, hf⟩ := sn_gdE hf
    refine sn_last C hw (sn_rs_row g_13) g_14 dX6_put_72 (fun H locs hw => ?_)
    obtain ⟨σ_15, e_16, hf⟩ := sn_ltE hf
    rw [← e_16] at hw
    refine lv_goto (tgt := 85) hx hb dX6_put_73 (by decide) ?_
    cases hf
    exact kr _ _ _ _ hw rfl dX6_put_85
  have hf := sn_el c_12 hf
  refine lv_tableOut (tgt := 76) hx hb dX6_put_6 (sn_swout3 c_2 c_7 c_12) (by decide) ?_
  refine lv_aload_n hx hb dX6_put_76 rfl (lv_at hl 0 rfl) ?_
  refine sn_getC (r := 20) C hw fd_RX6_11 layC_19 rfl dX6_put_77 ?_
  refine lv_iload_n hx hb dX6_put_80 rfl (lv_at hl 1 rfl) ?_
  obtain ⟨g_17, hf⟩ := sn_gdE hf
  refine sn_aldA C hw layC_20 rfl g_17 dX6_put_81 ?_
  refine lv_iload_n hx hb dX6_put_82 rfl (lv_at hl 2 rfl) ?_
  refine lv_lload_n hx hb dX6_put_83 rfl (lv_at hl 3 rfl) ?_
  obtain ⟨g_18, hf⟩ := sn_gdE hf
  refine sn_last C hw (sn_rs_row g_17) g_18 dX6_put_84 (fun H locs hw => ?_)
  obtain ⟨σ_19, e_20, hf⟩ := sn_ltE hf
  rw [← e_20] at hw
  cases hf
  exact kr _ _ _ _ hw rfl dX6_put_85
theorem ctX6_put (l : Launch) {σ : sn_S} {x1 : Int32} {x2 : Int32} {x3 : Int64}  {o : sn_S} (hf : fX6_put σ x1 x2 x3 = some o) : sn_M l yX6_put cX6_put 5 none rmX6_put layC (fun ad => [.ref (ad 19), .int x1, .int x2, .long x3]) σ none o :=
  sn_met (by decide) (fun _ => Nat.le_of_ble_eq_true rfl) (fun p e s m args below meth c ls D ct ad A C hw hl => wX6_put_in C  hf (fun H locs ls pc hw ok hd => sn_vret C hw hd) _ _ _ hw hl)
-- X6_spans
abbrev rmX6_spans : Room := { frames := 0, cells := 0, slots := 0, locals := 0 }
def fX6_spans (σ : sn_S) (x1 : Int32) (x2 : Int32) (x3 : Int32) : Option Int32 :=
  (if x2 < 0 then
  (sn_gd (sn_b01 (0 : Int32)) (some (0 : Int32)))
  else
  (if x3 < 0 then
  (sn_gd (sn_b01 (0 : Int32)) (some (0 : Int32)))
  else
  (sn_gd (sn_in x1 4) (if (sn_I σ 26 x1.toNatClampNeg) < x2 then
  (sn_gd (sn_b01 (0 : Int32)) (some (0 : Int32)))
  else
  (sn_gd (sn_in x1 4) (if ((sn_I σ 26 x1.toNatClampNeg) - x2) < x3 then
  (sn_gd (sn_b01 (0 : Int32)) (some (0 : Int32)))
  else
  (sn_gd (sn_b01 (1 : Int32)) (some (1 : Int32)))))))))
theorem wX6_spans_in (C : sn_C p s m args meth c RX6 cX6_spans 4 (some .boolean) D ct ad layC A) {σ : sn_S} {x1 : Int32} {x2 : Int32} {x3 : Int32}  {o : Int32} (hf : fX6_spans σ x1 x2 x3 = some o) (kr : sn_Kr p l e rmX6_spans s m args below meth c Q D ct ad layC A cX6_spans .ireturn (sn_b01 o) σ [.int o]) : sn_At p l e rmX6_spans s m args below meth c Q D ct ad layC A 4 σ 0 [(0, .ref (ad 19)), (1, .int x1), (2, .int x2), (3, .int x3)] [] := by
  intro H locs ls hw hl
  have hx := C.1
  have hb := C.2.1
  unfold fX6_spans at hf
  refine lv_iload_n hx hb dX6_spans_0 rfl (lv_at hl 2 rfl) ?_
  refine lv_if_lt (tgt := 34) hx hb dX6_spans_1 (by decide) (fun c_1 => ?_) (fun c_1 => ?_)
  · have hf := sn_if c_1 hf
    refine lv_iconst (v := 0) hx hb dX6_spans_34 rfl ?_
    obtain ⟨g_2, hf⟩ := sn_gdE hf
    cases hf
    exact kr _ _ _ _ hw g_2 dX6_spans_35
  · have hf := sn_el c_1 hf
    refine lv_iload_n hx hb dX6_spans_4 rfl (lv_at hl 3 rfl) ?_
    refine lv_if_lt (tgt := 34) hx hb dX6_spans_5 (by decide) (fun c_3 => ?_) (fun c_3 => ?_)
    · have hf := sn_if c_3 hf
      refine lv_iconst (v := 0) hx hb dX6_spans_34 rfl ?_
      obtain ⟨g_4, hf⟩ := sn_gdE hf
      cases hf
      exact kr _ _ _ _ hw g_4 dX6_spans_35
    · have hf := sn_el c_3 hf
      refine lv_iload_n hx hb dX6_spans_8 rfl (lv_at hl 2 rfl) ?_
      refine lv_aload_n hx hb dX6_spans_9 rfl (lv_at hl 0 rfl) ?_
      refine sn_getC (r := 26) C hw fd_RX6_20 layC_19 rfl dX6_spans_10 ?_
      refine lv_iload_n hx hb dX6_spans_13 rfl (lv_at hl 1 rfl) ?_
      obtain ⟨g_5, hf⟩ := sn_gdE hf
      refine sn_iald C hw layC_26 g_5 dX6_spans_14 ?_
      refine lv_icmp_gt (tgt := 34) hx hb dX6_spans_15 (by decide) (fun c_6 => ?_) (fun c_6 => ?_)
      · have hf := sn_if c_6 hf
        refine lv_iconst (v := 0) hx hb dX6_spans_34 rfl ?_
        obtain ⟨g_7, hf⟩ := sn_gdE hf
        cases hf
        exact kr _ _ _ _ hw g_7 dX6_spans_35
      · have hf := sn_el c_6 hf
        refine lv_iload_n hx hb dX6_spans_18 rfl (lv_at hl 3 rfl) ?_
        refine lv_aload_n hx hb dX6_spans_19 rfl (lv_at hl 0 rfl) ?_
        refine sn_getC (r := 26) C hw fd_RX6_20 layC_19 rfl dX6_spans_20 ?_
        refine lv_iload_n hx hb dX6_spans_23 rfl (lv_at hl 1 rfl) ?_
        obtain ⟨g_8, hf⟩ := sn_gdE hf
        refine sn_iald C hw layC_26 g_8 dX6_spans_24 ?_
        refine lv_iload_n hx hb dX6_spans_25 rfl (lv_at hl 2 rfl) ?_
        refine lv_isub hx hb dX6_spans_26 ?_
        refine lv_icmp_gt (tgt := 34) hx hb dX6_spans_27 (by decide) (fun c_9 => ?_) (fun c_9 => ?_)
        · have hf := sn_if c_9 hf
          refine lv_iconst (v := 0) hx hb dX6_spans_34 rfl ?_
          obtain ⟨g_10, hf⟩ := sn_gdE hf
          cases hf
          exact kr _ _ _ _ hw g_10 dX6_spans_35
        · have hf := sn_el c_9 hf
          refine lv_iconst (v := 1) hx hb dX6_spans_30 rfl ?_
          refine lv_goto (tgt := 35) hx hb dX6_spans_31 (by decide) ?_
          obtain ⟨g_11, hf⟩ := sn_gdE hf
          cases hf
          exact kr _ _ _ _ hw g_11 dX6_spans_35
theorem ctX6_spans (l : Launch) {σ : sn_S} {x1 : Int32} {x2 : Int32} {x3 : Int32}  {o : Int32} (hf : fX6_spans σ x1 x2 x3 = some o) : sn_M l yX6_spans cX6_spans 4 (some .boolean) rmX6_spans layC (fun ad => [.ref (ad 19), .int x1, .int x2, .int x3]) σ (some (fun _ => .int o)) σ :=
  sn_met (by decide) (fun _ => Nat.le_of_ble_eq_true rfl) (fun p e s m args below meth c ls D ct ad A C hw hl => wX6_spans_in C  hf (fun H locs ls pc hw ok hd => sn_zret C hw ok hd) _ _ _ hw hl)
-- X7_forget
abbrev rmX7_forget : Room := { frames := 1, cells := 0, slots := 0, locals := 23 }
def fX7_forget (σ : sn_S) : Option sn_S :=
  ((fJ7_fill_53178 σ 55 6 (0 : Int32)).bind fun t_1 => ((fJ7_fill_53178 t_1 56 186 (0 : Int32)).bind fun t_3 => (sn_lt (sn_pI t_3 54 1 (0 : Int32)) fun σ_5 => (sn_lt (sn_pI σ_5 54 2 (0 : Int32)) fun σ_7 => (sn_lt (sn_pI σ_7 54 3 (-1 : Int32)) fun σ_9 => (some σ_9))))))
theorem wX7_forget_in (C : sn_C p s m args meth c RX7 cX7_forget 1 none D ct ad layC A) {σ : sn_S}  {o : sn_S} (hf : fX7_forget σ = some o) (kr : sn_Kr p l e rmX7_forget s m args below meth c Q D ct ad layC A cX7_forget .return_ (true) o []) : sn_At p l e rmX7_forget s m args below meth c Q D ct ad layC A 1 σ 0 [(0, .ref (ad 54))] [] := by
  intro H locs ls hw hl
  have hx := C.1
  have hb := C.2.1
  unfold fX7_forget at hf
  refine lv_aload_n hx hb dX7_forget_0 rfl (lv_at hl 0 rfl) ?_
  refine sn_getC (r := 55) C hw fd_RX7_9 layC_54 rfl dX7_forget_1 ?_
  refine lv_iconst (v := 0) hx hb dX7_forget_4 rfl ?_
  obtain ⟨t_1, h_2, hf⟩ := sn_bd hf
  refine sn_callSv (rest := []) C hw (ctJ7_fill_53178 l layC_55 h_2) kl_RX7_18 rfl rfl rfl (Nat.le_of_ble_eq_true rfl) dX7_forget_5 hl.1 (fun H locs hw => ?_)
  refine lv_aload_n hx hb dX7_forget_8 rfl (lv_at hl 0 rfl) ?_
  refine sn_getC (r := 56) C hw fd_RX7_15 layC_54 rfl dX7_forget_9 ?_
  refine lv_iconst (v := 0) hx hb dX7_forget_12 rfl ?_
  obtain ⟨t_3, h_4, hf⟩ := sn_bd hf
  refine sn_callSv (rest := []) C hw (ctJ7_fill_53178 l layC_56 h_4) kl_RX7_18 rfl rfl rfl (Nat.le_of_ble_eq_true rfl) dX7_forget_13 hl.1 (fun H locs hw => ?_)
  refine lv_aload_n hx hb dX7_forget_16 rfl (lv_at hl 0 rfl) ?_
  refine lv_iconst (v := 0) hx hb dX7_forget_17 rfl ?_
  refine sn_putI C hw fp_RX7_24 layC_54 rfl dX7_forget_18 (fun H locs hw => ?_)
  obtain ⟨σ_5, e_6, hf⟩ := sn_ltE hf
  rw [← e_6] at hw
  refine lv_aload_n hx hb dX7_forget_21 rfl (lv_at hl 0 rfl) ?_
  refine lv_iconst (v := 0) hx hb dX7_forget_22 rfl ?_
  refine sn_putI C hw fp_RX7_28 layC_54 rfl dX7_forget_23 (fun H locs hw => ?_)
  obtain ⟨σ_7, e_8, hf⟩ := sn_ltE hf
  rw [← e_8] at hw
  refine lv_aload_n hx hb dX7_forget_26 rfl (lv_at hl 0 rfl) ?_
  refine lv_iconst (v := (-1)) hx hb dX7_forget_27 rfl ?_
  refine sn_putI C hw fp_RX7_31 layC_54 rfl dX7_forget_28 (fun H locs hw => ?_)
  obtain ⟨σ_9, e_10, hf⟩ := sn_ltE hf
  rw [← e_10] at hw
  cases hf
  exact kr _ _ _ _ hw rfl dX7_forget_31
theorem ctX7_forget (l : Launch) {σ : sn_S}  {o : sn_S} (hf : fX7_forget σ = some o) : sn_M l yX7_forget cX7_forget 1 none rmX7_forget layC (fun ad => [.ref (ad 54)]) σ none o :=
  sn_met (by decide) (fun _ => Nat.le_of_ble_eq_true rfl) (fun p e s m args below meth c ls D ct ad A C hw hl => wX7_forget_in C  hf (fun H locs ls pc hw ok hd => sn_vret C hw hd) _ _ _ hw hl)
-- X7_meets
abbrev rmX7_meets : Room := { frames := 0, cells := 0, slots := 0, locals := 0 }
def BX7_meets_38 (σ : sn_S) (q1 : Nat) : Option (Int32) :=
  (sn_gd (sn_b01 (1 : Int32)) (some (1 : Int32)))
def BX7_meets_2 (σ : sn_S) (q1 : Nat) (x2 : Int32) (x3 : Int32) : Option ((Int32) ⊕ ((Unit) ⊕ Int32)) :=
  (if (sn_I σ q1 1) ≤ x3 then
  (some (.inr (.inl ())))
  else
  (sn_gd (sn_in x3 6) (sn_gd (sn_in x3 6) (if (((sn_I σ 55 x3.toNatClampNeg) &&& x2) &&& ((sn_I σ (q1 + 10) x3.toNatClampNeg) ^^^ (-1 : Int32))) = 0 then
  (sn_lt (x3 + 1) fun y_5 => (some (.inl (y_5))))
  else
  (sn_gd (sn_b01 (0 : Int32)) (some (.inr (.inr (0 : Int32)))))))))
def LX7_meets_2 (σ : sn_S) (q1 : Nat) (x2 : Int32) (s : Int32) : Option ((Int32) ⊕ ((Unit) ⊕ Int32)) := BX7_meets_2 σ q1 x2 s
def fX7_meets (σ : sn_S) (q1 : Nat) (x2 : Int32) : Option Int32 :=
  ((sn_it (LX7_meets_2 σ q1 x2) 5000 ((0 : Int32))).bind fun t_1 => Sum.elim (fun v_3 => (BX7_meets_38 σ q1)) (fun r_4 => (some r_4)) t_1)
theorem wX7_meets_38 (C : sn_C p s m args meth c RX7 cX7_meets 4 (some .boolean) D ct ad layC A) {σ : sn_S} {q1 : Nat} (h1 : sn_isX0 q1) {o : Int32} (hf : BX7_meets_38 σ q1 = some o) (kr : sn_Kr p l e rmX7_meets s m args below meth c Q D ct ad layC A cX7_meets .ireturn (sn_b01 o) σ [.int o]) : sn_At p l e rmX7_meets s m args below meth c Q D ct ad layC A 4 σ 38 [] [] := by
  intro H locs ls hw hl
  have hx := C.1
  have hb := C.2.1
  unfold BX7_meets_38 at hf
  refine lv_iconst (v := 1) hx hb dX7_meets_38 rfl ?_
  obtain ⟨g_1, hf⟩ := sn_gdE hf
  cases hf
  exact kr _ _ _ _ hw g_1 dX7_meets_39
theorem wX7_meets_2 (C : sn_C p s m args meth c RX7 cX7_meets 4 (some .boolean) D ct ad layC A) {σ : sn_S} {q1 : Nat} {x2 : Int32} {x3 : Int32} (h1 : sn_isX0 q1) {o : (Int32) ⊕ ((Unit) ⊕ Int32)} (hf : BX7_meets_2 σ q1 x2 x3 = some o) (kc : ∀ v, o = .inl v → sn_At p l e rmX7_meets s m args below meth c Q D ct ad layC A 4 σ 2 [(0, .ref (ad 54)), (1, .ref (ad q1)), (2, .int x2), (3, .int v)] []) (kx : ∀ v, o = .inr (.inl v) → sn_At p l e rmX7_meets s m args below meth c Q D ct ad layC A 4 σ 38 [] []) (kr : ∀ r, o = .inr (.inr r) → sn_Kr p l e rmX7_meets s m args below meth c Q D ct ad layC A cX7_meets .ireturn (sn_b01 r) σ [.int r]) : sn_At p l e rmX7_meets s m args below meth c Q D ct ad layC A 4 σ 2 [(0, .ref (ad 54)), (1, .ref (ad q1)), (2, .int x2), (3, .int x3)] [] := by
  intro H locs ls hw hl
  have hx := C.1
  have hb := C.2.1
  unfold BX7_meets_2 at hf
  refine lv_iload_n hx hb dX7_meets_2 rfl (lv_at hl 3 rfl) ?_
  refine lv_aload_n hx hb dX7_meets_3 rfl (lv_at hl 1 rfl) ?_
  refine sn_getI C hw fd_RX7_60 (sn_look h1 (k := 0) rfl) rfl dX7_meets_4 ?_
  refine lv_icmp_ge (tgt := 38) hx hb dX7_meets_7 (by decide) (fun c_1 => ?_) (fun c_1 => ?_)
  · have hf := sn_if c_1 hf
    cases hf
    exact kx _ rfl _ _ _ hw (lv_sub hl [] rfl)
  · have hf := sn_el c_1 hf
    refine lv_aload_n hx hb dX7_meets_10 rfl (lv_at hl 0 rfl) ?_
    refine sn_getC (r := 55) C hw fd_RX7_9 layC_54 rfl dX7_meets_11 ?_
    refine lv_iload_n hx hb dX7_meets_14 rfl (lv_at hl 3 rfl) ?_
    obtain ⟨g_2, hf⟩ := sn_gdE hf
    refine sn_iald C hw layC_55 g_2 dX7_meets_15 ?_
    refine lv_iload_n hx hb dX7_meets_16 rfl (lv_at hl 2 rfl) ?_
    refine lv_iand hx hb dX7_meets_17 ?_
    refine lv_aload_n hx hb dX7_meets_18 rfl (lv_at hl 1 rfl) ?_
    refine sn_getC (r := (q1 + 10)) C hw fd_RX7_63 (sn_look h1 (k := 0) rfl) rfl dX7_meets_19 ?_
    refine lv_iload_n hx hb dX7_meets_22 rfl (lv_at hl 3 rfl) ?_
    obtain ⟨g_3, hf⟩ := sn_gdE hf
    refine sn_iald C hw (sn_look h1 (k := 10) rfl) g_3 dX7_meets_23 ?_
    refine lv_iconst (v := (-1)) hx hb dX7_meets_24 rfl ?_
    refine lv_ixor hx hb dX7_meets_25 ?_
    refine lv_iand hx hb dX7_meets_26 ?_
    refine lv_if_eq (tgt := 32) hx hb dX7_meets_27 (by decide) (fun c_4 => ?_) (fun c_4 => ?_)
    · have hf := sn_if c_4 hf
      obtain ⟨y_5, e_6, hf⟩ := sn_ltE hf
      refine lv_iinc (v := y_5) (lv' := [(3, .int y_5), (0, .ref (ad 54)), (1, .ref (ad q1)), (2, .int x2)]) hx hb dX7_meets_32 hl (k := 3) rfl (by rw [e_6]; rfl) (by decide) rfl (fun ls hl => ?_)
      refine lv_goto (tgt := 2) hx hb dX7_meets_35 (by decide) ?_
      cases hf
      exact kc _ rfl _ _ _ hw (lv_sub hl [1, 2, 3, 0] rfl)
    · have hf := sn_el c_4 hf
      refine lv_iconst (v := 0) hx hb dX7_meets_30 rfl ?_
      obtain ⟨g_7, hf⟩ := sn_gdE hf
      cases hf
      exact kr _ rfl _ _ _ _ hw g_7 dX7_meets_31
theorem wX7_meets_L2 (C : sn_C p s m args meth c RX7 cX7_meets 4 (some .boolean) D ct ad layC A) {σ : sn_S} {q1 : Nat} {x2 : Int32}  (h1 : sn_isX0 q1) {z : Int32} {t : (Unit) ⊕ Int32} (h : sn_it (LX7_meets_2 σ q1 x2) 5000 z = some t) (kx : ∀ v, t = .inl v → sn_At p l e rmX7_meets s m args below meth c Q D ct ad layC A 4 σ 38 [] []) (kr : ∀ r, t = .inr r → sn_Kr p l e rmX7_meets s m args below meth c Q D ct ad layC A cX7_meets .ireturn (sn_b01 r) σ [.int r]) : sn_At p l e rmX7_meets s m args below meth c Q D ct ad layC A 4 σ 2 [(0, .ref (ad 54)), (1, .ref (ad q1)), (2, .int x2), (3, .int z)] [] :=
  sn_loop (f := LX7_meets_2 σ q1 x2) (G := fun z => sn_At p l e rmX7_meets s m args below meth c Q D ct ad layC A 4 σ 2 [(0, .ref (ad 54)), (1, .ref (ad q1)), (2, .int x2), (3, .int z)] []) (E := fun t => (∀ v, t = .inl v → sn_At p l e rmX7_meets s m args below meth c Q D ct ad layC A 4 σ 38 [] []) ∧ (∀ r, t = .inr r → sn_Kr p l e rmX7_meets s m args below meth c Q D ct ad layC A cX7_meets .ireturn (sn_b01 r) σ [.int r])) (fun z o hf k1 k2 => wX7_meets_2 C h1 hf (fun v e => k1 v e) (fun v e => (k2 _ e).1 v rfl) (fun r e => (k2 _ e).2 r rfl)) 5000 z t h ⟨kx, kr⟩
theorem wX7_meets_in (C : sn_C p s m args meth c RX7 cX7_meets 4 (some .boolean) D ct ad layC A) {σ : sn_S} {q1 : Nat} {x2 : Int32} (h1 : sn_isX0 q1) {o : Int32} (hf : fX7_meets σ q1 x2 = some o) (kr : sn_Kr p l e rmX7_meets s m args below meth c Q D ct ad layC A cX7_meets .ireturn (sn_b01 o) σ [.int o]) : sn_At p l e rmX7_meets s m args below meth c Q D ct ad layC A 4 σ 0 [(0, .ref (ad 54)), (1, .ref (ad q1)), (2, .int x2)] [] := by
  intro H locs ls hw hl
  have hx := C.1
  have hb := C.2.1
  unfold fX7_meets at hf
  refine lv_iconst (v := 0) hx hb dX7_meets_0 rfl ?_
  refine lv_istore_n (lv' := [(3, .int (0 : Int32)), (0, .ref (ad 54)), (1, .ref (ad q1)), (2, .int x2)]) hx hb dX7_meets_1 rfl hl (by decide) rfl (fun ls hl => ?_)
  obtain ⟨t_1, h_2, hf⟩ := sn_bd hf
  rcases t_1 with v_3 | r_4
  · rw [Sum.elim_inl] at hf
    exact wX7_meets_L2 C h1 h_2 (fun v e => by cases e; exact wX7_meets_38 C h1 hf kr) (fun r e => by cases e) _ _ _ hw (lv_sub hl [1, 2, 3, 0] rfl)
  · rw [Sum.elim_inr] at hf
    cases hf
    exact wX7_meets_L2 C h1 h_2 (fun v e => by cases e) (fun r e => by cases e; exact kr) _ _ _ hw (lv_sub hl [1, 2, 3, 0] rfl)
theorem ctX7_meets (l : Launch) {σ : sn_S} {q1 : Nat} {x2 : Int32} (h1 : sn_isX0 q1) {o : Int32} (hf : fX7_meets σ q1 x2 = some o) : sn_M l yX7_meets cX7_meets 4 (some .boolean) rmX7_meets layC (fun ad => [.ref (ad 54), .ref (ad q1), .int x2]) σ (some (fun _ => .int o)) σ :=
  sn_met (by decide) (fun _ => Nat.le_of_ble_eq_true rfl) (fun p e s m args below meth c ls D ct ad A C hw hl => wX7_meets_in C h1 hf (fun H locs ls pc hw ok hd => sn_zret C hw ok hd) _ _ _ hw hl)
-- X7_note
abbrev rmX7_note : Room := { frames := 1, cells := 0, slots := 0, locals := 20 }
def BX7_note_82 (σ : sn_S) (q1 : Nat) : Option (sn_S) :=
  (some σ)
def BX7_note_42 (σ : sn_S) (q1 : Nat) (x4 : Int32) : Option ((sn_S × Int32) ⊕ (sn_S)) :=
  (if (sn_I σ q1 1) ≤ x4 then
  (some (.inr (σ)))
  else
  (sn_gd (sn_in x4 6) ((fJ6_bitCount_0f7a4 (sn_I σ (q1 + 10) x4.toNatClampNeg)).bind fun t_3 => (sn_gd (sn_in (((31 : Int32) * x4) + t_3) 186) (sn_gd (sn_in (((31 : Int32) * x4) + t_3) 186) (sn_lt (sn_pI σ 56 (((31 : Int32) * x4) + t_3).toNatClampNeg ((sn_I σ 56 (((31 : Int32) * x4) + t_3).toNatClampNeg) + (1 : Int32))) fun σ_7 => (sn_lt (x4 + 1) fun y_9 => (some (.inl (σ_7, y_9))))))))))
def LX7_note_42 (q1 : Nat) (s : sn_S × Int32) : Option ((sn_S × Int32) ⊕ (sn_S)) := BX7_note_42 s.1 q1 s.2
def BX7_note_17 (σ : sn_S) (q1 : Nat) (x2 : Int32) : Option (sn_S) :=
  (sn_lt (sn_pI σ 54 1 ((sn_I σ 54 1) + (1 : Int32))) fun σ_1 => (sn_lt (sn_pI σ_1 54 2 ((sn_I σ_1 54 2) ||| ((1 : Int32) <<< (x2 &&& 31)))) fun σ_3 => ((sn_it (LX7_note_42 q1) 5000 (σ_3, (0 : Int32))).bind fun t_5 => (BX7_note_82 t_5 q1))))
def fX7_note (σ : sn_S) (q1 : Nat) (x2 : Int32) (x3 : Int32) : Option sn_S :=
  (if (sn_I σ 54 1) = 0 then
  (sn_lt (sn_pI σ 54 3 (((10 : Int32) * x2) + x3)) fun σ_2 => (BX7_note_17 σ_2 q1 x2))
  else
  (BX7_note_17 σ q1 x2))
theorem wX7_note_82 (C : sn_C p s m args meth c RX7 cX7_note 5 none D ct ad layC A) {σ : sn_S} {q1 : Nat} (h1 : sn_isX0 q1) {o : sn_S} (hf : BX7_note_82 σ q1 = some o) (kr : sn_Kr p l e rmX7_note s m args below meth c Q D ct ad layC A cX7_note .return_ (true) o []) : sn_At p l e rmX7_note s m args below meth c Q D ct ad layC A 5 σ 82 [] [] := by
  intro H locs ls hw hl
  have hx := C.1
  have hb := C.2.1
  unfold BX7_note_82 at hf
  cases hf
  exact kr _ _ _ _ hw rfl dX7_note_82
theorem wX7_note_42 (C : sn_C p s m args meth c RX7 cX7_note 5 none D ct ad layC A) {σ : sn_S} {q1 : Nat} {x4 : Int32} (h1 : sn_isX0 q1) {o : (sn_S × Int32) ⊕ (sn_S)} (hf : BX7_note_42 σ q1 x4 = some o) (kc : ∀ v, o = .inl v → sn_At p l e rmX7_note s m args below meth c Q D ct ad layC A 5 v.1 42 [(0, .ref (ad 54)), (1, .ref (ad q1)), (4, .int v.2)] []) (kx : ∀ v, o = .inr v → sn_At p l e rmX7_note s m args below meth c Q D ct ad layC A 5 v 82 [] []) : sn_At p l e rmX7_note s m args below meth c Q D ct ad layC A 5 σ 42 [(0, .ref (ad 54)), (1, .ref (ad q1)), (4, .int x4)] [] := by
  intro H locs ls hw hl
  have hx := C.1
  have hb := C.2.1
  unfold BX7_note_42 at hf
  refine lv_iload hx hb dX7_note_42 (lv_at hl 2 rfl) ?_
  refine lv_aload_n hx hb dX7_note_44 rfl (lv_at hl 1 rfl) ?_
  refine sn_getI C hw fd_RX7_60 (sn_look h1 (k := 0) rfl) rfl dX7_note_45 ?_
  refine lv_icmp_ge (tgt := 82) hx hb dX7_note_48 (by decide) (fun c_1 => ?_) (fun c_1 => ?_)
  · have hf := sn_if c_1 hf
    cases hf
    exact kx _ rfl _ _ _ hw (lv_sub hl [] rfl)
  · have hf := sn_el c_1 hf
    refine lv_aload_n hx hb dX7_note_51 rfl (lv_at hl 0 rfl) ?_
    refine sn_getC (r := 56) C hw fd_RX7_15 layC_54 rfl dX7_note_52 ?_
    refine lv_bipush (v := 31) hx hb dX7_note_55 (by decide) ?_
    refine lv_iload hx hb dX7_note_57 (lv_at hl 2 rfl) ?_
    refine lv_imul hx hb dX7_note_59 ?_
    refine lv_aload_n hx hb dX7_note_60 rfl (lv_at hl 1 rfl) ?_
    refine sn_getC (r := (q1 + 10)) C hw fd_RX7_63 (sn_look h1 (k := 0) rfl) rfl dX7_note_61 ?_
    refine lv_iload hx hb dX7_note_64 (lv_at hl 2 rfl) ?_
    obtain ⟨g_2, hf⟩ := sn_gdE hf
    refine sn_iald C hw (sn_look h1 (k := 10) rfl) g_2 dX7_note_66 ?_
    obtain ⟨t_3, h_4, hf⟩ := sn_bd hf
    refine sn_callSi (rest := [.int ((31 : Int32) * x4), .ref (ad 56)]) C hw (ctJ6_bitCount_0f7a4 l  h_4) kl_RX7_66 rfl rfl rfl (Nat.le_of_ble_eq_true rfl) dX7_note_67 hl.1 (fun H locs hw => ?_)
    refine lv_iadd hx hb dX7_note_70 ?_
    refine lv_dup2_11 hx hb dX7_note_71 rfl rfl ?_
    obtain ⟨g_5, hf⟩ := sn_gdE hf
    refine sn_iald C hw layC_56 g_5 dX7_note_72 ?_
    refine lv_iconst (v := 1) hx hb dX7_note_73 rfl ?_
    refine lv_iadd hx hb dX7_note_74 ?_
    obtain ⟨g_6, hf⟩ := sn_gdE hf
    refine sn_iast C hw layC_56 g_6 dX7_note_75 (fun H locs hw => ?_)
    obtain ⟨σ_7, e_8, hf⟩ := sn_ltE hf
    rw [← e_8] at hw
    obtain ⟨y_9, e_10, hf⟩ := sn_ltE hf
    refine lv_iinc (v := y_9) (lv' := [(4, .int y_9), (0, .ref (ad 54)), (1, .ref (ad q1))]) hx hb dX7_note_76 hl (k := 2) rfl (by rw [e_10]; rfl) (by decide) rfl (fun ls hl => ?_)
    refine lv_goto (tgt := 42) hx hb dX7_note_79 (by decide) ?_
    cases hf
    exact kc _ rfl _ _ _ hw (lv_sub hl [1, 2, 0] rfl)
theorem wX7_note_L42 (C : sn_C p s m args meth c RX7 cX7_note 5 none D ct ad layC A) {q1 : Nat}  (h1 : sn_isX0 q1) {z : sn_S × Int32} {t : sn_S} (h : sn_it (LX7_note_42 q1) 5000 z = some t) (kx : ∀ v, t = v → sn_At p l e rmX7_note s m args below meth c Q D ct ad layC A 5 v 82 [] []) : sn_At p l e rmX7_note s m args below meth c Q D ct ad layC A 5 z.1 42 [(0, .ref (ad 54)), (1, .ref (ad q1)), (4, .int z.2)] [] :=
  sn_loop (f := LX7_note_42 q1) (G := fun z => sn_At p l e rmX7_note s m args below meth c Q D ct ad layC A 5 z.1 42 [(0, .ref (ad 54)), (1, .ref (ad q1)), (4, .int z.2)] []) (E := fun t => (∀ v, t = v → sn_At p l e rmX7_note s m args below meth c Q D ct ad layC A 5 v 82 [] []) ∧ True) (fun z o hf k1 k2 => wX7_note_42 C h1 hf (fun v e => k1 v e) (fun v e => (k2 _ e).1 v rfl)) 5000 z t h ⟨kx, trivial⟩
theorem wX7_note_17 (C : sn_C p s m args meth c RX7 cX7_note 5 none D ct ad layC A) {σ : sn_S} {q1 : Nat} {x2 : Int32} (h1 : sn_isX0 q1) {o : sn_S} (hf : BX7_note_17 σ q1 x2 = some o) (kr : sn_Kr p l e rmX7_note s m args below meth c Q D ct ad layC A cX7_note .return_ (true) o []) : sn_At p l e rmX7_note s m args below meth c Q D ct ad layC A 5 σ 17 [(0, .ref (ad 54)), (1, .ref (ad q1)), (2, .int x2)] [] := by
  intro H locs ls hw hl
  have hx := C.1
  have hb := C.2.1
  unfold BX7_note_17 at hf
  refine lv_aload_n hx hb dX7_note_17 rfl (lv_at hl 0 rfl) ?_
  refine lv_dup hx hb dX7_note_18 rfl ?_
  refine sn_getI C hw fd_RX7_24 layC_54 rfl dX7_note_19 ?_
  refine lv_iconst (v := 1) hx hb dX7_note_22 rfl ?_
  refine lv_iadd hx hb dX7_note_23 ?_
  refine sn_putI C hw fp_RX7_24 layC_54 rfl dX7_note_24 (fun H locs hw => ?_)
  obtain ⟨σ_1, e_2, hf⟩ := sn_ltE hf
  rw [← e_2] at hw
  refine lv_aload_n hx hb dX7_note_27 rfl (lv_at hl 0 rfl) ?_
  refine lv_dup hx hb dX7_note_28 rfl ?_
  refine sn_getI C hw fd_RX7_28 layC_54 rfl dX7_note_29 ?_
  refine lv_iconst (v := 1) hx hb dX7_note_32 rfl ?_
  refine lv_iload_n hx hb dX7_note_33 rfl (lv_at hl 2 rfl) ?_
  refine lv_ishl hx hb dX7_note_34 ?_
  refine lv_ior hx hb dX7_note_35 ?_
  refine sn_putI C hw fp_RX7_28 layC_54 rfl dX7_note_36 (fun H locs hw => ?_)
  obtain ⟨σ_3, e_4, hf⟩ := sn_ltE hf
  rw [← e_4] at hw
  refine lv_iconst (v := 0) hx hb dX7_note_39 rfl ?_
  refine lv_istore (lv' := [(4, .int (0 : Int32)), (0, .ref (ad 54)), (1, .ref (ad q1)), (2, .int x2)]) hx hb dX7_note_40 hl (by decide) rfl (fun ls hl => ?_)
  obtain ⟨t_5, h_6, hf⟩ := sn_bd hf
  exact wX7_note_L42 C h1 h_6 (fun v e => by cases e; exact wX7_note_82 C h1 hf kr) _ _ _ hw (lv_sub hl [1, 2, 0] rfl)
theorem wX7_note_in (C : sn_C p s m args meth c RX7 cX7_note 5 none D ct ad layC A) {σ : sn_S} {q1 : Nat} {x2 : Int32} {x3 : Int32} (h1 : sn_isX0 q1) {o : sn_S} (hf : fX7_note σ q1 x2 x3 = some o) (kr : sn_Kr p l e rmX7_note s m args below meth c Q D ct ad layC A cX7_note .return_ (true) o []) : sn_At p l e rmX7_note s m args below meth c Q D ct ad layC A 5 σ 0 [(0, .ref (ad 54)), (1, .ref (ad q1)), (2, .int x2), (3, .int x3)] [] := by
  intro H locs ls hw hl
  have hx := C.1
  have hb := C.2.1
  unfold fX7_note at hf
  refine lv_aload_n hx hb dX7_note_0 rfl (lv_at hl 0 rfl) ?_
  refine sn_getI C hw fd_RX7_24 layC_54 rfl dX7_note_1 ?_
  refine lv_if_ne (tgt := 17) hx hb dX7_note_4 (by decide) (fun c_1 => ?_) (fun c_1 => ?_)
  · have hf := sn_el c_1 hf
    exact wX7_note_17 C h1 hf kr _ _ _ hw (lv_sub hl [0, 1, 2] rfl)
  · have hf := sn_if c_1 hf
    refine lv_aload_n hx hb dX7_note_7 rfl (lv_at hl 0 rfl) ?_
    refine lv_bipush (v := 10) hx hb dX7_note_8 (by decide) ?_
    refine lv_iload_n hx hb dX7_note_10 rfl (lv_at hl 2 rfl) ?_
    refine lv_imul hx hb dX7_note_11 ?_
    refine lv_iload_n hx hb dX7_note_12 rfl (lv_at hl 3 rfl) ?_
    refine lv_iadd hx hb dX7_note_13 ?_
    refine sn_putI C hw fp_RX7_31 layC_54 rfl dX7_note_14 (fun H locs hw => ?_)
    obtain ⟨σ_2, e_3, hf⟩ := sn_ltE hf
    rw [← e_3] at hw
    exact wX7_note_17 C h1 hf kr _ _ _ hw (lv_sub hl [0, 1, 2] rfl)
theorem ctX7_note (l : Launch) {σ : sn_S} {q1 : Nat} {x2 : Int32} {x3 : Int32} (h1 : sn_isX0 q1) {o : sn_S} (hf : fX7_note σ q1 x2 x3 = some o) : sn_M l yX7_note cX7_note 5 none rmX7_note layC (fun ad => [.ref (ad 54), .ref (ad q1), .int x2, .int x3]) σ none o :=
  sn_met (by decide) (fun _ => Nat.le_of_ble_eq_true rfl) (fun p e s m args below meth c ls D ct ad A C hw hl => wX7_note_in C h1 hf (fun H locs ls pc hw ok hd => sn_vret C hw hd) _ _ _ hw hl)
-- X7_seekIn
abbrev rmX7_seekIn : Room := { frames := 4, cells := 0, slots := 0, locals := 93 }
def BX7_seekIn_117 (σ : sn_S) (q1 : Nat) (q2 : Nat) : Option (sn_S) :=
  (some σ)
def BX7_seekIn_91 (σ : sn_S) (q1 : Nat) (q2 : Nat) (x3 : Int32) : Option ((sn_S × Int32) ⊕ ((sn_S) ⊕ sn_S)) :=
  (sn_gd (sn_in x3 30) (sn_gd (sn_in x3 30) (sn_lt (sn_pI σ (q2 + 1) x3.toNatClampNeg (sn_I σ (q1 + 1) x3.toNatClampNeg)) fun σ_3 => ((fX0_live σ_3 q2 x3 (x3 + (1 : Int32))).bind fun t_5 => (sn_lt (x3 + 1) fun y_7 => (some (.inl (t_5, y_7))))))))
def BX7_seekIn_85 (σ : sn_S) (q1 : Nat) (q2 : Nat) (x3 : Int32) (x4 : Int32) : Option ((sn_S × Int32) ⊕ (sn_S)) :=
  (sn_lt (x4 + 1) fun y_1 => (some (.inl (σ, y_1))))
def BX7_seekIn_31 (σ : sn_S) (q1 : Nat) (q2 : Nat) (x3 : Int32) (x4 : Int32) : Option ((sn_S × Int32) ⊕ (sn_S)) :=
  (if (9 : Int32) < x4 then
  (some (.inr (σ)))
  else
  (sn_gd (sn_in x3 30) (sn_gd (sn_in x3 30) (sn_lt (sn_pI σ (q2 + 1) x3.toNatClampNeg ((sn_I σ (q1 + 1) x3.toNatClampNeg) + x4)) fun σ_4 => ((fX0_live σ_4 q2 x3 (sn_I σ_4 q1 0)).bind fun t_6 => ((fX8_firstMinutes (sn_I t_6 q1 0)).bind fun t_8 => ((fX7_meets t_6 q2 t_8).bind fun t_10 => (if t_10 = 0 then
  (BX7_seekIn_85 t_6 q1 q2 x3 x4)
  else
  ((fX7_note t_6 q2 x3 x4).bind fun t_13 => (BX7_seekIn_85 t_13 q1 q2 x3 x4))))))))))
def LX7_seekIn_31 (q1 : Nat) (q2 : Nat) (x3 : Int32) (s : sn_S × Int32) : Option ((sn_S × Int32) ⊕ (sn_S)) := BX7_seekIn_31 s.1 q1 q2 x3 s.2
def BX7_seekIn_7 (σ : sn_S) (q1 : Nat) (q2 : Nat) (x3 : Int32) : Option ((sn_S × Int32) ⊕ ((sn_S) ⊕ sn_S)) :=
  (if (sn_I σ q1 0) ≤ x3 then
  (some (.inr (.inl (σ))))
  else
  ((fX8_firstMinutes x3).bind fun t_2 => ((fX7_meets σ q2 t_2).bind fun t_4 => (if t_4 = 0 then
  (some (.inr (.inr σ)))
  else
  ((sn_it (LX7_seekIn_31 q1 q2 x3) 5000 (σ, (1 : Int32))).bind fun t_7 => (BX7_seekIn_91 t_7 q1 q2 x3))))))
def LX7_seekIn_7 (q1 : Nat) (q2 : Nat) (s : sn_S × Int32) : Option ((sn_S × Int32) ⊕ ((sn_S) ⊕ sn_S)) := BX7_seekIn_7 s.1 q1 q2 s.2
def fX7_seekIn (σ : sn_S) (q1 : Nat) (q2 : Nat) : Option sn_S :=
  ((fX0_copyFrom σ q2 q1).bind fun t_1 => ((sn_it (LX7_seekIn_7 q1 q2) 5000 (t_1, (0 : Int32))).bind fun t_3 => Sum.elim (fun v_5 => (BX7_seekIn_117 v_5 q1 q2)) (fun r_6 => (some r_6)) t_3))
theorem wX7_seekIn_117 (C : sn_C p s m args meth c RX7 cX7_seekIn 5 none D ct ad layC A) {σ : sn_S} {q1 : Nat} {q2 : Nat} (h1 : sn_isX0 q1) (h2 : sn_isX0 q2) {o : sn_S} (hf : BX7_seekIn_117 σ q1 q2 = some o) (kr : sn_Kr p l e rmX7_seekIn s m args below meth c Q D ct ad layC A cX7_seekIn .return_ (true) o []) : sn_At p l e rmX7_seekIn s m args below meth c Q D ct ad layC A 5 σ 117 [] [] := by
  intro H locs ls hw hl
  have hx := C.1
  have hb := C.2.1
  unfold BX7_seekIn_117 at hf
  cases hf
  exact kr _ _ _ _ hw rfl dX7_seekIn_117
theorem wX7_seekIn_91 (C : sn_C p s m args meth c RX7 cX7_seekIn 5 none D ct ad layC A) {σ : sn_S} {q1 : Nat} {q2 : Nat} {x3 : Int32} (h1 : sn_isX0 q1) (h2 : sn_isX0 q2) {o : (sn_S × Int32) ⊕ ((sn_S) ⊕ sn_S)} (hf : BX7_seekIn_91 σ q1 q2 x3 = some o) (kc : ∀ v, o = .inl v → sn_At p l e rmX7_seekIn s m args below meth c Q D ct ad layC A 5 v.1 7 [(0, .ref (ad 54)), (1, .ref (ad q1)), (2, .ref (ad q2)), (3, .int v.2)] []) (kx : ∀ v, o = .inr (.inl v) → sn_At p l e rmX7_seekIn s m args below meth c Q D ct ad layC A 5 v 117 [] []) (kr : ∀ r, o = .inr (.inr r) → sn_Kr p l e rmX7_seekIn s m args below meth c Q D ct ad layC A cX7_seekIn .return_ (true) r []) : sn_At p l e rmX7_seekIn s m args below meth c Q D ct ad layC A 5 σ 91 [(0, .ref (ad 54)), (1, .ref (ad q1)), (2, .ref (ad q2)), (3, .int x3)] [] := by
  intro H locs ls hw hl
  have hx := C.1
  have hb := C.2.1
  unfold BX7_seekIn_91 at hf
  refine lv_aload_n hx hb dX7_seekIn_91 rfl (lv_at hl 2 rfl) ?_
  refine sn_getC (r := (q2 + 1)) C hw fd_RX7_49 (sn_look h2 (k := 0) rfl) rfl dX7_seekIn_92 ?_
  refine lv_iload_n hx hb dX7_seekIn_95 rfl (lv_at hl 3 rfl) ?_
  refine lv_aload_n hx hb dX7_seekIn_96 rfl (lv_at hl 1 rfl) ?_
  refine sn_getC (r := (q1 + 1)) C hw fd_RX7_49 (sn_look h1 (k := 0) rfl) rfl dX7_seekIn_97 ?_
  refine lv_iload_n hx hb dX7_seekIn_100 rfl (lv_at hl 3 rfl) ?_
  obtain ⟨g_1, hf⟩ := sn_gdE hf
  refine sn_iald C hw (sn_look h1 (k := 1) rfl) g_1 dX7_seekIn_101 ?_
  obtain ⟨g_2, hf⟩ := sn_gdE hf
  refine sn_iast C hw (sn_look h2 (k := 1) rfl) g_2 dX7_seekIn_102 (fun H locs hw => ?_)
  obtain ⟨σ_3, e_4, hf⟩ := sn_ltE hf
  rw [← e_4] at hw
  refine lv_aload_n hx hb dX7_seekIn_103 rfl (lv_at hl 2 rfl) ?_
  refine lv_iload_n hx hb dX7_seekIn_104 rfl (lv_at hl 3 rfl) ?_
  refine lv_iload_n hx hb dX7_seekIn_105 rfl (lv_at hl 3 rfl) ?_
  refine lv_iconst (v := 1) hx hb dX7_seekIn_106 rfl ?_
  refine lv_iadd hx hb dX7_seekIn_107 ?_
  obtain ⟨t_5, h_6, hf⟩ := sn_bd hf
  refine sn_callVv (rest := []) C hw (ctX0_live l h2 h_6) kl_RX7_52 (sn_look h2 (k := 0) rfl) rfl rfl rfl rfl (Nat.le_of_ble_eq_true rfl) dX7_seekIn_108 hl.1 (fun H locs hw => ?_)
  obtain ⟨y_7, e_8, hf⟩ := sn_ltE hf
  refine lv_iinc (v := y_7) (lv' := [(3, .int y_7), (0, .ref (ad 54)), (1, .ref (ad q1)), (2, .ref (ad q2))]) hx hb dX7_seekIn_111 hl (k := 3) rfl (by rw [e_8]; rfl) (by decide) rfl (fun ls hl => ?_)
  refine lv_goto (tgt := 7) hx hb dX7_seekIn_114 (by decide) ?_
  cases hf
  exact kc _ rfl _ _ _ hw (lv_sub hl [1, 2, 3, 0] rfl)
theorem wX7_seekIn_85 (C : sn_C p s m args meth c RX7 cX7_seekIn 5 none D ct ad layC A) {σ : sn_S} {q1 : Nat} {q2 : Nat} {x3 : Int32} {x4 : Int32} (h1 : sn_isX0 q1) (h2 : sn_isX0 q2) {o : (sn_S × Int32) ⊕ (sn_S)} (hf : BX7_seekIn_85 σ q1 q2 x3 x4 = some o) (kc : ∀ v, o = .inl v → sn_At p l e rmX7_seekIn s m args below meth c Q D ct ad layC A 5 v.1 31 [(0, .ref (ad 54)), (1, .ref (ad q1)), (2, .ref (ad q2)), (3, .int x3), (4, .int v.2)] []) (kx : ∀ v, o = .inr v → sn_At p l e rmX7_seekIn s m args below meth c Q D ct ad layC A 5 v 91 [(0, .ref (ad 54)), (1, .ref (ad q1)), (2, .ref (ad q2)), (3, .int x3)] []) : sn_At p l e rmX7_seekIn s m args below meth c Q D ct ad layC A 5 σ 85 [(0, .ref (ad 54)), (1, .ref (ad q1)), (2, .ref (ad q2)), (3, .int x3), (4, .int x4)] [] := by
  intro H locs ls hw hl
  have hx := C.1
  have hb := C.2.1
  unfold BX7_seekIn_85 at hf
  obtain ⟨y_1, e_2, hf⟩ := sn_ltE hf
  refine lv_iinc (v := y_1) (lv' := [(4, .int y_1), (0, .ref (ad 54)), (1, .ref (ad q1)), (2, .ref (ad q2)), (3, .int x3)]) hx hb dX7_seekIn_85 hl (k := 4) rfl (by rw [e_2]; rfl) (by decide) rfl (fun ls hl => ?_)
  refine lv_goto (tgt := 31) hx hb dX7_seekIn_88 (by decide) ?_
  cases hf
  exact kc _ rfl _ _ _ hw (lv_sub hl [1, 2, 3, 4, 0] rfl)
theorem wX7_seekIn_31 (C : sn_C p s m args meth c RX7 cX7_seekIn 5 none D ct ad layC A) {σ : sn_S} {q1 : Nat} {q2 : Nat} {x3 : Int32} {x4 : Int32} (h1 : sn_isX0 q1) (h2 : sn_isX0 q2) {o : (sn_S × Int32) ⊕ (sn_S)} (hf : BX7_seekIn_31 σ q1 q2 x3 x4 = some o) (kc : ∀ v, o = .inl v → sn_At p l e rmX7_seekIn s m args below meth c Q D ct ad layC A 5 v.1 31 [(0, .ref (ad 54)), (1, .ref (ad q1)), (2, .ref (ad q2)), (3, .int x3), (4, .int v.2)] []) (kx : ∀ v, o = .inr v → sn_At p l e rmX7_seekIn s m args below meth c Q D ct ad layC A 5 v 91 [(0, .ref (ad 54)), (1, .ref (ad q1)), (2, .ref (ad q2)), (3, .int x3)] []) : sn_At p l e rmX7_seekIn s m args below meth c Q D ct ad layC A 5 σ 31 [(0, .ref (ad 54)), (1, .ref (ad q1)), (2, .ref (ad q2)), (3, .int x3), (4, .int x4)] [] := by
  intro H locs ls hw hl
  have hx := C.1
  have hb := C.2.1
  unfold BX7_seekIn_31 at hf
  refine lv_iload hx hb dX7_seekIn_31 (lv_at hl 4 rfl) ?_
  refine lv_bipush (v := 9) hx hb dX7_seekIn_33 (by decide) ?_
  refine lv_icmp_gt (tgt := 91) hx hb dX7_seekIn_35 (by decide) (fun c_1 => ?_) (fun c_1 => ?_)
  · have hf := sn_if c_1 hf
    cases hf
    exact kx _ rfl _ _ _ hw (lv_sub hl [0, 1, 2, 3] rfl)
  · have hf := sn_el c_1 hf
    refine lv_aload_n hx hb dX7_seekIn_38 rfl (lv_at hl 2 rfl) ?_
    refine sn_getC (r := (q2 + 1)) C hw fd_RX7_49 (sn_look h2 (k := 0) rfl) rfl dX7_seekIn_39 ?_
    refine lv_iload_n hx hb dX7_seekIn_42 rfl (lv_at hl 3 rfl) ?_
    refine lv_aload_n hx hb dX7_seekIn_43 rfl (lv_at hl 1 rfl) ?_
    refine sn_getC (r := (q1 + 1)) C hw fd_RX7_49 (sn_look h1 (k := 0) rfl) rfl dX7_seekIn_44 ?_
    refine lv_iload_n hx hb dX7_seekIn_47 rfl (lv_at hl 3 rfl) ?_
    obtain ⟨g_2, hf⟩ := sn_gdE hf
    refine sn_iald C hw (sn_look h1 (k := 1) rfl) g_2 dX7_seekIn_48 ?_
    refine lv_iload hx hb dX7_seekIn_49 (lv_at hl 4 rfl) ?_
    refine lv_iadd hx hb dX7_seekIn_51 ?_
    obtain ⟨g_3, hf⟩ := sn_gdE hf
    refine sn_iast C hw (sn_look h2 (k := 1) rfl) g_3 dX7_seekIn_52 (fun H locs hw => ?_)
    obtain ⟨σ_4, e_5, hf⟩ := sn_ltE hf
    rw [← e_5] at hw
    refine lv_aload_n hx hb dX7_seekIn_53 rfl (lv_at hl 2 rfl) ?_
    refine lv_iload_n hx hb dX7_seekIn_54 rfl (lv_at hl 3 rfl) ?_
    refine lv_aload_n hx hb dX7_seekIn_55 rfl (lv_at hl 1 rfl) ?_
    refine sn_getI C hw fd_RX7_40 (sn_look h1 (k := 0) rfl) rfl dX7_seekIn_56 ?_
    obtain ⟨t_6, h_7, hf⟩ := sn_bd hf
    refine sn_callVv (rest := []) C hw (ctX0_live l h2 h_7) kl_RX7_52 (sn_look h2 (k := 0) rfl) rfl rfl rfl rfl (Nat.le_of_ble_eq_true rfl) dX7_seekIn_59 hl.1 (fun H locs hw => ?_)
    refine lv_aload_n hx hb dX7_seekIn_62 rfl (lv_at hl 0 rfl) ?_
    refine lv_aload_n hx hb dX7_seekIn_63 rfl (lv_at hl 2 rfl) ?_
    refine lv_aload_n hx hb dX7_seekIn_64 rfl (lv_at hl 1 rfl) ?_
    refine sn_getI C hw fd_RX7_40 (sn_look h1 (k := 0) rfl) rfl dX7_seekIn_65 ?_
    obtain ⟨t_8, h_9, hf⟩ := sn_bd hf
    refine sn_callNi (rest := [.ref (ad q2), .ref (ad 54)]) C hw (ctX8_firstMinutes l  h_9) kl_RX7_41 rfl rfl rfl (Nat.le_of_ble_eq_true rfl) dX7_seekIn_68 hl.1 (fun H locs hw => ?_)
    obtain ⟨t_10, h_11, hf⟩ := sn_bd hf
    refine sn_callVi (rest := []) C hw (ctX7_meets l h2 h_11) kl_RX7_45 layC_54 rfl rfl rfl rfl (Nat.le_of_ble_eq_true rfl) dX7_seekIn_71 hl.1 (fun H locs hw => ?_)
    refine lv_if_eq (tgt := 85) hx hb dX7_seekIn_74 (by decide) (fun c_12 => ?_) (fun c_12 => ?_)
    · have hf := sn_if c_12 hf
      exact wX7_seekIn_85 C h1 h2 hf kc kx _ _ _ hw (lv_sub hl [0, 1, 2, 3, 4] rfl)
    · have hf := sn_el c_12 hf
      refine lv_aload_n hx hb dX7_seekIn_77 rfl (lv_at hl 0 rfl) ?_
      refine lv_aload_n hx hb dX7_seekIn_78 rfl (lv_at hl 2 rfl) ?_
      refine lv_iload_n hx hb dX7_seekIn_79 rfl (lv_at hl 3 rfl) ?_
      refine lv_iload hx hb dX7_seekIn_80 (lv_at hl 4 rfl) ?_
      obtain ⟨t_13, h_14, hf⟩ := sn_bd hf
      refine sn_callVv (rest := []) C hw (ctX7_note l h2 h_14) kl_RX7_56 layC_54 rfl rfl rfl rfl (Nat.le_of_ble_eq_true rfl) dX7_seekIn_82 hl.1 (fun H locs hw => ?_)
      exact wX7_seekIn_85 C h1 h2 hf kc kx _ _ _ hw (lv_sub hl [0, 1, 2, 3, 4] rfl)
theorem wX7_seekIn_L31 (C : sn_C p s m args meth c RX7 cX7_seekIn 5 none D ct ad layC A) {q1 : Nat} {q2 : Nat} {x3 : Int32}  (h1 : sn_isX0 q1) (h2 : sn_isX0 q2) {z : sn_S × Int32} {t : sn_S} (h : sn_it (LX7_seekIn_31 q1 q2 x3) 5000 z = some t) (kx : ∀ v, t = v → sn_At p l e rmX7_seekIn s m args below meth c Q D ct ad layC A 5 v 91 [(0, .ref (ad 54)), (1, .ref (ad q1)), (2, .ref (ad q2)), (3, .int x3)] []) : sn_At p l e rmX7_seekIn s m args below meth c Q D ct ad layC A 5 z.1 31 [(0, .ref (ad 54)), (1, .ref (ad q1)), (2, .ref (ad q2)), (3, .int x3), (4, .int z.2)] [] :=
  sn_loop (f := LX7_seekIn_31 q1 q2 x3) (G := fun z => sn_At p l e rmX7_seekIn s m args below meth c Q D ct ad layC A 5 z.1 31 [(0, .ref (ad 54)), (1, .ref (ad q1)), (2, .ref (ad q2)), (3, .int x3), (4, .int z.2)] []) (E := fun t => (∀ v, t = v → sn_At p l e rmX7_seekIn s m args below meth c Q D ct ad layC A 5 v 91 [(0, .ref (ad 54)), (1, .ref (ad q1)), (2, .ref (ad q2)), (3, .int x3)] []) ∧ True) (fun z o hf k1 k2 => wX7_seekIn_31 C h1 h2 hf (fun v e => k1 v e) (fun v e => (k2 _ e).1 v rfl)) 5000 z t h ⟨kx, trivial⟩
theorem wX7_seekIn_7 (C : sn_C p s m args meth c RX7 cX7_seekIn 5 none D ct ad layC A) {σ : sn_S} {q1 : Nat} {q2 : Nat} {x3 : Int32} (h1 : sn_isX0 q1) (h2 : sn_isX0 q2) {o : (sn_S × Int32) ⊕ ((sn_S) ⊕ sn_S)} (hf : BX7_seekIn_7 σ q1 q2 x3 = some o) (kc : ∀ v, o = .inl v → sn_At p l e rmX7_seekIn s m args below meth c Q D ct ad layC A 5 v.1 7 [(0, .ref (ad 54)), (1, .ref (ad q1)), (2, .ref (ad q2)), (3, .int v.2)] []) (kx : ∀ v, o = .inr (.inl v) → sn_At p l e rmX7_seekIn s m args below meth c Q D ct ad layC A 5 v 117 [] []) (kr : ∀ r, o = .inr (.inr r) → sn_Kr p l e rmX7_seekIn s m args below meth c Q D ct ad layC A cX7_seekIn .return_ (true) r []) : sn_At p l e rmX7_seekIn s m args below meth c Q D ct ad layC A 5 σ 7 [(0, .ref (ad 54)), (1, .ref (ad q1)), (2, .ref (ad q2)), (3, .int x3)] [] := by
  intro H locs ls hw hl
  have hx := C.1
  have hb := C.2.1
  unfold BX7_seekIn_7 at hf
  refine lv_iload_n hx hb dX7_seekIn_7 rfl (lv_at hl 3 rfl) ?_
  refine lv_aload_n hx hb dX7_seekIn_8 rfl (lv_at hl 1 rfl) ?_
  refine sn_getI C hw fd_RX7_40 (sn_look h1 (k := 0) rfl) rfl dX7_seekIn_9 ?_
  refine lv_icmp_ge (tgt := 117) hx hb dX7_seekIn_12 (by decide) (fun c_1 => ?_) (fun c_1 => ?_)
  · have hf := sn_if c_1 hf
    cases hf
    exact kx _ rfl _ _ _ hw (lv_sub hl [] rfl)
  · have hf := sn_el c_1 hf
    refine lv_aload_n hx hb dX7_seekIn_15 rfl (lv_at hl 0 rfl) ?_
    refine lv_aload_n hx hb dX7_seekIn_16 rfl (lv_at hl 2 rfl) ?_
    refine lv_iload_n hx hb dX7_seekIn_17 rfl (lv_at hl 3 rfl) ?_
    obtain ⟨t_2, h_3, hf⟩ := sn_bd hf
    refine sn_callNi (rest := [.ref (ad q2), .ref (ad 54)]) C hw (ctX8_firstMinutes l  h_3) kl_RX7_41 rfl rfl rfl (Nat.le_of_ble_eq_true rfl) dX7_seekIn_18 hl.1 (fun H locs hw => ?_)
    obtain ⟨t_4, h_5, hf⟩ := sn_bd hf
    refine sn_callVi (rest := []) C hw (ctX7_meets l h2 h_5) kl_RX7_45 layC_54 rfl rfl rfl rfl (Nat.le_of_ble_eq_true rfl) dX7_seekIn_21 hl.1 (fun H locs hw => ?_)
    refine lv_if_ne (tgt := 28) hx hb dX7_seekIn_24 (by decide) (fun c_6 => ?_) (fun c_6 => ?_)
    · have hf := sn_el c_6 hf
      refine lv_iconst (v := 1) hx hb dX7_seekIn_28 rfl ?_
      refine lv_istore (lv' := [(4, .int (1 : Int32)), (0, .ref (ad 54)), (1, .ref (ad q1)), (2, .ref (ad q2)), (3, .int x3)]) hx hb dX7_seekIn_29 hl (by decide) rfl (fun ls hl => ?_)
      obtain ⟨t_7, h_8, hf⟩ := sn_bd hf
      exact wX7_seekIn_L31 C h1 h2 h_8 (fun v e => by cases e; exact wX7_seekIn_91 C h1 h2 hf kc kx kr) _ _ _ hw (lv_sub hl [1, 2, 3, 4, 0] rfl)
    · have hf := sn_if c_6 hf
      cases hf
      exact kr _ rfl _ _ _ _ hw rfl dX7_seekIn_27
theorem wX7_seekIn_L7 (C : sn_C p s m args meth c RX7 cX7_seekIn 5 none D ct ad layC A) {q1 : Nat} {q2 : Nat}  (h1 : sn_isX0 q1) (h2 : sn_isX0 q2) {z : sn_S × Int32} {t : (sn_S) ⊕ sn_S} (h : sn_it (LX7_seekIn_7 q1 q2) 5000 z = some t) (kx : ∀ v, t = .inl v → sn_At p l e rmX7_seekIn s m args below meth c Q D ct ad layC A 5 v 117 [] []) (kr : ∀ r, t = .inr r → sn_Kr p l e rmX7_seekIn s m args below meth c Q D ct ad layC A cX7_seekIn .return_ (true) r []) : sn_At p l e rmX7_seekIn s m args below meth c Q D ct ad layC A 5 z.1 7 [(0, .ref (ad 54)), (1, .ref (ad q1)), (2, .ref (ad q2)), (3, .int z.2)] [] :=
  sn_loop (f := LX7_seekIn_7 q1 q2) (G := fun z => sn_At p l e rmX7_seekIn s m args below meth c Q D ct ad layC A 5 z.1 7 [(0, .ref (ad 54)), (1, .ref (ad q1)), (2, .ref (ad q2)), (3, .int z.2)] []) (E := fun t => (∀ v, t = .inl v → sn_At p l e rmX7_seekIn s m args below meth c Q D ct ad layC A 5 v 117 [] []) ∧ (∀ r, t = .inr r → sn_Kr p l e rmX7_seekIn s m args below meth c Q D ct ad layC A cX7_seekIn .return_ (true) r [])) (fun z o hf k1 k2 => wX7_seekIn_7 C h1 h2 hf (fun v e => k1 v e) (fun v e => (k2 _ e).1 v rfl) (fun r e => (k2 _ e).2 r rfl)) 5000 z t h ⟨kx, kr⟩
theorem wX7_seekIn_in (C : sn_C p s m args meth c RX7 cX7_seekIn 5 none D ct ad layC A) {σ : sn_S} {q1 : Nat} {q2 : Nat} (h1 : sn_isX0 q1) (h2 : sn_isX0 q2) {o : sn_S} (hf : fX7_seekIn σ q1 q2 = some o) (kr : sn_Kr p l e rmX7_seekIn s m args below meth c Q D ct ad layC A cX7_seekIn .return_ (true) o []) : sn_At p l e rmX7_seekIn s m args below meth c Q D ct ad layC A 5 σ 0 [(0, .ref (ad 54)), (1, .ref (ad q1)), (2, .ref (ad q2))] [] := by
  intro H locs ls hw hl
  have hx := C.1
  have hb := C.2.1
  unfold fX7_seekIn at hf
  refine lv_aload_n hx hb dX7_seekIn_0 rfl (lv_at hl 2 rfl) ?_
  refine lv_aload_n hx hb dX7_seekIn_1 rfl (lv_at hl 1 rfl) ?_
  obtain ⟨t_1, h_2, hf⟩ := sn_bd hf
  refine sn_callVv (rest := []) C hw (ctX0_copyFrom l h2 h1 h_2) kl_RX7_34 (sn_look h2 (k := 0) rfl) rfl rfl rfl rfl (Nat.le_of_ble_eq_true rfl) dX7_seekIn_2 hl.1 (fun H locs hw => ?_)
  refine lv_iconst (v := 0) hx hb dX7_seekIn_5 rfl ?_
  refine lv_istore_n (lv' := [(3, .int (0 : Int32)), (0, .ref (ad 54)), (1, .ref (ad q1)), (2, .ref (ad q2))]) hx hb dX7_seekIn_6 rfl hl (by decide) rfl (fun ls hl => ?_)
  obtain ⟨t_3, h_4, hf⟩ := sn_bd hf
  rcases t_3 with v_5 | r_6
  · rw [Sum.elim_inl] at hf
    exact wX7_seekIn_L7 C h1 h2 h_4 (fun v e => by cases e; exact wX7_seekIn_117 C h1 h2 hf kr) (fun r e => by cases e) _ _ _ hw (lv_sub hl [1, 2, 3, 0] rfl)
  · rw [Sum.elim_inr] at hf
    cases hf
    exact wX7_seekIn_L7 C h1 h2 h_4 (fun v e => by cases e) (fun r e => by cases e; exact kr) _ _ _ hw (lv_sub hl [1, 2, 3, 0] rfl)
theorem ctX7_seekIn (l : Launch) {σ : sn_S} {q1 : Nat} {q2 : Nat} (h1 : sn_isX0 q1) (h2 : sn_isX0 q2) {o : sn_S} (hf : fX7_seekIn σ q1 q2 = some o) : sn_M l yX7_seekIn cX7_seekIn 5 none rmX7_seekIn layC (fun ad => [.ref (ad 54), .ref (ad q1), .ref (ad q2)]) σ none o :=
  sn_met (by decide) (fun _ => Nat.le_of_ble_eq_true rfl) (fun p e s m args below meth c ls D ct ad A C hw hl => wX7_seekIn_in C h1 h2 hf (fun H locs ls pc hw ok hd => sn_vret C hw hd) _ _ _ hw hl)
-- X7_atWorst
abbrev rmX7_atWorst : Room := { frames := 1, cells := 0, slots := 0, locals := 32 }
def BX7_atWorst_32 (σ : sn_S) (x2 : Int32) : Option (Int32) :=
  (some x2)
def BX7_atWorst_4 (σ : sn_S) (x1 : Int32) (x2 : Int32) (x3 : Int32) : Option ((Int32 × Int32) ⊕ (Int32)) :=
  (if (31 : Int32) ≤ x3 then
  (some (.inr (x2)))
  else
  (sn_gd (sn_in (((31 : Int32) * x1) + x3) 186) (sn_lt (if x2 < (sn_I σ 56 (((31 : Int32) * x1) + x3).toNatClampNeg) then (sn_I σ 56 (((31 : Int32) * x1) + x3).toNatClampNeg) else x2) fun y_3 => (sn_lt (x3 + 1) fun y_5 => (some (.inl (y_3, y_5)))))))
def LX7_atWorst_4 (σ : sn_S) (x1 : Int32) (s : Int32 × Int32) : Option ((Int32 × Int32) ⊕ (Int32)) := BX7_atWorst_4 σ x1 s.1 s.2
def fX7_atWorst (σ : sn_S) (x1 : Int32) : Option Int32 :=
  ((sn_it (LX7_atWorst_4 σ x1) 5000 ((0 : Int32), (0 : Int32))).bind fun t_1 => (BX7_atWorst_32 σ t_1))
theorem wX7_atWorst_32 (C : sn_C p s m args meth c RX7 cX7_atWorst 4 (some .int) D ct ad layC A) {σ : sn_S} {x2 : Int32}  {o : Int32} (hf : BX7_atWorst_32 σ x2 = some o) (kr : sn_Kr p l e rmX7_atWorst s m args below meth c Q D ct ad layC A cX7_atWorst .ireturn (true) σ [.int o]) : sn_At p l e rmX7_atWorst s m args below meth c Q D ct ad layC A 4 σ 32 [(2, .int x2)] [] := by
  intro H locs ls hw hl
  have hx := C.1
  have hb := C.2.1
  unfold BX7_atWorst_32 at hf
  refine lv_iload_n hx hb dX7_atWorst_32 rfl (lv_at hl 0 rfl) ?_
  cases hf
  exact kr _ _ _ _ hw rfl dX7_atWorst_33
theorem wX7_atWorst_4 (C : sn_C p s m args meth c RX7 cX7_atWorst 4 (some .int) D ct ad layC A) {σ : sn_S} {x1 : Int32} {x2 : Int32} {x3 : Int32}  {o : (Int32 × Int32) ⊕ (Int32)} (hf : BX7_atWorst_4 σ x1 x2 x3 = some o) (kc : ∀ v, o = .inl v → sn_At p l e rmX7_atWorst s m args below meth c Q D ct ad layC A 4 σ 4 [(0, .ref (ad 54)), (1, .int x1), (2, .int v.1), (3, .int v.2)] []) (kx : ∀ v, o = .inr v → sn_At p l e rmX7_atWorst s m args below meth c Q D ct ad layC A 4 σ 32 [(2, .int v)] []) : sn_At p l e rmX7_atWorst s m args below meth c Q D ct ad layC A 4 σ 4 [(0, .ref (ad 54)), (1, .int x1), (2, .int x2), (3, .int x3)] [] := by
  intro H locs ls hw hl
  have hx := C.1
  have hb := C.2.1
  unfold BX7_atWorst_4 at hf
  refine lv_iload_n hx hb dX7_atWorst_4 rfl (lv_at hl 3 rfl) ?_
  refine lv_bipush (v := 31) hx hb dX7_atWorst_5 (by decide) ?_
  refine lv_icmp_ge (tgt := 32) hx hb dX7_atWorst_7 (by decide) (fun c_1 => ?_) (fun c_1 => ?_)
  · have hf := sn_if c_1 hf
    cases hf
    exact kx _ rfl _ _ _ hw (lv_sub hl [2] rfl)
  · have hf := sn_el c_1 hf
    refine lv_iload_n hx hb dX7_atWorst_10 rfl (lv_at hl 2 rfl) ?_
    refine lv_aload_n hx hb dX7_atWorst_11 rfl (lv_at hl 0 rfl) ?_
    refine sn_getC (r := 56) C hw fd_RX7_15 layC_54 rfl dX7_atWorst_12 ?_
    refine lv_bipush (v := 31) hx hb dX7_atWorst_15 (by decide) ?_
    refine lv_iload_n hx hb dX7_atWorst_17 rfl (lv_at hl 1 rfl) ?_
    refine lv_imul hx hb dX7_atWorst_18 ?_
    refine lv_iload_n hx hb dX7_atWorst_19 rfl (lv_at hl 3 rfl) ?_
    refine lv_iadd hx hb dX7_atWorst_20 ?_
    obtain ⟨g_2, hf⟩ := sn_gdE hf
    refine sn_iald C hw layC_56 g_2 dX7_atWorst_21 ?_
    refine va_mmax hx hb (C.2.2.1.trans hl.1.symm) C.2.2.2.1 (C.2.2.2.2.1 _ km_RX7_71) (C.2.2.2.2.1 _ kst_maxI) (C.2.2.2.2.1 _ ki_Math) (C.2.2.2.2.1 _ kc_maxI) (Nat.le_of_ble_eq_true rfl) (Nat.le_of_ble_eq_true rfl) (Nat.zero_le _) (Nat.zero_le _) dX7_atWorst_22 ?_
    obtain ⟨y_3, e_4, hf⟩ := sn_ltE hf
    refine lv_topi (fun y_3_ e_4_ => ?_)
    obtain rfl : y_3 = y_3_ := e_4.trans e_4_.symm
    refine lv_istore_n (lv' := [(2, .int y_3), (0, .ref (ad 54)), (1, .int x1), (3, .int x3)]) hx hb dX7_atWorst_25 rfl hl (by decide) rfl (fun ls hl => ?_)
    obtain ⟨y_5, e_6, hf⟩ := sn_ltE hf
    refine lv_iinc (v := y_5) (lv' := [(3, .int y_5), (2, .int y_3), (0, .ref (ad 54)), (1, .int x1)]) hx hb dX7_atWorst_26 hl (k := 3) rfl (by rw [e_6]; rfl) (by decide) rfl (fun ls hl => ?_)
    refine lv_goto (tgt := 4) hx hb dX7_atWorst_29 (by decide) ?_
    cases hf
    exact kc _ rfl _ _ _ hw (lv_sub hl [2, 3, 1, 0] rfl)
theorem wX7_atWorst_L4 (C : sn_C p s m args meth c RX7 cX7_atWorst 4 (some .int) D ct ad layC A) {σ : sn_S} {x1 : Int32}   {z : Int32 × Int32} {t : Int32} (h : sn_it (LX7_atWorst_4 σ x1) 5000 z = some t) (kx : ∀ v, t = v → sn_At p l e rmX7_atWorst s m args below meth c Q D ct ad layC A 4 σ 32 [(2, .int v)] []) : sn_At p l e rmX7_atWorst s m args below meth c Q D ct ad layC A 4 σ 4 [(0, .ref (ad 54)), (1, .int x1), (2, .int z.1), (3, .int z.2)] [] :=
  sn_loop (f := LX7_atWorst_4 σ x1) (G := fun z => sn_At p l e rmX7_atWorst s m args below meth c Q D ct ad layC A 4 σ 4 [(0, .ref (ad 54)), (1, .int x1), (2, .int z.1), (3, .int z.2)] []) (E := fun t => (∀ v, t = v → sn_At p l e rmX7_atWorst s m args below meth c Q D ct ad layC A 4 σ 32 [(2, .int v)] []) ∧ True) (fun z o hf k1 k2 => wX7_atWorst_4 C  hf (fun v e => k1 v e) (fun v e => (k2 _ e).1 v rfl)) 5000 z t h ⟨kx, trivial⟩
theorem wX7_atWorst_in (C : sn_C p s m args meth c RX7 cX7_atWorst 4 (some .int) D ct ad layC A) {σ : sn_S} {x1 : Int32}  {o : Int32} (hf : fX7_atWorst σ x1 = some o) (kr : sn_Kr p l e rmX7_atWorst s m args below meth c Q D ct ad layC A cX7_atWorst .ireturn (true) σ [.int o]) : sn_At p l e rmX7_atWorst s m args below meth c Q D ct ad layC A 4 σ 0 [(0, .ref (ad 54)), (1, .int x1)] [] := by
  intro H locs ls hw hl
  have hx := C.1
  have hb := C.2.1
  unfold fX7_atWorst at hf
  refine lv_iconst (v := 0) hx hb dX7_atWorst_0 rfl ?_
  refine lv_istore_n (lv' := [(2, .int (0 : Int32)), (0, .ref (ad 54)), (1, .int x1)]) hx hb dX7_atWorst_1 rfl hl (by decide) rfl (fun ls hl => ?_)
  refine lv_iconst (v := 0) hx hb dX7_atWorst_2 rfl ?_
  refine lv_istore_n (lv' := [(3, .int (0 : Int32)), (2, .int (0 : Int32)), (0, .ref (ad 54)), (1, .int x1)]) hx hb dX7_atWorst_3 rfl hl (by decide) rfl (fun ls hl => ?_)
  obtain ⟨t_1, h_2, hf⟩ := sn_bd hf
  exact wX7_atWorst_L4 C  h_2 (fun v e => by cases e; exact wX7_atWorst_32 C  hf kr) _ _ _ hw (lv_sub hl [2, 3, 1, 0] rfl)
theorem ctX7_atWorst (l : Launch) {σ : sn_S} {x1 : Int32}  {o : Int32} (hf : fX7_atWorst σ x1 = some o) : sn_M l yX7_atWorst cX7_atWorst 4 (some .int) rmX7_atWorst layC (fun ad => [.ref (ad 54), .int x1]) σ (some (fun _ => .int o)) σ :=
  sn_met (by decide) (fun _ => Nat.le_of_ble_eq_true rfl) (fun p e s m args below meth c ls D ct ad A C hw hl => wX7_atWorst_in C  hf (fun H locs ls pc hw ok hd => sn_iret C hw hd) _ _ _ hw hl)
-- X7_whomToAsk
abbrev rmX7_whomToAsk : Room := { frames := 2, cells := 0, slots := 0, locals := 55 }
def BX7_whomToAsk_42 (σ : sn_S) (x2 : Int32) : Option (Int32) :=
  (some x2)
def BX7_whomToAsk_36 (σ : sn_S) (x1 : Int32) (x2 : Int32) (x3 : Int32) (x4 : Int32) : Option ((Int32 × Int32 × Int32) ⊕ (Int32)) :=
  (sn_lt (x4 + 1) fun y_1 => (some (.inl (x2, x3, y_1))))
def BX7_whomToAsk_10 (σ : sn_S) (x1 : Int32) (x2 : Int32) (x3 : Int32) (x4 : Int32) : Option ((Int32 × Int32 × Int32) ⊕ (Int32)) :=
  (if x1 ≤ x4 then
  (some (.inr (x2)))
  else
  ((fX7_atWorst σ x4).bind fun t_2 => (if x3 ≤ t_2 then
  (BX7_whomToAsk_36 σ x1 x2 x3 x4)
  else
  (BX7_whomToAsk_36 σ x1 x4 t_2 x4))))
def LX7_whomToAsk_10 (σ : sn_S) (x1 : Int32) (s : Int32 × Int32 × Int32) : Option ((Int32 × Int32 × Int32) ⊕ (Int32)) := BX7_whomToAsk_10 σ x1 s.1 s.2.1 s.2.2
def fX7_whomToAsk (σ : sn_S) (x1 : Int32) : Option Int32 :=
  (sn_lt (sn_I σ 54 1) fun y_1 => ((sn_it (LX7_whomToAsk_10 σ x1) 5000 ((-1 : Int32), y_1, (0 : Int32))).bind fun t_3 => (BX7_whomToAsk_42 σ t_3)))
theorem wX7_whomToAsk_42 (C : sn_C p s m args meth c RX7 cX7_whomToAsk 6 (some .int) D ct ad layC A) {σ : sn_S} {x2 : Int32}  {o : Int32} (hf : BX7_whomToAsk_42 σ x2 = some o) (kr : sn_Kr p l e rmX7_whomToAsk s m args below meth c Q D ct ad layC A cX7_whomToAsk .ireturn (true) σ [.int o]) : sn_At p l e rmX7_whomToAsk s m args below meth c Q D ct ad layC A 6 σ 42 [(2, .int x2)] [] := by
  intro H locs ls hw hl
  have hx := C.1
  have hb := C.2.1
  unfold BX7_whomToAsk_42 at hf
  refine lv_iload_n hx hb dX7_whomToAsk_42 rfl (lv_at hl 0 rfl) ?_
  cases hf
  exact kr _ _ _ _ hw rfl dX7_whomToAsk_43
theorem wX7_whomToAsk_36 (C : sn_C p s m args meth c RX7 cX7_whomToAsk 6 (some .int) D ct ad layC A) {σ : sn_S} {x1 : Int32} {x2 : Int32} {x3 : Int32} {x4 : Int32}  {o : (Int32 × Int32 × Int32) ⊕ (Int32)} (hf : BX7_whomToAsk_36 σ x1 x2 x3 x4 = some o) (kc : ∀ v, o = .inl v → sn_At p l e rmX7_whomToAsk s m args below meth c Q D ct ad layC A 6 σ 10 [(0, .ref (ad 54)), (1, .int x1), (2, .int v.1), (3, .int v.2.1), (4, .int v.2.2)] []) (kx : ∀ v, o = .inr v → sn_At p l e rmX7_whomToAsk s m args below meth c Q D ct ad layC A 6 σ 42 [(2, .int v)] []) : sn_At p l e rmX7_whomToAsk s m args below meth c Q D ct ad layC A 6 σ 36 [(0, .ref (ad 54)), (1, .int x1), (2, .int x2), (3, .int x3), (4, .int x4)] [] := by
  intro H locs ls hw hl
  have hx := C.1
  have hb := C.2.1
  unfold BX7_whomToAsk_36 at hf
  obtain ⟨y_1, e_2, hf⟩ := sn_ltE hf
  refine lv_iinc (v := y_1) (lv' := [(4, .int y_1), (0, .ref (ad 54)), (1, .int x1), (2, .int x2), (3, .int x3)]) hx hb dX7_whomToAsk_36 hl (k := 4) rfl (by rw [e_2]; rfl) (by decide) rfl (fun ls hl => ?_)
  refine lv_goto (tgt := 10) hx hb dX7_whomToAsk_39 (by decide) ?_
  cases hf
  exact kc _ rfl _ _ _ hw (lv_sub hl [1, 2, 3, 4, 0] rfl)
theorem wX7_whomToAsk_10 (C : sn_C p s m args meth c RX7 cX7_whomToAsk 6 (some .int) D ct ad layC A) {σ : sn_S} {x1 : Int32} {x2 : Int32} {x3 : Int32} {x4 : Int32}  {o : (Int32 × Int32 × Int32) ⊕ (Int32)} (hf : BX7_whomToAsk_10 σ x1 x2 x3 x4 = some o) (kc : ∀ v, o = .inl v → sn_At p l e rmX7_whomToAsk s m args below meth c Q D ct ad layC A 6 σ 10 [(0, .ref (ad 54)), (1, .int x1), (2, .int v.1), (3, .int v.2.1), (4, .int v.2.2)] []) (kx : ∀ v, o = .inr v → sn_At p l e rmX7_whomToAsk s m args below meth c Q D ct ad layC A 6 σ 42 [(2, .int v)] []) : sn_At p l e rmX7_whomToAsk s m args below meth c Q D ct ad layC A 6 σ 10 [(0, .ref (ad 54)), (1, .int x1), (2, .int x2), (3, .int x3), (4, .int x4)] [] := by
  intro H locs ls hw hl
  have hx := C.1
  have hb := C.2.1
  unfold BX7_whomToAsk_10 at hf
  refine lv_iload hx hb dX7_whomToAsk_10 (lv_at hl 4 rfl) ?_
  refine lv_iload_n hx hb dX7_whomToAsk_12 rfl (lv_at hl 1 rfl) ?_
  refine lv_icmp_ge (tgt := 42) hx hb dX7_whomToAsk_13 (by decide) (fun c_1 => ?_) (fun c_1 => ?_)
  · have hf := sn_if c_1 hf
    cases hf
    exact kx _ rfl _ _ _ hw (lv_sub hl [2] rfl)
  · have hf := sn_el c_1 hf
    refine lv_aload_n hx hb dX7_whomToAsk_16 rfl (lv_at hl 0 rfl) ?_
    refine lv_iload hx hb dX7_whomToAsk_17 (lv_at hl 4 rfl) ?_
    obtain ⟨t_2, h_3, hf⟩ := sn_bd hf
    refine sn_callVi (rest := []) C hw (ctX7_atWorst l  h_3) kl_RX7_77 layC_54 rfl rfl rfl rfl (Nat.le_of_ble_eq_true rfl) dX7_whomToAsk_19 hl.1 (fun H locs hw => ?_)
    refine lv_istore (lv' := [(5, .int t_2), (0, .ref (ad 54)), (1, .int x1), (2, .int x2), (3, .int x3), (4, .int x4)]) hx hb dX7_whomToAsk_22 hl (by decide) rfl (fun ls hl => ?_)
    refine lv_iload hx hb dX7_whomToAsk_24 (lv_at hl 0 rfl) ?_
    refine lv_iload_n hx hb dX7_whomToAsk_26 rfl (lv_at hl 4 rfl) ?_
    refine lv_icmp_ge (tgt := 36) hx hb dX7_whomToAsk_27 (by decide) (fun c_4 => ?_) (fun c_4 => ?_)
    · have hf := sn_if c_4 hf
      exact wX7_whomToAsk_36 C  hf kc kx _ _ _ hw (lv_sub hl [1, 2, 3, 4, 5] rfl)
    · have hf := sn_el c_4 hf
      refine lv_iload hx hb dX7_whomToAsk_30 (lv_at hl 0 rfl) ?_
      refine lv_istore_n (lv' := [(3, .int t_2), (5, .int t_2), (0, .ref (ad 54)), (1, .int x1), (2, .int x2), (4, .int x4)]) hx hb dX7_whomToAsk_32 rfl hl (by decide) rfl (fun ls hl => ?_)
      refine lv_iload hx hb dX7_whomToAsk_33 (lv_at hl 5 rfl) ?_
      refine lv_istore_n (lv' := [(2, .int x4), (3, .int t_2), (5, .int t_2), (0, .ref (ad 54)), (1, .int x1), (4, .int x4)]) hx hb dX7_whomToAsk_35 rfl hl (by decide) rfl (fun ls hl => ?_)
      exact wX7_whomToAsk_36 C  hf kc kx _ _ _ hw (lv_sub hl [3, 4, 0, 1, 5] rfl)
theorem wX7_whomToAsk_L10 (C : sn_C p s m args meth c RX7 cX7_whomToAsk 6 (some .int) D ct ad layC A) {σ : sn_S} {x1 : Int32}   {z : Int32 × Int32 × Int32} {t : Int32} (h : sn_it (LX7_whomToAsk_10 σ x1) 5000 z = some t) (kx : ∀ v, t = v → sn_At p l e rmX7_whomToAsk s m args below meth c Q D ct ad layC A 6 σ 42 [(2, .int v)] []) : sn_At p l e rmX7_whomToAsk s m args below meth c Q D ct ad layC A 6 σ 10 [(0, .ref (ad 54)), (1, .int x1), (2, .int z.1), (3, .int z.2.1), (4, .int z.2.2)] [] :=
  sn_loop (f := LX7_whomToAsk_10 σ x1) (G := fun z => sn_At p l e rmX7_whomToAsk s m args below meth c Q D ct ad layC A 6 σ 10 [(0, .ref (ad 54)), (1, .int x1), (2, .int z.1), (3, .int z.2.1), (4, .int z.2.2)] []) (E := fun t => (∀ v, t = v → sn_At p l e rmX7_whomToAsk s m args below meth c Q D ct ad layC A 6 σ 42 [(2, .int v)] []) ∧ True) (fun z o hf k1 k2 => wX7_whomToAsk_10 C  hf (fun v e => k1 v e) (fun v e => (k2 _ e).1 v rfl)) 5000 z t h ⟨kx, trivial⟩
theorem wX7_whomToAsk_in (C : sn_C p s m args meth c RX7 cX7_whomToAsk 6 (some .int) D ct ad layC A) {σ : sn_S} {x1 : Int32}  {o : Int32} (hf : fX7_whomToAsk σ x1 = some o) (kr : sn_Kr p l e rmX7_whomToAsk s m args below meth c Q D ct ad layC A cX7_whomToAsk .ireturn (true) σ [.int o]) : sn_At p l e rmX7_whomToAsk s m args below meth c Q D ct ad layC A 6 σ 0 [(0, .ref (ad 54)), (1, .int x1)] [] := by
  intro H locs ls hw hl
  have hx := C.1
  have hb := C.2.1
  unfold fX7_whomToAsk at hf
  refine lv_iconst (v := (-1)) hx hb dX7_whomToAsk_0 rfl ?_
  refine lv_istore_n (lv' := [(2, .int (-1 : Int32)), (0, .ref (ad 54)), (1, .int x1)]) hx hb dX7_whomToAsk_1 rfl hl (by decide) rfl (fun ls hl => ?_)
  refine lv_aload_n hx hb dX7_whomToAsk_2 rfl (lv_at hl 1 rfl) ?_
  refine sn_getI C hw fd_RX7_24 layC_54 rfl dX7_whomToAsk_3 ?_
  obtain ⟨y_1, e_2, hf⟩ := sn_ltE hf
  refine lv_topi (fun y_1_ e_2_ => ?_)
  obtain rfl : y_1 = y_1_ := e_2.trans e_2_.symm
  refine lv_istore_n (lv' := [(3, .int y_1), (2, .int (-1 : Int32)), (0, .ref (ad 54)), (1, .int x1)]) hx hb dX7_whomToAsk_6 rfl hl (by decide) rfl (fun ls hl => ?_)
  refine lv_iconst (v := 0) hx hb dX7_whomToAsk_7 rfl ?_
  refine lv_istore (lv' := [(4, .int (0 : Int32)), (3, .int y_1), (2, .int (-1 : Int32)), (0, .ref (ad 54)), (1, .int x1)]) hx hb dX7_whomToAsk_8 hl (by decide) rfl (fun ls hl => ?_)
  obtain ⟨t_3, h_4, hf⟩ := sn_bd hf
  exact wX7_whomToAsk_L10 C  h_4 (fun v e => by cases e; exact wX7_whomToAsk_42 C  hf kr) _ _ _ hw (lv_sub hl [3, 4, 2, 1, 0] rfl)
theorem ctX7_whomToAsk (l : Launch) {σ : sn_S} {x1 : Int32}  {o : Int32} (hf : fX7_whomToAsk σ x1 = some o) : sn_M l yX7_whomToAsk cX7_whomToAsk 6 (some .int) rmX7_whomToAsk layC (fun ad => [.ref (ad 54), .int x1]) σ (some (fun _ => .int o)) σ :=
  sn_met (by decide) (fun _ => Nat.le_of_ble_eq_true rfl) (fun p e s m args below meth c ls D ct ad A C hw hl => wX7_whomToAsk_in C  hf (fun H locs ls pc hw ok hd => sn_iret C hw hd) _ _ _ hw hl)
-- X8_feed
abbrev rmX8_feed : Room := { frames := 1, cells := 0, slots := 0, locals := 22 }
def fX8_feed (σ : sn_S) (x1 : Int32) (x2 : Int32) (x3 : Int32) (x4 : Int32) (x5 : Int32) : Option (Int32 × sn_S) :=
  (if ((sn_I σ 17 1) + (20 : Int32)) ≤ (900 : Int32) then
  ((fX5_put σ x1).bind fun t_2 => ((fX5_put t_2 x2).bind fun t_4 => ((fX5_put t_4 x3).bind fun t_6 => ((fX5_put t_6 x4).bind fun t_8 => ((fX5_put t_8 x5).bind fun t_10 => (some ((sn_I t_10 17 1), t_10)))))))
  else
  (some ((-1 : Int32), σ)))
theorem wX8_feed_in (C : sn_C p s m args meth c RX8 cX8_feed 6 (some .int) D ct ad layC A) {σ : sn_S} {x1 : Int32} {x2 : Int32} {x3 : Int32} {x4 : Int32} {x5 : Int32}  {o : (Int32 × sn_S)} (hf : fX8_feed σ x1 x2 x3 x4 x5 = some o) (kr : sn_Kr p l e rmX8_feed s m args below meth c Q D ct ad layC A cX8_feed .ireturn (true) o.2 [.int o.1]) : sn_At p l e rmX8_feed s m args below meth c Q D ct ad layC A 6 σ 0 [(0, .ref (ad 0)), (1, .int x1), (2, .int x2), (3, .int x3), (4, .int x4), (5, .int x5)] [] := by
  intro H locs ls hw hl
  have hx := C.1
  have hb := C.2.1
  unfold fX8_feed at hf
  refine lv_aload_n hx hb dX8_feed_0 rfl (lv_at hl 0 rfl) ?_
  refine sn_getC (r := 17) C hw fd_RX8_30 layC_0 rfl dX8_feed_1 ?_
  refine sn_getI C hw fd_RX8_79 layC_17 rfl dX8_feed_4 ?_
  refine lv_bipush (v := 20) hx hb dX8_feed_7 (by decide) ?_
  refine lv_iadd hx hb dX8_feed_9 ?_
  refine lv_sipush (v := 900) hx hb dX8_feed_10 (by decide) ?_
  refine lv_icmp_le (tgt := 18) hx hb dX8_feed_13 (by decide) (fun c_1 => ?_) (fun c_1 => ?_)
  · have hf := sn_if c_1 hf
    refine lv_aload_n hx hb dX8_feed_18 rfl (lv_at hl 0 rfl) ?_
    refine sn_getC (r := 17) C hw fd_RX8_30 layC_0 rfl dX8_feed_19 ?_
    refine lv_iload_n hx hb dX8_feed_22 rfl (lv_at hl 1 rfl) ?_
    obtain ⟨t_2, h_3, hf⟩ := sn_bd hf
    refine sn_callVv (rest := []) C hw (ctX5_put l  h_3) kl_RX8_83 layC_17 rfl rfl rfl rfl (Nat.le_of_ble_eq_true rfl) dX8_feed_23 hl.1 (fun H locs hw => ?_)
    refine lv_aload_n hx hb dX8_feed_26 rfl (lv_at hl 0 rfl) ?_
    refine sn_getC (r := 17) C hw fd_RX8_30 layC_0 rfl dX8_feed_27 ?_
    refine lv_iload_n hx hb dX8_feed_30 rfl (lv_at hl 2 rfl) ?_
    obtain ⟨t_4, h_5, hf⟩ := sn_bd hf
    refine sn_callVv (rest := []) C hw (ctX5_put l  h_5) kl_RX8_83 layC_17 rfl rfl rfl rfl (Nat.le_of_ble_eq_true rfl) dX8_feed_31 hl.1 (fun H locs hw => ?_)
    refine lv_aload_n hx hb dX8_feed_34 rfl (lv_at hl 0 rfl) ?_
    refine sn_getC (r := 17) C hw fd_RX8_30 layC_0 rfl dX8_feed_35 ?_
    refine lv_iload_n hx hb dX8_feed_38 rfl (lv_at hl 3 rfl) ?_
    obtain ⟨t_6, h_7, hf⟩ := sn_bd hf
    refine sn_callVv (rest := []) C hw (ctX5_put l  h_7) kl_RX8_83 layC_17 rfl rfl rfl rfl (Nat.le_of_ble_eq_true rfl) dX8_feed_39 hl.1 (fun H locs hw => ?_)
    refine lv_aload_n hx hb dX8_feed_42 rfl (lv_at hl 0 rfl) ?_
    refine sn_getC (r := 17) C hw fd_RX8_30 layC_0 rfl dX8_feed_43 ?_
    refine lv_iload hx hb dX8_feed_46 (lv_at hl 4 rfl) ?_
    obtain ⟨t_8, h_9, hf⟩ := sn_bd hf
    refine sn_callVv (rest := []) C hw (ctX5_put l  h_9) kl_RX8_83 layC_17 rfl rfl rfl rfl (Nat.le_of_ble_eq_true rfl) dX8_feed_48 hl.1 (fun H locs hw => ?_)
    refine lv_aload_n hx hb dX8_feed_51 rfl (lv_at hl 0 rfl) ?_
    refine sn_getC (r := 17) C hw fd_RX8_30 layC_0 rfl dX8_feed_52 ?_
    refine lv_iload hx hb dX8_feed_55 (lv_at hl 5 rfl) ?_
    obtain ⟨t_10, h_11, hf⟩ := sn_bd hf
    refine sn_callVv (rest := []) C hw (ctX5_put l  h_11) kl_RX8_83 layC_17 rfl rfl rfl rfl (Nat.le_of_ble_eq_true rfl) dX8_feed_57 hl.1 (fun H locs hw => ?_)
    refine lv_aload_n hx hb dX8_feed_60 rfl (lv_at hl 0 rfl) ?_
    refine sn_getC (r := 17) C hw fd_RX8_30 layC_0 rfl dX8_feed_61 ?_
    refine sn_getI C hw fd_RX8_79 layC_17 rfl dX8_feed_64 ?_
    cases hf
    exact kr _ _ _ _ hw rfl dX8_feed_67
  · have hf := sn_el c_1 hf
    refine lv_iconst (v := (-1)) hx hb dX8_feed_16 rfl ?_
    cases hf
    exact kr _ _ _ _ hw rfl dX8_feed_17
theorem ctX8_feed (l : Launch) {σ : sn_S} {x1 : Int32} {x2 : Int32} {x3 : Int32} {x4 : Int32} {x5 : Int32}  {o : (Int32 × sn_S)} (hf : fX8_feed σ x1 x2 x3 x4 x5 = some o) : sn_M l yX8_feed cX8_feed 6 (some .int) rmX8_feed layC (fun ad => [.ref (ad 0), .int x1, .int x2, .int x3, .int x4, .int x5]) σ (some (fun _ => .int o.1)) o.2 :=
  sn_met (by decide) (fun _ => Nat.le_of_ble_eq_true rfl) (fun p e s m args below meth c ls D ct ad A C hw hl => wX8_feed_in C  hf (fun H locs ls pc hw ok hd => sn_iret C hw hd) _ _ _ hw hl)
-- X8_end
abbrev rmX8_end : Room := { frames := 0, cells := 0, slots := 0, locals := 0 }
def fX8_end (σ : sn_S) (x1 : Int32) : Option (Int32 × sn_S) :=
  (if x1 < 0 then
  (some ((-1 : Int32), σ))
  else
  (if x1 ≤ (sn_I σ 17 1) then
  (sn_lt (sn_pI σ 17 1 x1) fun σ_3 => (some (x1, σ_3)))
  else
  (some ((-1 : Int32), σ))))
theorem wX8_end_in (C : sn_C p s m args meth c RX8 cX8_end 2 (some .int) D ct ad layC A) {σ : sn_S} {x1 : Int32}  {o : (Int32 × sn_S)} (hf : fX8_end σ x1 = some o) (kr : sn_Kr p l e rmX8_end s m args below meth c Q D ct ad layC A cX8_end .ireturn (true) o.2 [.int o.1]) : sn_At p l e rmX8_end s m args below meth c Q D ct ad layC A 2 σ 0 [(0, .ref (ad 0)), (1, .int x1)] [] := by
  intro H locs ls hw hl
  have hx := C.1
  have hb := C.2.1
  unfold fX8_end at hf
  refine lv_iload_n hx hb dX8_end_0 rfl (lv_at hl 1 rfl) ?_
  refine lv_if_lt (tgt := 15) hx hb dX8_end_1 (by decide) (fun c_1 => ?_) (fun c_1 => ?_)
  · have hf := sn_if c_1 hf
    refine lv_iconst (v := (-1)) hx hb dX8_end_15 rfl ?_
    cases hf
    exact kr _ _ _ _ hw rfl dX8_end_16
  · have hf := sn_el c_1 hf
    refine lv_iload_n hx hb dX8_end_4 rfl (lv_at hl 1 rfl) ?_
    refine lv_aload_n hx hb dX8_end_5 rfl (lv_at hl 0 rfl) ?_
    refine sn_getC (r := 17) C hw fd_RX8_30 layC_0 rfl dX8_end_6 ?_
    refine sn_getI C hw fd_RX8_79 layC_17 rfl dX8_end_9 ?_
    refine lv_icmp_le (tgt := 17) hx hb dX8_end_12 (by decide) (fun c_2 => ?_) (fun c_2 => ?_)
    · have hf := sn_if c_2 hf
      refine lv_aload_n hx hb dX8_end_17 rfl (lv_at hl 0 rfl) ?_
      refine sn_getC (r := 17) C hw fd_RX8_30 layC_0 rfl dX8_end_18 ?_
      refine lv_iload_n hx hb dX8_end_21 rfl (lv_at hl 1 rfl) ?_
      refine sn_putI C hw fp_RX8_79 layC_17 rfl dX8_end_22 (fun H locs hw => ?_)
      obtain ⟨σ_3, e_4, hf⟩ := sn_ltE hf
      rw [← e_4] at hw
      refine lv_iload_n hx hb dX8_end_25 rfl (lv_at hl 1 rfl) ?_
      cases hf
      exact kr _ _ _ _ hw rfl dX8_end_26
    · have hf := sn_el c_2 hf
      refine lv_iconst (v := (-1)) hx hb dX8_end_15 rfl ?_
      cases hf
      exact kr _ _ _ _ hw rfl dX8_end_16
theorem ctX8_end (l : Launch) {σ : sn_S} {x1 : Int32}  {o : (Int32 × sn_S)} (hf : fX8_end σ x1 = some o) : sn_M l yX8_end cX8_end 2 (some .int) rmX8_end layC (fun ad => [.ref (ad 0), .int x1]) σ (some (fun _ => .int o.1)) o.2 :=
  sn_met (by decide) (fun _ => Nat.le_of_ble_eq_true rfl) (fun p e s m args below meth c ls D ct ad A C hw hl => wX8_end_in C  hf (fun H locs ls pc hw ok hd => sn_iret C hw hd) _ _ _ hw hl)
-- X8_liveAnew
abbrev rmX8_liveAnew : Room := { frames := 5, cells := 0, slots := 0, locals := 113 }
def fX8_liveAnew (σ : sn_S) : Option sn_S :=
  ((fX0_tellFrom σ 27 1).bind fun t_1 => ((fX0_liveWhole t_1 27).bind fun t_3 => (some t_3)))
theorem wX8_liveAnew_in (C : sn_C p s m args meth c RX8 cX8_liveAnew 1 none D ct ad layC A) {σ : sn_S}  {o : sn_S} (hf : fX8_liveAnew σ = some o) (kr : sn_Kr p l e rmX8_liveAnew s m args below meth c Q D ct ad layC A cX8_liveAnew .return_ (true) o []) : sn_At p l e rmX8_liveAnew s m args below meth c Q D ct ad layC A 1 σ 0 [(0, .ref (ad 0))] [] := by
  intro H locs ls hw hl
  have hx := C.1
  have hb := C.2.1
  unfold fX8_liveAnew at hf
  refine lv_aload_n hx hb dX8_liveAnew_0 rfl (lv_at hl 0 rfl) ?_
  refine sn_getC (r := 27) C hw fd_RX8_44 layC_0 rfl dX8_liveAnew_1 ?_
  refine lv_aload_n hx hb dX8_liveAnew_4 rfl (lv_at hl 0 rfl) ?_
  refine sn_getC (r := 1) C hw fd_RX8_10 layC_0 rfl dX8_liveAnew_5 ?_
  obtain ⟨t_1, h_2, hf⟩ := sn_bd hf
  refine sn_callVv (rest := []) C hw (ctX0_tellFrom l sn_isX0_27 sn_isX2_1 h_2) kl_RX8_373 (sn_look sn_isX0_27 (k := 0) rfl) rfl rfl rfl rfl (Nat.le_of_ble_eq_true rfl) dX8_liveAnew_8 hl.1 (fun H locs hw => ?_)
  refine lv_aload_n hx hb dX8_liveAnew_11 rfl (lv_at hl 0 rfl) ?_
  refine sn_getC (r := 27) C hw fd_RX8_44 layC_0 rfl dX8_liveAnew_12 ?_
  obtain ⟨t_3, h_4, hf⟩ := sn_bd hf
  refine sn_callVv (rest := []) C hw (ctX0_liveWhole l sn_isX0_27 h_4) kl_RX8_189 (sn_look sn_isX0_27 (k := 0) rfl) rfl rfl rfl rfl (Nat.le_of_ble_eq_true rfl) dX8_liveAnew_15 hl.1 (fun H locs hw => ?_)
  cases hf
  exact kr _ _ _ _ hw rfl dX8_liveAnew_18
theorem ctX8_liveAnew (l : Launch) {σ : sn_S}  {o : sn_S} (hf : fX8_liveAnew σ = some o) : sn_M l yX8_liveAnew cX8_liveAnew 1 none rmX8_liveAnew layC (fun ad => [.ref (ad 0)]) σ none o :=
  sn_met (by decide) (fun _ => Nat.le_of_ble_eq_true rfl) (fun p e s m args below meth c ls D ct ad A C hw hl => wX8_liveAnew_in C  hf (fun H locs ls pc hw ok hd => sn_vret C hw hd) _ _ _ hw hl)
-- X8_house
abbrev rmX8_house : Room := { frames := 9, cells := 0, slots := 0, locals := 193 }
def fX8_house (σ : sn_S) : Option (Int32 × sn_S) :=
  ((fX5_read σ 8).bind fun t_1 => (sn_lt (sn_pI t_1 17 1 (0 : Int32)) fun σ_3 => (if (sn_I σ_3 17 2) = 0 then
  ((fX2_copyFrom σ_3 1 8).bind fun t_6 => ((fX8_liveAnew t_6).bind fun t_8 => (sn_gd (sn_in (10 : Int32) 11) (some ((sn_I t_8 (1 + 1) (10 : Int32).toNatClampNeg), t_8)))))
  else
  (some ((-4 : Int32), σ_3)))))
theorem wX8_house_in (C : sn_C p s m args meth c RX8 cX8_house 1 (some .int) D ct ad layC A) {σ : sn_S}  {o : (Int32 × sn_S)} (hf : fX8_house σ = some o) (kr : sn_Kr p l e rmX8_house s m args below meth c Q D ct ad layC A cX8_house .ireturn (true) o.2 [.int o.1]) : sn_At p l e rmX8_house s m args below meth c Q D ct ad layC A 1 σ 0 [(0, .ref (ad 0))] [] := by
  intro H locs ls hw hl
  have hx := C.1
  have hb := C.2.1
  unfold fX8_house at hf
  refine lv_aload_n hx hb dX8_house_0 rfl (lv_at hl 0 rfl) ?_
  refine sn_getC (r := 17) C hw fd_RX8_30 layC_0 rfl dX8_house_1 ?_
  refine lv_aload_n hx hb dX8_house_4 rfl (lv_at hl 0 rfl) ?_
  refine sn_getC (r := 8) C hw fd_RX8_16 layC_0 rfl dX8_house_5 ?_
  obtain ⟨t_1, h_2, hf⟩ := sn_bd hf
  refine sn_callVv (rest := []) C hw (ctX5_read l sn_isX2_8 h_2) kl_RX8_87 layC_17 rfl rfl rfl rfl (Nat.le_of_ble_eq_true rfl) dX8_house_8 hl.1 (fun H locs hw => ?_)
  refine lv_aload_n hx hb dX8_house_11 rfl (lv_at hl 0 rfl) ?_
  refine sn_getC (r := 17) C hw fd_RX8_30 layC_0 rfl dX8_house_12 ?_
  refine lv_iconst (v := 0) hx hb dX8_house_15 rfl ?_
  refine sn_putI C hw fp_RX8_79 layC_17 rfl dX8_house_16 (fun H locs hw => ?_)
  obtain ⟨σ_3, e_4, hf⟩ := sn_ltE hf
  rw [← e_4] at hw
  refine lv_aload_n hx hb dX8_house_19 rfl (lv_at hl 0 rfl) ?_
  refine sn_getC (r := 17) C hw fd_RX8_30 layC_0 rfl dX8_house_20 ?_
  refine sn_getI C hw fd_RX8_91 layC_17 rfl dX8_house_23 ?_
  refine lv_if_eq (tgt := 32) hx hb dX8_house_26 (by decide) (fun c_5 => ?_) (fun c_5 => ?_)
  · have hf := sn_if c_5 hf
    refine lv_aload_n hx hb dX8_house_32 rfl (lv_at hl 0 rfl) ?_
    refine sn_getC (r := 1) C hw fd_RX8_10 layC_0 rfl dX8_house_33 ?_
    refine lv_aload_n hx hb dX8_house_36 rfl (lv_at hl 0 rfl) ?_
    refine sn_getC (r := 8) C hw fd_RX8_16 layC_0 rfl dX8_house_37 ?_
    obtain ⟨t_6, h_7, hf⟩ := sn_bd hf
    refine sn_callVv (rest := []) C hw (ctX2_copyFrom l sn_isX2_1 sn_isX2_8 h_7) kl_RX8_94 (sn_look sn_isX2_1 (k := 0) rfl) rfl rfl rfl rfl (Nat.le_of_ble_eq_true rfl) dX8_house_40 hl.1 (fun H locs hw => ?_)
    refine lv_aload_n hx hb dX8_house_43 rfl (lv_at hl 0 rfl) ?_
    obtain ⟨t_8, h_9, hf⟩ := sn_bd hf
    refine sn_callVv (rest := []) C hw (ctX8_liveAnew l  h_9) kl_RX8_97 layC_0 rfl rfl rfl rfl (Nat.le_of_ble_eq_true rfl) dX8_house_44 hl.1 (fun H locs hw => ?_)
    refine lv_aload_n hx hb dX8_house_47 rfl (lv_at hl 0 rfl) ?_
    refine sn_getC (r := 1) C hw fd_RX8_10 layC_0 rfl dX8_house_48 ?_
    refine sn_getC (r := (1 + 1)) C hw fd_RX8_100 (sn_look sn_isX2_1 (k := 0) rfl) rfl dX8_house_51 ?_
    refine lv_bipush (v := 10) hx hb dX8_house_54 (by decide) ?_
    obtain ⟨g_10, hf⟩ := sn_gdE hf
    refine sn_iald C hw (sn_look sn_isX2_1 (k := 1) rfl) g_10 dX8_house_56 ?_
    cases hf
    exact kr _ _ _ _ hw rfl dX8_house_57
  · have hf := sn_el c_5 hf
    refine lv_bipush (v := (-4)) hx hb dX8_house_29 (by decide) ?_
    cases hf
    exact kr _ _ _ _ hw rfl dX8_house_31
theorem ctX8_house (l : Launch) {σ : sn_S}  {o : (Int32 × sn_S)} (hf : fX8_house σ = some o) : sn_M l yX8_house cX8_house 1 (some .int) rmX8_house layC (fun ad => [.ref (ad 0)]) σ (some (fun _ => .int o.1)) o.2 :=
  sn_met (by decide) (fun _ => Nat.le_of_ble_eq_true rfl) (fun p e s m args below meth c ls D ct ad A C hw hl => wX8_house_in C  hf (fun H locs ls pc hw ok hd => sn_iret C hw hd) _ _ _ hw hl)
-- X8_fault
abbrev rmX8_fault : Room := { frames := 0, cells := 0, slots := 0, locals := 0 }
def fX8_fault (σ : sn_S) (x1 : Int32) : Option Int32 :=
  (if x1 = 0 then
  (some (sn_I σ 17 2))
  else
  (if x1 = (1 : Int32) then
  (some (sn_I σ 17 3))
  else
  (some (-1 : Int32))))
theorem wX8_fault_in (C : sn_C p s m args meth c RX8 cX8_fault 2 (some .int) D ct ad layC A) {σ : sn_S} {x1 : Int32}  {o : Int32} (hf : fX8_fault σ x1 = some o) (kr : sn_Kr p l e rmX8_fault s m args below meth c Q D ct ad layC A cX8_fault .ireturn (true) σ [.int o]) : sn_At p l e rmX8_fault s m args below meth c Q D ct ad layC A 2 σ 0 [(0, .ref (ad 0)), (1, .int x1)] [] := by
  intro H locs ls hw hl
  have hx := C.1
  have hb := C.2.1
  unfold fX8_fault at hf
  refine lv_iload_n hx hb dX8_fault_0 rfl (lv_at hl 1 rfl) ?_
  refine lv_if_ne (tgt := 12) hx hb dX8_fault_1 (by decide) (fun c_1 => ?_) (fun c_1 => ?_)
  · have hf := sn_el c_1 hf
    refine lv_iload_n hx hb dX8_fault_12 rfl (lv_at hl 1 rfl) ?_
    refine lv_iconst (v := 1) hx hb dX8_fault_13 rfl ?_
    refine lv_icmp_ne (tgt := 27) hx hb dX8_fault_14 (by decide) (fun c_2 => ?_) (fun c_2 => ?_)
    · have hf := sn_el c_2 hf
      refine lv_iconst (v := (-1)) hx hb dX8_fault_27 rfl ?_
      cases hf
      exact kr _ _ _ _ hw rfl dX8_fault_28
    · have hf := sn_if c_2 hf
      refine lv_aload_n hx hb dX8_fault_17 rfl (lv_at hl 0 rfl) ?_
      refine sn_getC (r := 17) C hw fd_RX8_30 layC_0 rfl dX8_fault_18 ?_
      refine sn_getI C hw fd_RX8_104 layC_17 rfl dX8_fault_21 ?_
      refine lv_goto (tgt := 28) hx hb dX8_fault_24 (by decide) ?_
      cases hf
      exact kr _ _ _ _ hw rfl dX8_fault_28
  · have hf := sn_if c_1 hf
    refine lv_aload_n hx hb dX8_fault_4 rfl (lv_at hl 0 rfl) ?_
    refine sn_getC (r := 17) C hw fd_RX8_30 layC_0 rfl dX8_fault_5 ?_
    refine sn_getI C hw fd_RX8_91 layC_17 rfl dX8_fault_8 ?_
    cases hf
    exact kr _ _ _ _ hw rfl dX8_fault_11
theorem ctX8_fault (l : Launch) {σ : sn_S} {x1 : Int32}  {o : Int32} (hf : fX8_fault σ x1 = some o) : sn_M l yX8_fault cX8_fault 2 (some .int) rmX8_fault layC (fun ad => [.ref (ad 0), .int x1]) σ (some (fun _ => .int o)) σ :=
  sn_met (by decide) (fun _ => Nat.le_of_ble_eq_true rfl) (fun p e s m args below meth c ls D ct ad A C hw hl => wX8_fault_in C  hf (fun H locs ls pc hw ok hd => sn_iret C hw hd) _ _ _ hw hl)
-- X8_isPerson
abbrev rmX8_isPerson : Room := { frames := 0, cells := 0, slots := 0, locals := 0 }
def fX8_isPerson (σ : sn_S) (x1 : Int32) : Option Int32 :=
  (if x1 < 0 then
  (sn_gd (sn_b01 (0 : Int32)) (some (0 : Int32)))
  else
  (sn_gd (sn_in (5 : Int32) 11) (if (sn_I σ (1 + 1) (5 : Int32).toNatClampNeg) ≤ x1 then
  (sn_gd (sn_b01 (0 : Int32)) (some (0 : Int32)))
  else
  (sn_gd (sn_b01 (1 : Int32)) (some (1 : Int32))))))
theorem wX8_isPerson_in (C : sn_C p s m args meth c RX8 cX8_isPerson 2 (some .boolean) D ct ad layC A) {σ : sn_S} {x1 : Int32}  {o : Int32} (hf : fX8_isPerson σ x1 = some o) (kr : sn_Kr p l e rmX8_isPerson s m args below meth c Q D ct ad layC A cX8_isPerson .ireturn (sn_b01 o) σ [.int o]) : sn_At p l e rmX8_isPerson s m args below meth c Q D ct ad layC A 2 σ 0 [(0, .ref (ad 0)), (1, .int x1)] [] := by
  intro H locs ls hw hl
  have hx := C.1
  have hb := C.2.1
  unfold fX8_isPerson at hf
  refine lv_iload_n hx hb dX8_isPerson_0 rfl (lv_at hl 1 rfl) ?_
  refine lv_if_lt (tgt := 21) hx hb dX8_isPerson_1 (by decide) (fun c_1 => ?_) (fun c_1 => ?_)
  · have hf := sn_if c_1 hf
    refine lv_iconst (v := 0) hx hb dX8_isPerson_21 rfl ?_
    obtain ⟨g_2, hf⟩ := sn_gdE hf
    cases hf
    exact kr _ _ _ _ hw g_2 dX8_isPerson_22
  · have hf := sn_el c_1 hf
    refine lv_iload_n hx hb dX8_isPerson_4 rfl (lv_at hl 1 rfl) ?_
    refine lv_aload_n hx hb dX8_isPerson_5 rfl (lv_at hl 0 rfl) ?_
    refine sn_getC (r := 1) C hw fd_RX8_10 layC_0 rfl dX8_isPerson_6 ?_
    refine sn_getC (r := (1 + 1)) C hw fd_RX8_100 (sn_look sn_isX2_1 (k := 0) rfl) rfl dX8_isPerson_9 ?_
    refine lv_iconst (v := 5) hx hb dX8_isPerson_12 rfl ?_
    obtain ⟨g_3, hf⟩ := sn_gdE hf
    refine sn_iald C hw (sn_look sn_isX2_1 (k := 1) rfl) g_3 dX8_isPerson_13 ?_
    refine lv_icmp_ge (tgt := 21) hx hb dX8_isPerson_14 (by decide) (fun c_4 => ?_) (fun c_4 => ?_)
    · have hf := sn_if c_4 hf
      refine lv_iconst (v := 0) hx hb dX8_isPerson_21 rfl ?_
      obtain ⟨g_5, hf⟩ := sn_gdE hf
      cases hf
      exact kr _ _ _ _ hw g_5 dX8_isPerson_22
    · have hf := sn_el c_4 hf
      refine lv_iconst (v := 1) hx hb dX8_isPerson_17 rfl ?_
      refine lv_goto (tgt := 22) hx hb dX8_isPerson_18 (by decide) ?_
      obtain ⟨g_6, hf⟩ := sn_gdE hf
      cases hf
      exact kr _ _ _ _ hw g_6 dX8_isPerson_22
theorem ctX8_isPerson (l : Launch) {σ : sn_S} {x1 : Int32}  {o : Int32} (hf : fX8_isPerson σ x1 = some o) : sn_M l yX8_isPerson cX8_isPerson 2 (some .boolean) rmX8_isPerson layC (fun ad => [.ref (ad 0), .int x1]) σ (some (fun _ => .int o)) σ :=
  sn_met (by decide) (fun _ => Nat.le_of_ble_eq_true rfl) (fun p e s m args below meth c ls D ct ad A C hw hl => wX8_isPerson_in C  hf (fun H locs ls pc hw ok hd => sn_zret C hw ok hd) _ _ _ hw hl)
-- X8_nose
abbrev rmX8_nose : Room := { frames := 1, cells := 0, slots := 0, locals := 21 }
def fX8_nose (σ : sn_S) (x1 : Int32) (x2 : Int32) : Option Int32 :=
  ((fX8_isPerson σ x1).bind fun t_1 => (if t_1 = 0 then
  (some (-2 : Int32))
  else
  (if x2 < 0 then
  (some (-2 : Int32))
  else
  (if x2 ≤ (1 : Int32) then
  (sn_gd (sn_in (((2 : Int32) * x1) + x2) 12) (some (sn_I σ (1 + 2) (((2 : Int32) * x1) + x2).toNatClampNeg)))
  else
  (some (-2 : Int32))))))
theorem wX8_nose_in (C : sn_C p s m args meth c RX8 cX8_nose 3 (some .int) D ct ad layC A) {σ : sn_S} {x1 : Int32} {x2 : Int32}  {o : Int32} (hf : fX8_nose σ x1 x2 = some o) (kr : sn_Kr p l e rmX8_nose s m args below meth c Q D ct ad layC A cX8_nose .ireturn (true) σ [.int o]) : sn_At p l e rmX8_nose s m args below meth c Q D ct ad layC A 3 σ 0 [(0, .ref (ad 0)), (1, .int x1), (2, .int x2)] [] := by
  intro H locs ls hw hl
  have hx := C.1
  have hb := C.2.1
  unfold fX8_nose at hf
  refine lv_aload_n hx hb dX8_nose_0 rfl (lv_at hl 0 rfl) ?_
  refine lv_iload_n hx hb dX8_nose_1 rfl (lv_at hl 1 rfl) ?_
  obtain ⟨t_1, h_2, hf⟩ := sn_bd hf
  refine sn_callVi (rest := []) C hw (ctX8_isPerson l  h_2) kl_RX8_107 layC_0 rfl rfl rfl rfl (Nat.le_of_ble_eq_true rfl) dX8_nose_2 hl.1 (fun H locs hw => ?_)
  refine lv_if_eq (tgt := 17) hx hb dX8_nose_5 (by decide) (fun c_3 => ?_) (fun c_3 => ?_)
  · have hf := sn_if c_3 hf
    refine lv_bipush (v := (-2)) hx hb dX8_nose_17 (by decide) ?_
    cases hf
    exact kr _ _ _ _ hw rfl dX8_nose_19
  · have hf := sn_el c_3 hf
    refine lv_iload_n hx hb dX8_nose_8 rfl (lv_at hl 2 rfl) ?_
    refine lv_if_lt (tgt := 17) hx hb dX8_nose_9 (by decide) (fun c_4 => ?_) (fun c_4 => ?_)
    · have hf := sn_if c_4 hf
      refine lv_bipush (v := (-2)) hx hb dX8_nose_17 (by decide) ?_
      cases hf
      exact kr _ _ _ _ hw rfl dX8_nose_19
    · have hf := sn_el c_4 hf
      refine lv_iload_n hx hb dX8_nose_12 rfl (lv_at hl 2 rfl) ?_
      refine lv_iconst (v := 1) hx hb dX8_nose_13 rfl ?_
      refine lv_icmp_le (tgt := 20) hx hb dX8_nose_14 (by decide) (fun c_5 => ?_) (fun c_5 => ?_)
      · have hf := sn_if c_5 hf
        refine lv_aload_n hx hb dX8_nose_20 rfl (lv_at hl 0 rfl) ?_
        refine sn_getC (r := 1) C hw fd_RX8_10 layC_0 rfl dX8_nose_21 ?_
        refine sn_getC (r := (1 + 2)) C hw fd_RX8_111 (sn_look sn_isX2_1 (k := 0) rfl) rfl dX8_nose_24 ?_
        refine lv_iconst (v := 2) hx hb dX8_nose_27 rfl ?_
        refine lv_iload_n hx hb dX8_nose_28 rfl (lv_at hl 1 rfl) ?_
        refine lv_imul hx hb dX8_nose_29 ?_
        refine lv_iload_n hx hb dX8_nose_30 rfl (lv_at hl 2 rfl) ?_
        refine lv_iadd hx hb dX8_nose_31 ?_
        obtain ⟨g_6, hf⟩ := sn_gdE hf
        refine sn_iald C hw (sn_look sn_isX2_1 (k := 2) rfl) g_6 dX8_nose_32 ?_
        cases hf
        exact kr _ _ _ _ hw rfl dX8_nose_33
      · have hf := sn_el c_5 hf
        refine lv_bipush (v := (-2)) hx hb dX8_nose_17 (by decide) ?_
        cases hf
        exact kr _ _ _ _ hw rfl dX8_nose_19
theorem ctX8_nose (l : Launch) {σ : sn_S} {x1 : Int32} {x2 : Int32}  {o : Int32} (hf : fX8_nose σ x1 x2 = some o) : sn_M l yX8_nose cX8_nose 3 (some .int) rmX8_nose layC (fun ad => [.ref (ad 0), .int x1, .int x2]) σ (some (fun _ => .int o)) σ :=
  sn_met (by decide) (fun _ => Nat.le_of_ble_eq_true rfl) (fun p e s m args below meth c ls D ct ad A C hw hl => wX8_nose_in C  hf (fun H locs ls pc hw ok hd => sn_iret C hw hd) _ _ _ hw hl)
-- X8_isPolicy
abbrev rmX8_isPolicy : Room := { frames := 0, cells := 0, slots := 0, locals := 0 }
def fX8_isPolicy (σ : sn_S) (x1 : Int32) : Option Int32 :=
  (if x1 < 0 then
  (sn_gd (sn_b01 (0 : Int32)) (some (0 : Int32)))
  else
  (sn_gd (sn_in (8 : Int32) 11) (if (sn_I σ (1 + 1) (8 : Int32).toNatClampNeg) ≤ x1 then
  (sn_gd (sn_b01 (0 : Int32)) (some (0 : Int32)))
  else
  (sn_gd (sn_b01 (1 : Int32)) (some (1 : Int32))))))
theorem wX8_isPolicy_in (C : sn_C p s m args meth c RX8 cX8_isPolicy 2 (some .boolean) D ct ad layC A) {σ : sn_S} {x1 : Int32}  {o : Int32} (hf : fX8_isPolicy σ x1 = some o) (kr : sn_Kr p l e rmX8_isPolicy s m args below meth c Q D ct ad layC A cX8_isPolicy .ireturn (sn_b01 o) σ [.int o]) : sn_At p l e rmX8_isPolicy s m args below meth c Q D ct ad layC A 2 σ 0 [(0, .ref (ad 0)), (1, .int x1)] [] := by
  intro H locs ls hw hl
  have hx := C.1
  have hb := C.2.1
  unfold fX8_isPolicy at hf
  refine lv_iload_n hx hb dX8_isPolicy_0 rfl (lv_at hl 1 rfl) ?_
  refine lv_if_lt (tgt := 22) hx hb dX8_isPolicy_1 (by decide) (fun c_1 => ?_) (fun c_1 => ?_)
  · have hf := sn_if c_1 hf
    refine lv_iconst (v := 0) hx hb dX8_isPolicy_22 rfl ?_
    obtain ⟨g_2, hf⟩ := sn_gdE hf
    cases hf
    exact kr _ _ _ _ hw g_2 dX8_isPolicy_23
  · have hf := sn_el c_1 hf
    refine lv_iload_n hx hb dX8_isPolicy_4 rfl (lv_at hl 1 rfl) ?_
    refine lv_aload_n hx hb dX8_isPolicy_5 rfl (lv_at hl 0 rfl) ?_
    refine sn_getC (r := 1) C hw fd_RX8_10 layC_0 rfl dX8_isPolicy_6 ?_
    refine sn_getC (r := (1 + 1)) C hw fd_RX8_100 (sn_look sn_isX2_1 (k := 0) rfl) rfl dX8_isPolicy_9 ?_
    refine lv_bipush (v := 8) hx hb dX8_isPolicy_12 (by decide) ?_
    obtain ⟨g_3, hf⟩ := sn_gdE hf
    refine sn_iald C hw (sn_look sn_isX2_1 (k := 1) rfl) g_3 dX8_isPolicy_14 ?_
    refine lv_icmp_ge (tgt := 22) hx hb dX8_isPolicy_15 (by decide) (fun c_4 => ?_) (fun c_4 => ?_)
    · have hf := sn_if c_4 hf
      refine lv_iconst (v := 0) hx hb dX8_isPolicy_22 rfl ?_
      obtain ⟨g_5, hf⟩ := sn_gdE hf
      cases hf
      exact kr _ _ _ _ hw g_5 dX8_isPolicy_23
    · have hf := sn_el c_4 hf
      refine lv_iconst (v := 1) hx hb dX8_isPolicy_18 rfl ?_
      refine lv_goto (tgt := 23) hx hb dX8_isPolicy_19 (by decide) ?_
      obtain ⟨g_6, hf⟩ := sn_gdE hf
      cases hf
      exact kr _ _ _ _ hw g_6 dX8_isPolicy_23
theorem ctX8_isPolicy (l : Launch) {σ : sn_S} {x1 : Int32}  {o : Int32} (hf : fX8_isPolicy σ x1 = some o) : sn_M l yX8_isPolicy cX8_isPolicy 2 (some .boolean) rmX8_isPolicy layC (fun ad => [.ref (ad 0), .int x1]) σ (some (fun _ => .int o)) σ :=
  sn_met (by decide) (fun _ => Nat.le_of_ble_eq_true rfl) (fun p e s m args below meth c ls D ct ad A C hw hl => wX8_isPolicy_in C  hf (fun H locs ls pc hw ok hd => sn_zret C hw ok hd) _ _ _ hw hl)
-- X8_policy
abbrev rmX8_policy : Room := { frames := 1, cells := 0, slots := 0, locals := 22 }
def fX8_policy (σ : sn_S) (x1 : Int32) (x2 : Int32) : Option Int32 :=
  ((fX8_isPolicy σ x1).bind fun t_1 => (if t_1 = 0 then
  (some (-2 : Int32))
  else
  (if x2 < 0 then
  (some (-2 : Int32))
  else
  (if x2 < (5 : Int32) then
  ((fX2_ofPolicy σ 1 x1 x2).bind fun t_6 => (some t_6))
  else
  (some (-2 : Int32))))))
theorem wX8_policy_in (C : sn_C p s m args meth c RX8 cX8_policy 3 (some .int) D ct ad layC A) {σ : sn_S} {x1 : Int32} {x2 : Int32}  {o : Int32} (hf : fX8_policy σ x1 x2 = some o) (kr : sn_Kr p l e rmX8_policy s m args below meth c Q D ct ad layC A cX8_policy .ireturn (true) σ [.int o]) : sn_At p l e rmX8_policy s m args below meth c Q D ct ad layC A 3 σ 0 [(0, .ref (ad 0)), (1, .int x1), (2, .int x2)] [] := by
  intro H locs ls hw hl
  have hx := C.1
  have hb := C.2.1
  unfold fX8_policy at hf
  refine lv_aload_n hx hb dX8_policy_0 rfl (lv_at hl 0 rfl) ?_
  refine lv_iload_n hx hb dX8_policy_1 rfl (lv_at hl 1 rfl) ?_
  obtain ⟨t_1, h_2, hf⟩ := sn_bd hf
  refine sn_callVi (rest := []) C hw (ctX8_isPolicy l  h_2) kl_RX8_114 layC_0 rfl rfl rfl rfl (Nat.le_of_ble_eq_true rfl) dX8_policy_2 hl.1 (fun H locs hw => ?_)
  refine lv_if_eq (tgt := 17) hx hb dX8_policy_5 (by decide) (fun c_3 => ?_) (fun c_3 => ?_)
  · have hf := sn_if c_3 hf
    refine lv_bipush (v := (-2)) hx hb dX8_policy_17 (by decide) ?_
    cases hf
    exact kr _ _ _ _ hw rfl dX8_policy_19
  · have hf := sn_el c_3 hf
    refine lv_iload_n hx hb dX8_policy_8 rfl (lv_at hl 2 rfl) ?_
    refine lv_if_lt (tgt := 17) hx hb dX8_policy_9 (by decide) (fun c_4 => ?_) (fun c_4 => ?_)
    · have hf := sn_if c_4 hf
      refine lv_bipush (v := (-2)) hx hb dX8_policy_17 (by decide) ?_
      cases hf
      exact kr _ _ _ _ hw rfl dX8_policy_19
    · have hf := sn_el c_4 hf
      refine lv_iload_n hx hb dX8_policy_12 rfl (lv_at hl 2 rfl) ?_
      refine lv_iconst (v := 5) hx hb dX8_policy_13 rfl ?_
      refine lv_icmp_lt (tgt := 20) hx hb dX8_policy_14 (by decide) (fun c_5 => ?_) (fun c_5 => ?_)
      · have hf := sn_if c_5 hf
        refine lv_aload_n hx hb dX8_policy_20 rfl (lv_at hl 0 rfl) ?_
        refine sn_getC (r := 1) C hw fd_RX8_10 layC_0 rfl dX8_policy_21 ?_
        refine lv_iload_n hx hb dX8_policy_24 rfl (lv_at hl 1 rfl) ?_
        refine lv_iload_n hx hb dX8_policy_25 rfl (lv_at hl 2 rfl) ?_
        obtain ⟨t_6, h_7, hf⟩ := sn_bd hf
        refine sn_callVi (rest := []) C hw (ctX2_ofPolicy l sn_isX2_1 h_7) kl_RX8_117 (sn_look sn_isX2_1 (k := 0) rfl) rfl rfl rfl rfl (Nat.le_of_ble_eq_true rfl) dX8_policy_26 hl.1 (fun H locs hw => ?_)
        cases hf
        exact kr _ _ _ _ hw rfl dX8_policy_29
      · have hf := sn_el c_5 hf
        refine lv_bipush (v := (-2)) hx hb dX8_policy_17 (by decide) ?_
        cases hf
        exact kr _ _ _ _ hw rfl dX8_policy_19
theorem ctX8_policy (l : Launch) {σ : sn_S} {x1 : Int32} {x2 : Int32}  {o : Int32} (hf : fX8_policy σ x1 x2 = some o) : sn_M l yX8_policy cX8_policy 3 (some .int) rmX8_policy layC (fun ad => [.ref (ad 0), .int x1, .int x2]) σ (some (fun _ => .int o)) σ :=
  sn_met (by decide) (fun _ => Nat.le_of_ble_eq_true rfl) (fun p e s m args below meth c ls D ct ad A C hw hl => wX8_policy_in C  hf (fun H locs ls pc hw ok hd => sn_iret C hw hd) _ _ _ hw hl)
-- X8_beside
abbrev rmX8_beside : Room := { frames := 1, cells := 0, slots := 0, locals := 23 }
def fX8_beside (σ : sn_S) (x1 : Int32) : Option Int32 :=
  ((fX8_isPerson σ x1).bind fun t_1 => (if t_1 = 0 then
  (some (-2 : Int32))
  else
  ((fX2_neighbours σ 1 x1).bind fun t_4 => (some t_4))))
theorem wX8_beside_in (C : sn_C p s m args meth c RX8 cX8_beside 2 (some .int) D ct ad layC A) {σ : sn_S} {x1 : Int32}  {o : Int32} (hf : fX8_beside σ x1 = some o) (kr : sn_Kr p l e rmX8_beside s m args below meth c Q D ct ad layC A cX8_beside .ireturn (true) σ [.int o]) : sn_At p l e rmX8_beside s m args below meth c Q D ct ad layC A 2 σ 0 [(0, .ref (ad 0)), (1, .int x1)] [] := by
  intro H locs ls hw hl
  have hx := C.1
  have hb := C.2.1
  unfold fX8_beside at hf
  refine lv_aload_n hx hb dX8_beside_0 rfl (lv_at hl 0 rfl) ?_
  refine lv_iload_n hx hb dX8_beside_1 rfl (lv_at hl 1 rfl) ?_
  obtain ⟨t_1, h_2, hf⟩ := sn_bd hf
  refine sn_callVi (rest := []) C hw (ctX8_isPerson l  h_2) kl_RX8_107 layC_0 rfl rfl rfl rfl (Nat.le_of_ble_eq_true rfl) dX8_beside_2 hl.1 (fun H locs hw => ?_)
  refine lv_if_eq (tgt := 19) hx hb dX8_beside_5 (by decide) (fun c_3 => ?_) (fun c_3 => ?_)
  · have hf := sn_if c_3 hf
    refine lv_bipush (v := (-2)) hx hb dX8_beside_19 (by decide) ?_
    cases hf
    exact kr _ _ _ _ hw rfl dX8_beside_21
  · have hf := sn_el c_3 hf
    refine lv_aload_n hx hb dX8_beside_8 rfl (lv_at hl 0 rfl) ?_
    refine sn_getC (r := 1) C hw fd_RX8_10 layC_0 rfl dX8_beside_9 ?_
    refine lv_iload_n hx hb dX8_beside_12 rfl (lv_at hl 1 rfl) ?_
    obtain ⟨t_4, h_5, hf⟩ := sn_bd hf
    refine sn_callVi (rest := []) C hw (ctX2_neighbours l sn_isX2_1 h_5) kl_RX8_121 (sn_look sn_isX2_1 (k := 0) rfl) rfl rfl rfl rfl (Nat.le_of_ble_eq_true rfl) dX8_beside_13 hl.1 (fun H locs hw => ?_)
    refine lv_goto (tgt := 21) hx hb dX8_beside_16 (by decide) ?_
    cases hf
    exact kr _ _ _ _ hw rfl dX8_beside_21
theorem ctX8_beside (l : Launch) {σ : sn_S} {x1 : Int32}  {o : Int32} (hf : fX8_beside σ x1 = some o) : sn_M l yX8_beside cX8_beside 2 (some .int) rmX8_beside layC (fun ad => [.ref (ad 0), .int x1]) σ (some (fun _ => .int o)) σ :=
  sn_met (by decide) (fun _ => Nat.le_of_ble_eq_true rfl) (fun p e s m args below meth c ls D ct ad A C hw hl => wX8_beside_in C  hf (fun H locs ls pc hw ok hd => sn_iret C hw hd) _ _ _ hw hl)
-- X8_isMinute
abbrev rmX8_isMinute : Room := { frames := 0, cells := 0, slots := 0, locals := 0 }
def fX8_isMinute (σ : sn_S) (x1 : Int32) : Option Int32 :=
  (if x1 < 0 then
  (sn_gd (sn_b01 (0 : Int32)) (some (0 : Int32)))
  else
  (sn_gd (sn_in (0 : Int32) 11) (if (sn_I σ (1 + 1) (0 : Int32).toNatClampNeg) ≤ x1 then
  (sn_gd (sn_b01 (0 : Int32)) (some (0 : Int32)))
  else
  (sn_gd (sn_b01 (1 : Int32)) (some (1 : Int32))))))
theorem wX8_isMinute_in (C : sn_C p s m args meth c RX8 cX8_isMinute 2 (some .boolean) D ct ad layC A) {σ : sn_S} {x1 : Int32}  {o : Int32} (hf : fX8_isMinute σ x1 = some o) (kr : sn_Kr p l e rmX8_isMinute s m args below meth c Q D ct ad layC A cX8_isMinute .ireturn (sn_b01 o) σ [.int o]) : sn_At p l e rmX8_isMinute s m args below meth c Q D ct ad layC A 2 σ 0 [(0, .ref (ad 0)), (1, .int x1)] [] := by
  intro H locs ls hw hl
  have hx := C.1
  have hb := C.2.1
  unfold fX8_isMinute at hf
  refine lv_iload_n hx hb dX8_isMinute_0 rfl (lv_at hl 1 rfl) ?_
  refine lv_if_lt (tgt := 21) hx hb dX8_isMinute_1 (by decide) (fun c_1 => ?_) (fun c_1 => ?_)
  · have hf := sn_if c_1 hf
    refine lv_iconst (v := 0) hx hb dX8_isMinute_21 rfl ?_
    obtain ⟨g_2, hf⟩ := sn_gdE hf
    cases hf
    exact kr _ _ _ _ hw g_2 dX8_isMinute_22
  · have hf := sn_el c_1 hf
    refine lv_iload_n hx hb dX8_isMinute_4 rfl (lv_at hl 1 rfl) ?_
    refine lv_aload_n hx hb dX8_isMinute_5 rfl (lv_at hl 0 rfl) ?_
    refine sn_getC (r := 1) C hw fd_RX8_10 layC_0 rfl dX8_isMinute_6 ?_
    refine sn_getC (r := (1 + 1)) C hw fd_RX8_100 (sn_look sn_isX2_1 (k := 0) rfl) rfl dX8_isMinute_9 ?_
    refine lv_iconst (v := 0) hx hb dX8_isMinute_12 rfl ?_
    obtain ⟨g_3, hf⟩ := sn_gdE hf
    refine sn_iald C hw (sn_look sn_isX2_1 (k := 1) rfl) g_3 dX8_isMinute_13 ?_
    refine lv_icmp_ge (tgt := 21) hx hb dX8_isMinute_14 (by decide) (fun c_4 => ?_) (fun c_4 => ?_)
    · have hf := sn_if c_4 hf
      refine lv_iconst (v := 0) hx hb dX8_isMinute_21 rfl ?_
      obtain ⟨g_5, hf⟩ := sn_gdE hf
      cases hf
      exact kr _ _ _ _ hw g_5 dX8_isMinute_22
    · have hf := sn_el c_4 hf
      refine lv_iconst (v := 1) hx hb dX8_isMinute_17 rfl ?_
      refine lv_goto (tgt := 22) hx hb dX8_isMinute_18 (by decide) ?_
      obtain ⟨g_6, hf⟩ := sn_gdE hf
      cases hf
      exact kr _ _ _ _ hw g_6 dX8_isMinute_22
theorem ctX8_isMinute (l : Launch) {σ : sn_S} {x1 : Int32}  {o : Int32} (hf : fX8_isMinute σ x1 = some o) : sn_M l yX8_isMinute cX8_isMinute 2 (some .boolean) rmX8_isMinute layC (fun ad => [.ref (ad 0), .int x1]) σ (some (fun _ => .int o)) σ :=
  sn_met (by decide) (fun _ => Nat.le_of_ble_eq_true rfl) (fun p e s m args below meth c ls D ct ad A C hw hl => wX8_isMinute_in C  hf (fun H locs ls pc hw ok hd => sn_zret C hw ok hd) _ _ _ hw hl)
-- X8_dust
abbrev rmX8_dust : Room := { frames := 1, cells := 0, slots := 0, locals := 21 }
def fX8_dust (σ : sn_S) (x1 : Int32) : Option Int32 :=
  ((fX8_isMinute σ x1).bind fun t_1 => (if t_1 = 0 then
  (some (-2 : Int32))
  else
  (sn_gd (sn_in x1 30) (some (sn_I σ (27 + 1) x1.toNatClampNeg)))))
theorem wX8_dust_in (C : sn_C p s m args meth c RX8 cX8_dust 2 (some .int) D ct ad layC A) {σ : sn_S} {x1 : Int32}  {o : Int32} (hf : fX8_dust σ x1 = some o) (kr : sn_Kr p l e rmX8_dust s m args below meth c Q D ct ad layC A cX8_dust .ireturn (true) σ [.int o]) : sn_At p l e rmX8_dust s m args below meth c Q D ct ad layC A 2 σ 0 [(0, .ref (ad 0)), (1, .int x1)] [] := by
  intro H locs ls hw hl
  have hx := C.1
  have hb := C.2.1
  unfold fX8_dust at hf
  refine lv_aload_n hx hb dX8_dust_0 rfl (lv_at hl 0 rfl) ?_
  refine lv_iload_n hx hb dX8_dust_1 rfl (lv_at hl 1 rfl) ?_
  obtain ⟨t_1, h_2, hf⟩ := sn_bd hf
  refine sn_callVi (rest := []) C hw (ctX8_isMinute l  h_2) kl_RX8_125 layC_0 rfl rfl rfl rfl (Nat.le_of_ble_eq_true rfl) dX8_dust_2 hl.1 (fun H locs hw => ?_)
  refine lv_if_eq (tgt := 20) hx hb dX8_dust_5 (by decide) (fun c_3 => ?_) (fun c_3 => ?_)
  · have hf := sn_if c_3 hf
    refine lv_bipush (v := (-2)) hx hb dX8_dust_20 (by decide) ?_
    cases hf
    exact kr _ _ _ _ hw rfl dX8_dust_22
  · have hf := sn_el c_3 hf
    refine lv_aload_n hx hb dX8_dust_8 rfl (lv_at hl 0 rfl) ?_
    refine sn_getC (r := 27) C hw fd_RX8_44 layC_0 rfl dX8_dust_9 ?_
    refine sn_getC (r := (27 + 1)) C hw fd_RX8_128 (sn_look sn_isX0_27 (k := 0) rfl) rfl dX8_dust_12 ?_
    refine lv_iload_n hx hb dX8_dust_15 rfl (lv_at hl 1 rfl) ?_
    obtain ⟨g_4, hf⟩ := sn_gdE hf
    refine sn_iald C hw (sn_look sn_isX0_27 (k := 1) rfl) g_4 dX8_dust_16 ?_
    refine lv_goto (tgt := 22) hx hb dX8_dust_17 (by decide) ?_
    cases hf
    exact kr _ _ _ _ hw rfl dX8_dust_22
theorem ctX8_dust (l : Launch) {σ : sn_S} {x1 : Int32}  {o : Int32} (hf : fX8_dust σ x1 = some o) : sn_M l yX8_dust cX8_dust 2 (some .int) rmX8_dust layC (fun ad => [.ref (ad 0), .int x1]) σ (some (fun _ => .int o)) σ :=
  sn_met (by decide) (fun _ => Nat.le_of_ble_eq_true rfl) (fun p e s m args below meth c ls D ct ad A C hw hl => wX8_dust_in C  hf (fun H locs ls pc hw ok hd => sn_iret C hw hd) _ _ _ hw hl)
-- X8_sneezes
abbrev rmX8_sneezes : Room := { frames := 1, cells := 0, slots := 0, locals := 21 }
def fX8_sneezes (σ : sn_S) (x1 : Int32) : Option Int32 :=
  ((fX8_isPerson σ x1).bind fun t_1 => (if t_1 = 0 then
  (some (-2 : Int32))
  else
  (sn_gd (sn_in x1 6) (some (sn_I σ (27 + 10) x1.toNatClampNeg)))))
theorem wX8_sneezes_in (C : sn_C p s m args meth c RX8 cX8_sneezes 2 (some .int) D ct ad layC A) {σ : sn_S} {x1 : Int32}  {o : Int32} (hf : fX8_sneezes σ x1 = some o) (kr : sn_Kr p l e rmX8_sneezes s m args below meth c Q D ct ad layC A cX8_sneezes .ireturn (true) σ [.int o]) : sn_At p l e rmX8_sneezes s m args below meth c Q D ct ad layC A 2 σ 0 [(0, .ref (ad 0)), (1, .int x1)] [] := by
  intro H locs ls hw hl
  have hx := C.1
  have hb := C.2.1
  unfold fX8_sneezes at hf
  refine lv_aload_n hx hb dX8_sneezes_0 rfl (lv_at hl 0 rfl) ?_
  refine lv_iload_n hx hb dX8_sneezes_1 rfl (lv_at hl 1 rfl) ?_
  obtain ⟨t_1, h_2, hf⟩ := sn_bd hf
  refine sn_callVi (rest := []) C hw (ctX8_isPerson l  h_2) kl_RX8_107 layC_0 rfl rfl rfl rfl (Nat.le_of_ble_eq_true rfl) dX8_sneezes_2 hl.1 (fun H locs hw => ?_)
  refine lv_if_eq (tgt := 20) hx hb dX8_sneezes_5 (by decide) (fun c_3 => ?_) (fun c_3 => ?_)
  · have hf := sn_if c_3 hf
    refine lv_bipush (v := (-2)) hx hb dX8_sneezes_20 (by decide) ?_
    cases hf
    exact kr _ _ _ _ hw rfl dX8_sneezes_22
  · have hf := sn_el c_3 hf
    refine lv_aload_n hx hb dX8_sneezes_8 rfl (lv_at hl 0 rfl) ?_
    refine sn_getC (r := 27) C hw fd_RX8_44 layC_0 rfl dX8_sneezes_9 ?_
    refine sn_getC (r := (27 + 10)) C hw fd_RX8_131 (sn_look sn_isX0_27 (k := 0) rfl) rfl dX8_sneezes_12 ?_
    refine lv_iload_n hx hb dX8_sneezes_15 rfl (lv_at hl 1 rfl) ?_
    obtain ⟨g_4, hf⟩ := sn_gdE hf
    refine sn_iald C hw (sn_look sn_isX0_27 (k := 10) rfl) g_4 dX8_sneezes_16 ?_
    refine lv_goto (tgt := 22) hx hb dX8_sneezes_17 (by decide) ?_
    cases hf
    exact kr _ _ _ _ hw rfl dX8_sneezes_22
theorem ctX8_sneezes (l : Launch) {σ : sn_S} {x1 : Int32}  {o : Int32} (hf : fX8_sneezes σ x1 = some o) : sn_M l yX8_sneezes cX8_sneezes 2 (some .int) rmX8_sneezes layC (fun ad => [.ref (ad 0), .int x1]) σ (some (fun _ => .int o)) σ :=
  sn_met (by decide) (fun _ => Nat.le_of_ble_eq_true rfl) (fun p e s m args below meth c ls D ct ad A C hw hl => wX8_sneezes_in C  hf (fun H locs ls pc hw ok hd => sn_iret C hw hd) _ _ _ hw hl)
-- X8_first
abbrev rmX8_first : Room := { frames := 2, cells := 0, slots := 0, locals := 40 }
def fX8_first (σ : sn_S) (x1 : Int32) : Option Int32 :=
  ((fX8_isPerson σ x1).bind fun t_1 => (if t_1 = 0 then
  (some (-2 : Int32))
  else
  (sn_gd (sn_in x1 6) ((fX8_lowestBit (sn_I σ (27 + 10) x1.toNatClampNeg)).bind fun t_5 => (some t_5)))))
theorem wX8_first_in (C : sn_C p s m args meth c RX8 cX8_first 2 (some .int) D ct ad layC A) {σ : sn_S} {x1 : Int32}  {o : Int32} (hf : fX8_first σ x1 = some o) (kr : sn_Kr p l e rmX8_first s m args below meth c Q D ct ad layC A cX8_first .ireturn (true) σ [.int o]) : sn_At p l e rmX8_first s m args below meth c Q D ct ad layC A 2 σ 0 [(0, .ref (ad 0)), (1, .int x1)] [] := by
  intro H locs ls hw hl
  have hx := C.1
  have hb := C.2.1
  unfold fX8_first at hf
  refine lv_aload_n hx hb dX8_first_0 rfl (lv_at hl 0 rfl) ?_
  refine lv_iload_n hx hb dX8_first_1 rfl (lv_at hl 1 rfl) ?_
  obtain ⟨t_1, h_2, hf⟩ := sn_bd hf
  refine sn_callVi (rest := []) C hw (ctX8_isPerson l  h_2) kl_RX8_107 layC_0 rfl rfl rfl rfl (Nat.le_of_ble_eq_true rfl) dX8_first_2 hl.1 (fun H locs hw => ?_)
  refine lv_if_eq (tgt := 23) hx hb dX8_first_5 (by decide) (fun c_3 => ?_) (fun c_3 => ?_)
  · have hf := sn_if c_3 hf
    refine lv_bipush (v := (-2)) hx hb dX8_first_23 (by decide) ?_
    cases hf
    exact kr _ _ _ _ hw rfl dX8_first_25
  · have hf := sn_el c_3 hf
    refine lv_aload_n hx hb dX8_first_8 rfl (lv_at hl 0 rfl) ?_
    refine sn_getC (r := 27) C hw fd_RX8_44 layC_0 rfl dX8_first_9 ?_
    refine sn_getC (r := (27 + 10)) C hw fd_RX8_131 (sn_look sn_isX0_27 (k := 0) rfl) rfl dX8_first_12 ?_
    refine lv_iload_n hx hb dX8_first_15 rfl (lv_at hl 1 rfl) ?_
    obtain ⟨g_4, hf⟩ := sn_gdE hf
    refine sn_iald C hw (sn_look sn_isX0_27 (k := 10) rfl) g_4 dX8_first_16 ?_
    obtain ⟨t_5, h_6, hf⟩ := sn_bd hf
    refine sn_callSi (rest := []) C hw (ctX8_lowestBit l  h_6) kl_RX8_134 rfl rfl rfl (Nat.le_of_ble_eq_true rfl) dX8_first_17 hl.1 (fun H locs hw => ?_)
    refine lv_goto (tgt := 25) hx hb dX8_first_20 (by decide) ?_
    cases hf
    exact kr _ _ _ _ hw rfl dX8_first_25
theorem ctX8_first (l : Launch) {σ : sn_S} {x1 : Int32}  {o : Int32} (hf : fX8_first σ x1 = some o) : sn_M l yX8_first cX8_first 2 (some .int) rmX8_first layC (fun ad => [.ref (ad 0), .int x1]) σ (some (fun _ => .int o)) σ :=
  sn_met (by decide) (fun _ => Nat.le_of_ble_eq_true rfl) (fun p e s m args below meth c ls D ct ad A C hw hl => wX8_first_in C  hf (fun H locs ls pc hw ok hd => sn_iret C hw hd) _ _ _ hw hl)
-- X8_isHouse
abbrev rmX8_isHouse : Room := { frames := 0, cells := 0, slots := 0, locals := 0 }
def fX8_isHouse (σ : sn_S) : Option Int32 :=
  (sn_gd (sn_in (10 : Int32) 11) (if (sn_I σ (1 + 1) (10 : Int32).toNatClampNeg) ≤ 0 then
  (sn_gd (sn_b01 (0 : Int32)) (some (0 : Int32)))
  else
  (sn_gd (sn_b01 (1 : Int32)) (some (1 : Int32)))))
theorem wX8_isHouse_in (C : sn_C p s m args meth c RX8 cX8_isHouse 1 (some .boolean) D ct ad layC A) {σ : sn_S}  {o : Int32} (hf : fX8_isHouse σ = some o) (kr : sn_Kr p l e rmX8_isHouse s m args below meth c Q D ct ad layC A cX8_isHouse .ireturn (sn_b01 o) σ [.int o]) : sn_At p l e rmX8_isHouse s m args below meth c Q D ct ad layC A 1 σ 0 [(0, .ref (ad 0))] [] := by
  intro H locs ls hw hl
  have hx := C.1
  have hb := C.2.1
  unfold fX8_isHouse at hf
  refine lv_aload_n hx hb dX8_isHouse_0 rfl (lv_at hl 0 rfl) ?_
  refine sn_getC (r := 1) C hw fd_RX8_10 layC_0 rfl dX8_isHouse_1 ?_
  refine sn_getC (r := (1 + 1)) C hw fd_RX8_100 (sn_look sn_isX2_1 (k := 0) rfl) rfl dX8_isHouse_4 ?_
  refine lv_bipush (v := 10) hx hb dX8_isHouse_7 (by decide) ?_
  obtain ⟨g_1, hf⟩ := sn_gdE hf
  refine sn_iald C hw (sn_look sn_isX2_1 (k := 1) rfl) g_1 dX8_isHouse_9 ?_
  refine lv_if_le (tgt := 17) hx hb dX8_isHouse_10 (by decide) (fun c_2 => ?_) (fun c_2 => ?_)
  · have hf := sn_if c_2 hf
    refine lv_iconst (v := 0) hx hb dX8_isHouse_17 rfl ?_
    obtain ⟨g_3, hf⟩ := sn_gdE hf
    cases hf
    exact kr _ _ _ _ hw g_3 dX8_isHouse_18
  · have hf := sn_el c_2 hf
    refine lv_iconst (v := 1) hx hb dX8_isHouse_13 rfl ?_
    refine lv_goto (tgt := 18) hx hb dX8_isHouse_14 (by decide) ?_
    obtain ⟨g_4, hf⟩ := sn_gdE hf
    cases hf
    exact kr _ _ _ _ hw g_4 dX8_isHouse_18
theorem ctX8_isHouse (l : Launch) {σ : sn_S}  {o : Int32} (hf : fX8_isHouse σ = some o) : sn_M l yX8_isHouse cX8_isHouse 1 (some .boolean) rmX8_isHouse layC (fun ad => [.ref (ad 0)]) σ (some (fun _ => .int o)) σ :=
  sn_met (by decide) (fun _ => Nat.le_of_ble_eq_true rfl) (fun p e s m args below meth c ls D ct ad A C hw hl => wX8_isHouse_in C  hf (fun H locs ls pc hw ok hd => sn_zret C hw ok hd) _ _ _ hw hl)
-- X8_all
abbrev rmX8_all : Room := { frames := 2, cells := 0, slots := 0, locals := 42 }
def fX8_all (σ : sn_S) : Option Int32 :=
  ((fX8_isHouse σ).bind fun t_1 => (if t_1 = 0 then
  (some (-2 : Int32))
  else
  ((fX0_total σ 27).bind fun t_4 => (some t_4))))
theorem wX8_all_in (C : sn_C p s m args meth c RX8 cX8_all 1 (some .int) D ct ad layC A) {σ : sn_S}  {o : Int32} (hf : fX8_all σ = some o) (kr : sn_Kr p l e rmX8_all s m args below meth c Q D ct ad layC A cX8_all .ireturn (true) σ [.int o]) : sn_At p l e rmX8_all s m args below meth c Q D ct ad layC A 1 σ 0 [(0, .ref (ad 0))] [] := by
  intro H locs ls hw hl
  have hx := C.1
  have hb := C.2.1
  unfold fX8_all at hf
  refine lv_aload_n hx hb dX8_all_0 rfl (lv_at hl 0 rfl) ?_
  obtain ⟨t_1, h_2, hf⟩ := sn_bd hf
  refine sn_callVi (rest := []) C hw (ctX8_isHouse l  h_2) kl_RX8_137 layC_0 rfl rfl rfl rfl (Nat.le_of_ble_eq_true rfl) dX8_all_1 hl.1 (fun H locs hw => ?_)
  refine lv_if_eq (tgt := 17) hx hb dX8_all_4 (by decide) (fun c_3 => ?_) (fun c_3 => ?_)
  · have hf := sn_if c_3 hf
    refine lv_bipush (v := (-2)) hx hb dX8_all_17 (by decide) ?_
    cases hf
    exact kr _ _ _ _ hw rfl dX8_all_19
  · have hf := sn_el c_3 hf
    refine lv_aload_n hx hb dX8_all_7 rfl (lv_at hl 0 rfl) ?_
    refine sn_getC (r := 27) C hw fd_RX8_44 layC_0 rfl dX8_all_8 ?_
    obtain ⟨t_4, h_5, hf⟩ := sn_bd hf
    refine sn_callVi (rest := []) C hw (ctX0_total l sn_isX0_27 h_5) kl_RX8_141 (sn_look sn_isX0_27 (k := 0) rfl) rfl rfl rfl rfl (Nat.le_of_ble_eq_true rfl) dX8_all_11 hl.1 (fun H locs hw => ?_)
    refine lv_goto (tgt := 19) hx hb dX8_all_14 (by decide) ?_
    cases hf
    exact kr _ _ _ _ hw rfl dX8_all_19
theorem ctX8_all (l : Launch) {σ : sn_S}  {o : Int32} (hf : fX8_all σ = some o) : sn_M l yX8_all cX8_all 1 (some .int) rmX8_all layC (fun ad => [.ref (ad 0)]) σ (some (fun _ => .int o)) σ :=
  sn_met (by decide) (fun _ => Nat.le_of_ble_eq_true rfl) (fun p e s m args below meth c ls D ct ad A C hw hl => wX8_all_in C  hf (fun H locs ls pc hw ok hd => sn_iret C hw hd) _ _ _ hw hl)
end
