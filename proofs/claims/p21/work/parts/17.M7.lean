section
variable {p : Program} {l : Launch} {e : Env} {s : State} {m : MethodId} {args : Array Value} {below : List Frame} {meth : Method} {c : Code} {Q : State → Prop} {D : va_G} {ct : Nat → ClassId} {ad : Nat → Nat} {A : Nat → Prop} {lay : List sn_E}
-- X9_isPuffs
abbrev rmX9_isPuffs : Room := { frames := 2, cells := 0, slots := 0, locals := 47 }
def fX9_isPuffs (σ : sn_S) (x1 : Int32) (x2 : Int32) : Option Int32 :=
  ((fX9_isMinute σ x1.toInt64).bind fun t_1 => (if t_1 = 0 then
  (sn_gd (sn_b01 (0 : Int32)) (some (0 : Int32)))
  else
  ((fX9_in x1.toInt64 (0 : Int64) (7 : Int64)).bind fun t_5 => (if t_5 = 0 then
  (sn_gd (sn_b01 (0 : Int32)) (some (0 : Int32)))
  else
  ((fX9_in x2.toInt64 (0 : Int64) (1 : Int64)).bind fun t_9 => (if t_9 = 0 then
  (sn_gd (sn_b01 (0 : Int32)) (some (0 : Int32)))
  else
  (sn_gd (sn_b01 (1 : Int32)) (some (1 : Int32)))))))))
theorem wX9_isPuffs_in (C : sn_C p s m args meth c RX9 cX9_isPuffs 3 (some .boolean) D ct ad layM A) {σ : sn_S} {x1 : Int32} {x2 : Int32}  {o : Int32} (hf : fX9_isPuffs σ x1 x2 = some o) (kr : sn_Kr p l e rmX9_isPuffs s m args below meth c Q D ct ad layM A cX9_isPuffs .ireturn (sn_b01 o) σ [.int o]) : sn_At p l e rmX9_isPuffs s m args below meth c Q D ct ad layM A 3 σ 0 [(0, .ref (ad 0)), (1, .int x1), (2, .int x2)] [] := by
  intro H locs ls hw hl
  have hx := C.1
  have hb := C.2.1
  unfold fX9_isPuffs at hf
  refine lv_aload_n hx hb dX9_isPuffs_0 rfl (lv_at hl 0 rfl) ?_
  refine lv_iload_n hx hb dX9_isPuffs_1 rfl (lv_at hl 1 rfl) ?_
  refine lv_i2l hx hb dX9_isPuffs_2 rfl ?_
  obtain ⟨t_1, h_2, hf⟩ := sn_bd hf
  refine sn_callVi (rest := []) C hw (ctX9_isMinute l  h_2) kl_RX9_275 layM_0 rfl rfl rfl rfl (Nat.le_of_ble_eq_true rfl) dX9_isPuffs_3 hl.1 (fun H locs hw => ?_)
  refine lv_if_eq (tgt := 35) hx hb dX9_isPuffs_6 (by decide) (fun c_3 => ?_) (fun c_3 => ?_)
  · have hf := sn_if c_3 hf
    refine lv_iconst (v := 0) hx hb dX9_isPuffs_35 rfl ?_
    obtain ⟨g_4, hf⟩ := sn_gdE hf
    cases hf
    exact kr _ _ _ _ hw g_4 dX9_isPuffs_36
  · have hf := sn_el c_3 hf
    refine lv_iload_n hx hb dX9_isPuffs_9 rfl (lv_at hl 1 rfl) ?_
    refine lv_i2l hx hb dX9_isPuffs_10 rfl ?_
    refine lv_lconst (v := 0) hx hb dX9_isPuffs_11 rfl ?_
    refine lv_ldc2 hx hb C.2.2.2.1 (C.2.2.2.2.1 _ kk_RX9_411) dX9_isPuffs_12 ?_
    obtain ⟨t_5, h_6, hf⟩ := sn_bd hf
    refine sn_callSi (rest := []) C hw (ctX9_in l  h_6) kl_RX9_94 rfl rfl rfl (Nat.le_of_ble_eq_true rfl) dX9_isPuffs_15 hl.1 (fun H locs hw => ?_)
    refine lv_if_eq (tgt := 35) hx hb dX9_isPuffs_18 (by decide) (fun c_7 => ?_) (fun c_7 => ?_)
    · have hf := sn_if c_7 hf
      refine lv_iconst (v := 0) hx hb dX9_isPuffs_35 rfl ?_
      obtain ⟨g_8, hf⟩ := sn_gdE hf
      cases hf
      exact kr _ _ _ _ hw g_8 dX9_isPuffs_36
    · have hf := sn_el c_7 hf
      refine lv_iload_n hx hb dX9_isPuffs_21 rfl (lv_at hl 2 rfl) ?_
      refine lv_i2l hx hb dX9_isPuffs_22 rfl ?_
      refine lv_lconst (v := 0) hx hb dX9_isPuffs_23 rfl ?_
      refine lv_lconst (v := 1) hx hb dX9_isPuffs_24 rfl ?_
      obtain ⟨t_9, h_10, hf⟩ := sn_bd hf
      refine sn_callSi (rest := []) C hw (ctX9_in l  h_10) kl_RX9_94 rfl rfl rfl (Nat.le_of_ble_eq_true rfl) dX9_isPuffs_25 hl.1 (fun H locs hw => ?_)
      refine lv_if_eq (tgt := 35) hx hb dX9_isPuffs_28 (by decide) (fun c_11 => ?_) (fun c_11 => ?_)
      · have hf := sn_if c_11 hf
        refine lv_iconst (v := 0) hx hb dX9_isPuffs_35 rfl ?_
        obtain ⟨g_12, hf⟩ := sn_gdE hf
        cases hf
        exact kr _ _ _ _ hw g_12 dX9_isPuffs_36
      · have hf := sn_el c_11 hf
        refine lv_iconst (v := 1) hx hb dX9_isPuffs_31 rfl ?_
        refine lv_goto (tgt := 36) hx hb dX9_isPuffs_32 (by decide) ?_
        obtain ⟨g_13, hf⟩ := sn_gdE hf
        cases hf
        exact kr _ _ _ _ hw g_13 dX9_isPuffs_36
theorem ctX9_isPuffs (l : Launch) {σ : sn_S} {x1 : Int32} {x2 : Int32}  {o : Int32} (hf : fX9_isPuffs σ x1 x2 = some o) : sn_M l yX9_isPuffs cX9_isPuffs 3 (some .boolean) rmX9_isPuffs layM (fun ad => [.ref (ad 0), .int x1, .int x2]) σ (some (fun _ => .int o)) σ :=
  sn_met (by decide) (fun _ => Nat.le_of_ble_eq_true rfl) (fun p e s m args below meth c ls D ct ad A C hw hl => wX9_isPuffs_in C  hf (fun H locs ls pc hw ok hd => sn_zret C hw ok hd) _ _ _ hw hl)
-- X9_chance
abbrev rmX9_chance : Room := { frames := 6, cells := 0, slots := 0, locals := 144 }
def fX9_chance (σ : sn_S) (x1 : Int32) (x2 : Int32) (x3 : Int32) : Option (Int64 × sn_S) :=
  ((fX9_isPerson σ x1.toInt64).bind fun t_1 => (if t_1 = 0 then
  (some ((-2 : Int64), σ))
  else
  ((fX9_isPuffs σ x2 x3).bind fun t_4 => (if t_4 = 0 then
  (some ((-2 : Int64), σ))
  else
  ((fX9_layPuffs σ x2 x1 (0 : Int32)).bind fun t_7 => ((fX9_part (sn_L t_7 0 39) (sn_L t_7 0 38) x3).bind fun t_9 => (some (t_9, t_7))))))))
theorem wX9_chance_in (C : sn_C p s m args meth c RX9 cX9_chance 4 (some .long) D ct ad layM A) {σ : sn_S} {x1 : Int32} {x2 : Int32} {x3 : Int32}  {o : (Int64 × sn_S)} (hf : fX9_chance σ x1 x2 x3 = some o) (kr : sn_Kr p l e rmX9_chance s m args below meth c Q D ct ad layM A cX9_chance .lreturn (true) o.2 [.long o.1]) : sn_At p l e rmX9_chance s m args below meth c Q D ct ad layM A 4 σ 0 [(0, .ref (ad 0)), (1, .int x1), (2, .int x2), (3, .int x3)] [] := by
  intro H locs ls hw hl
  have hx := C.1
  have hb := C.2.1
  unfold fX9_chance at hf
  refine lv_aload_n hx hb dX9_chance_0 rfl (lv_at hl 0 rfl) ?_
  refine lv_iload_n hx hb dX9_chance_1 rfl (lv_at hl 1 rfl) ?_
  refine lv_i2l hx hb dX9_chance_2 rfl ?_
  obtain ⟨t_1, h_2, hf⟩ := sn_bd hf
  refine sn_callVi (rest := []) C hw (ctX9_isPerson l  h_2) kl_RX9_224 layM_0 rfl rfl rfl rfl (Nat.le_of_ble_eq_true rfl) dX9_chance_3 hl.1 (fun H locs hw => ?_)
  refine lv_if_eq (tgt := 18) hx hb dX9_chance_6 (by decide) (fun c_3 => ?_) (fun c_3 => ?_)
  · have hf := sn_if c_3 hf
    refine lv_ldc2 hx hb C.2.2.2.1 (C.2.2.2.2.1 _ kk_RX9_416) dX9_chance_18 ?_
    cases hf
    exact kr _ _ _ _ hw rfl dX9_chance_21
  · have hf := sn_el c_3 hf
    refine lv_aload_n hx hb dX9_chance_9 rfl (lv_at hl 0 rfl) ?_
    refine lv_iload_n hx hb dX9_chance_10 rfl (lv_at hl 2 rfl) ?_
    refine lv_iload_n hx hb dX9_chance_11 rfl (lv_at hl 3 rfl) ?_
    obtain ⟨t_4, h_5, hf⟩ := sn_bd hf
    refine sn_callVi (rest := []) C hw (ctX9_isPuffs l  h_5) kl_RX9_413 layM_0 rfl rfl rfl rfl (Nat.le_of_ble_eq_true rfl) dX9_chance_12 hl.1 (fun H locs hw => ?_)
    refine lv_if_ne (tgt := 22) hx hb dX9_chance_15 (by decide) (fun c_6 => ?_) (fun c_6 => ?_)
    · have hf := sn_el c_6 hf
      refine lv_aload_n hx hb dX9_chance_22 rfl (lv_at hl 0 rfl) ?_
      refine lv_iload_n hx hb dX9_chance_23 rfl (lv_at hl 2 rfl) ?_
      refine lv_iload_n hx hb dX9_chance_24 rfl (lv_at hl 1 rfl) ?_
      refine lv_iconst (v := 0) hx hb dX9_chance_25 rfl ?_
      obtain ⟨t_7, h_8, hf⟩ := sn_bd hf
      refine sn_callVv (rest := []) C hw (ctX9_layPuffs l  h_8) kl_RX9_418 layM_0 rfl rfl rfl rfl (Nat.le_of_ble_eq_true rfl) dX9_chance_26 hl.1 (fun H locs hw => ?_)
      refine lv_aload_n hx hb dX9_chance_29 rfl (lv_at hl 0 rfl) ?_
      refine sn_getL C hw fd_RX9_402 layM_0 rfl dX9_chance_30 ?_
      refine lv_aload_n hx hb dX9_chance_33 rfl (lv_at hl 0 rfl) ?_
      refine sn_getL C hw fd_RX9_398 layM_0 rfl dX9_chance_34 ?_
      refine lv_iload_n hx hb dX9_chance_37 rfl (lv_at hl 3 rfl) ?_
      obtain ⟨t_9, h_10, hf⟩ := sn_bd hf
      refine sn_callSl (rest := []) C hw (ctX9_part l  h_10) kl_RX9_422 rfl rfl rfl (Nat.le_of_ble_eq_true rfl) dX9_chance_38 hl.1 (fun H locs hw => ?_)
      cases hf
      exact kr _ _ _ _ hw rfl dX9_chance_41
    · have hf := sn_if c_6 hf
      refine lv_ldc2 hx hb C.2.2.2.1 (C.2.2.2.2.1 _ kk_RX9_416) dX9_chance_18 ?_
      cases hf
      exact kr _ _ _ _ hw rfl dX9_chance_21
theorem ctX9_chance (l : Launch) {σ : sn_S} {x1 : Int32} {x2 : Int32} {x3 : Int32}  {o : (Int64 × sn_S)} (hf : fX9_chance σ x1 x2 x3 = some o) : sn_M l yX9_chance cX9_chance 4 (some .long) rmX9_chance layM (fun ad => [.ref (ad 0), .int x1, .int x2, .int x3]) σ (some (fun _ => .long o.1)) o.2 :=
  sn_met (by decide) (fun _ => Nat.le_of_ble_eq_true rfl) (fun p e s m args below meth c ls D ct ad A C hw hl => wX9_chance_in C  hf (fun H locs ls pc hw ok hd => sn_lret C hw hd) _ _ _ hw hl)
-- X9_fair
abbrev rmX9_fair : Room := { frames := 6, cells := 0, slots := 0, locals := 144 }
def fX9_fair (σ : sn_S) (x1 : Int32) (x2 : Int32) (x3 : Int32) : Option (Int64 × sn_S) :=
  ((fX9_isPolicy σ x1).bind fun t_1 => (if t_1 = 0 then
  (some ((-2 : Int64), σ))
  else
  ((fX9_isPuffs σ x2 x3).bind fun t_4 => (if t_4 = 0 then
  (some ((-2 : Int64), σ))
  else
  ((fX9_layPuffs σ x2 (0 : Int32) x1).bind fun t_7 => ((fX9_part (sn_L t_7 0 40) (sn_L t_7 0 38) x3).bind fun t_9 => (some (t_9, t_7))))))))
theorem wX9_fair_in (C : sn_C p s m args meth c RX9 cX9_fair 4 (some .long) D ct ad layM A) {σ : sn_S} {x1 : Int32} {x2 : Int32} {x3 : Int32}  {o : (Int64 × sn_S)} (hf : fX9_fair σ x1 x2 x3 = some o) (kr : sn_Kr p l e rmX9_fair s m args below meth c Q D ct ad layM A cX9_fair .lreturn (true) o.2 [.long o.1]) : sn_At p l e rmX9_fair s m args below meth c Q D ct ad layM A 4 σ 0 [(0, .ref (ad 0)), (1, .int x1), (2, .int x2), (3, .int x3)] [] := by
  intro H locs ls hw hl
  have hx := C.1
  have hb := C.2.1
  unfold fX9_fair at hf
  refine lv_aload_n hx hb dX9_fair_0 rfl (lv_at hl 0 rfl) ?_
  refine lv_iload_n hx hb dX9_fair_1 rfl (lv_at hl 1 rfl) ?_
  obtain ⟨t_1, h_2, hf⟩ := sn_bd hf
  refine sn_callVi (rest := []) C hw (ctX9_isPolicy l  h_2) kl_RX9_228 layM_0 rfl rfl rfl rfl (Nat.le_of_ble_eq_true rfl) dX9_fair_2 hl.1 (fun H locs hw => ?_)
  refine lv_if_eq (tgt := 17) hx hb dX9_fair_5 (by decide) (fun c_3 => ?_) (fun c_3 => ?_)
  · have hf := sn_if c_3 hf
    refine lv_ldc2 hx hb C.2.2.2.1 (C.2.2.2.2.1 _ kk_RX9_416) dX9_fair_17 ?_
    cases hf
    exact kr _ _ _ _ hw rfl dX9_fair_20
  · have hf := sn_el c_3 hf
    refine lv_aload_n hx hb dX9_fair_8 rfl (lv_at hl 0 rfl) ?_
    refine lv_iload_n hx hb dX9_fair_9 rfl (lv_at hl 2 rfl) ?_
    refine lv_iload_n hx hb dX9_fair_10 rfl (lv_at hl 3 rfl) ?_
    obtain ⟨t_4, h_5, hf⟩ := sn_bd hf
    refine sn_callVi (rest := []) C hw (ctX9_isPuffs l  h_5) kl_RX9_413 layM_0 rfl rfl rfl rfl (Nat.le_of_ble_eq_true rfl) dX9_fair_11 hl.1 (fun H locs hw => ?_)
    refine lv_if_ne (tgt := 21) hx hb dX9_fair_14 (by decide) (fun c_6 => ?_) (fun c_6 => ?_)
    · have hf := sn_el c_6 hf
      refine lv_aload_n hx hb dX9_fair_21 rfl (lv_at hl 0 rfl) ?_
      refine lv_iload_n hx hb dX9_fair_22 rfl (lv_at hl 2 rfl) ?_
      refine lv_iconst (v := 0) hx hb dX9_fair_23 rfl ?_
      refine lv_iload_n hx hb dX9_fair_24 rfl (lv_at hl 1 rfl) ?_
      obtain ⟨t_7, h_8, hf⟩ := sn_bd hf
      refine sn_callVv (rest := []) C hw (ctX9_layPuffs l  h_8) kl_RX9_418 layM_0 rfl rfl rfl rfl (Nat.le_of_ble_eq_true rfl) dX9_fair_25 hl.1 (fun H locs hw => ?_)
      refine lv_aload_n hx hb dX9_fair_28 rfl (lv_at hl 0 rfl) ?_
      refine sn_getL C hw fd_RX9_405 layM_0 rfl dX9_fair_29 ?_
      refine lv_aload_n hx hb dX9_fair_32 rfl (lv_at hl 0 rfl) ?_
      refine sn_getL C hw fd_RX9_398 layM_0 rfl dX9_fair_33 ?_
      refine lv_iload_n hx hb dX9_fair_36 rfl (lv_at hl 3 rfl) ?_
      obtain ⟨t_9, h_10, hf⟩ := sn_bd hf
      refine sn_callSl (rest := []) C hw (ctX9_part l  h_10) kl_RX9_422 rfl rfl rfl (Nat.le_of_ble_eq_true rfl) dX9_fair_37 hl.1 (fun H locs hw => ?_)
      cases hf
      exact kr _ _ _ _ hw rfl dX9_fair_40
    · have hf := sn_if c_6 hf
      refine lv_ldc2 hx hb C.2.2.2.1 (C.2.2.2.2.1 _ kk_RX9_416) dX9_fair_17 ?_
      cases hf
      exact kr _ _ _ _ hw rfl dX9_fair_20
theorem ctX9_fair (l : Launch) {σ : sn_S} {x1 : Int32} {x2 : Int32} {x3 : Int32}  {o : (Int64 × sn_S)} (hf : fX9_fair σ x1 x2 x3 = some o) : sn_M l yX9_fair cX9_fair 4 (some .long) rmX9_fair layM (fun ad => [.ref (ad 0), .int x1, .int x2, .int x3]) σ (some (fun _ => .long o.1)) o.2 :=
  sn_met (by decide) (fun _ => Nat.le_of_ble_eq_true rfl) (fun p e s m args below meth c ls D ct ad A C hw hl => wX9_fair_in C  hf (fun H locs ls pc hw ok hd => sn_lret C hw hd) _ _ _ hw hl)
-- X9_risk
abbrev rmX9_risk : Room := { frames := 6, cells := 0, slots := 0, locals := 144 }
def fX9_risk (σ : sn_S) (x1 : Int32) (x2 : Int32) : Option (Int64 × sn_S) :=
  ((fX9_isPuffs σ x1 x2).bind fun t_1 => (if t_1 = 0 then
  (some ((-2 : Int64), σ))
  else
  ((fX9_layPuffs σ x1 (0 : Int32) (0 : Int32)).bind fun t_4 => ((fX9_part (sn_L t_4 0 41) (sn_L t_4 0 38) x2).bind fun t_6 => (some (t_6, t_4))))))
theorem wX9_risk_in (C : sn_C p s m args meth c RX9 cX9_risk 3 (some .long) D ct ad layM A) {σ : sn_S} {x1 : Int32} {x2 : Int32}  {o : (Int64 × sn_S)} (hf : fX9_risk σ x1 x2 = some o) (kr : sn_Kr p l e rmX9_risk s m args below meth c Q D ct ad layM A cX9_risk .lreturn (true) o.2 [.long o.1]) : sn_At p l e rmX9_risk s m args below meth c Q D ct ad layM A 3 σ 0 [(0, .ref (ad 0)), (1, .int x1), (2, .int x2)] [] := by
  intro H locs ls hw hl
  have hx := C.1
  have hb := C.2.1
  unfold fX9_risk at hf
  refine lv_aload_n hx hb dX9_risk_0 rfl (lv_at hl 0 rfl) ?_
  refine lv_iload_n hx hb dX9_risk_1 rfl (lv_at hl 1 rfl) ?_
  refine lv_iload_n hx hb dX9_risk_2 rfl (lv_at hl 2 rfl) ?_
  obtain ⟨t_1, h_2, hf⟩ := sn_bd hf
  refine sn_callVi (rest := []) C hw (ctX9_isPuffs l  h_2) kl_RX9_413 layM_0 rfl rfl rfl rfl (Nat.le_of_ble_eq_true rfl) dX9_risk_3 hl.1 (fun H locs hw => ?_)
  refine lv_if_ne (tgt := 13) hx hb dX9_risk_6 (by decide) (fun c_3 => ?_) (fun c_3 => ?_)
  · have hf := sn_el c_3 hf
    refine lv_aload_n hx hb dX9_risk_13 rfl (lv_at hl 0 rfl) ?_
    refine lv_iload_n hx hb dX9_risk_14 rfl (lv_at hl 1 rfl) ?_
    refine lv_iconst (v := 0) hx hb dX9_risk_15 rfl ?_
    refine lv_iconst (v := 0) hx hb dX9_risk_16 rfl ?_
    obtain ⟨t_4, h_5, hf⟩ := sn_bd hf
    refine sn_callVv (rest := []) C hw (ctX9_layPuffs l  h_5) kl_RX9_418 layM_0 rfl rfl rfl rfl (Nat.le_of_ble_eq_true rfl) dX9_risk_17 hl.1 (fun H locs hw => ?_)
    refine lv_aload_n hx hb dX9_risk_20 rfl (lv_at hl 0 rfl) ?_
    refine sn_getL C hw fd_RX9_408 layM_0 rfl dX9_risk_21 ?_
    refine lv_aload_n hx hb dX9_risk_24 rfl (lv_at hl 0 rfl) ?_
    refine sn_getL C hw fd_RX9_398 layM_0 rfl dX9_risk_25 ?_
    refine lv_iload_n hx hb dX9_risk_28 rfl (lv_at hl 2 rfl) ?_
    obtain ⟨t_6, h_7, hf⟩ := sn_bd hf
    refine sn_callSl (rest := []) C hw (ctX9_part l  h_7) kl_RX9_422 rfl rfl rfl (Nat.le_of_ble_eq_true rfl) dX9_risk_29 hl.1 (fun H locs hw => ?_)
    cases hf
    exact kr _ _ _ _ hw rfl dX9_risk_32
  · have hf := sn_if c_3 hf
    refine lv_ldc2 hx hb C.2.2.2.1 (C.2.2.2.2.1 _ kk_RX9_416) dX9_risk_9 ?_
    cases hf
    exact kr _ _ _ _ hw rfl dX9_risk_12
theorem ctX9_risk (l : Launch) {σ : sn_S} {x1 : Int32} {x2 : Int32}  {o : (Int64 × sn_S)} (hf : fX9_risk σ x1 x2 = some o) : sn_M l yX9_risk cX9_risk 3 (some .long) rmX9_risk layM (fun ad => [.ref (ad 0), .int x1, .int x2]) σ (some (fun _ => .long o.1)) o.2 :=
  sn_met (by decide) (fun _ => Nat.le_of_ble_eq_true rfl) (fun p e s m args below meth c ls D ct ad A C hw hl => wX9_risk_in C  hf (fun H locs ls pc hw ok hd => sn_lret C hw hd) _ _ _ hw hl)
-- X9_keepAct
abbrev rmX9_keepAct : Room := { frames := 5, cells := 0, slots := 0, locals := 115 }
def fX9_keepAct (σ : sn_S) (x1 : Int32) : Option (Int32 × sn_S) :=
  (sn_gd (sn_in (9 : Int32) 119) (if (sn_I σ 1 (9 : Int32).toNatClampNeg) = (40 : Int32) then
  (some ((-5 : Int32), σ))
  else
  (sn_gd (sn_in (9 : Int32) 119) (sn_gd (sn_in ((79 : Int32) + (sn_I σ 1 (9 : Int32).toNatClampNeg)) 119) (sn_lt (sn_pI σ 1 ((79 : Int32) + (sn_I σ 1 (9 : Int32).toNatClampNeg)).toNatClampNeg x1) fun σ_5 => (sn_gd (sn_in (9 : Int32) 119) (sn_gd (sn_in (9 : Int32) 119) (sn_lt (sn_pI σ_5 1 (9 : Int32).toNatClampNeg ((sn_I σ_5 1 (9 : Int32).toNatClampNeg) + (1 : Int32))) fun σ_9 => ((fX9_asksHouse σ_9).bind fun t_11 => (some ((0 : Int32), t_11.2)))))))))))
theorem wX9_keepAct_in (C : sn_C p s m args meth c RX9 cX9_keepAct 2 (some .int) D ct ad layM A) {σ : sn_S} {x1 : Int32}  {o : (Int32 × sn_S)} (hf : fX9_keepAct σ x1 = some o) (kr : sn_Kr p l e rmX9_keepAct s m args below meth c Q D ct ad layM A cX9_keepAct .ireturn (true) o.2 [.int o.1]) : sn_At p l e rmX9_keepAct s m args below meth c Q D ct ad layM A 2 σ 0 [(0, .ref (ad 0)), (1, .int x1)] [] := by
  intro H locs ls hw hl
  have hx := C.1
  have hb := C.2.1
  unfold fX9_keepAct at hf
  refine lv_aload_n hx hb dX9_keepAct_0 rfl (lv_at hl 0 rfl) ?_
  refine sn_getC (r := 1) C hw fd_RX9_9 layM_0 rfl dX9_keepAct_1 ?_
  refine lv_bipush (v := 9) hx hb dX9_keepAct_4 (by decide) ?_
  obtain ⟨g_1, hf⟩ := sn_gdE hf
  refine sn_iald C hw layM_1 g_1 dX9_keepAct_6 ?_
  refine lv_bipush (v := 40) hx hb dX9_keepAct_7 (by decide) ?_
  refine lv_icmp_ne (tgt := 15) hx hb dX9_keepAct_9 (by decide) (fun c_2 => ?_) (fun c_2 => ?_)
  · have hf := sn_el c_2 hf
    refine lv_aload_n hx hb dX9_keepAct_15 rfl (lv_at hl 0 rfl) ?_
    refine sn_getC (r := 1) C hw fd_RX9_9 layM_0 rfl dX9_keepAct_16 ?_
    refine lv_bipush (v := 79) hx hb dX9_keepAct_19 (by decide) ?_
    refine lv_aload_n hx hb dX9_keepAct_21 rfl (lv_at hl 0 rfl) ?_
    refine sn_getC (r := 1) C hw fd_RX9_9 layM_0 rfl dX9_keepAct_22 ?_
    refine lv_bipush (v := 9) hx hb dX9_keepAct_25 (by decide) ?_
    obtain ⟨g_3, hf⟩ := sn_gdE hf
    refine sn_iald C hw layM_1 g_3 dX9_keepAct_27 ?_
    refine lv_iadd hx hb dX9_keepAct_28 ?_
    refine lv_iload_n hx hb dX9_keepAct_29 rfl (lv_at hl 1 rfl) ?_
    obtain ⟨g_4, hf⟩ := sn_gdE hf
    refine sn_iast C hw layM_1 g_4 dX9_keepAct_30 (fun H locs hw => ?_)
    obtain ⟨σ_5, e_6, hf⟩ := sn_ltE hf
    rw [← e_6] at hw
    refine lv_aload_n hx hb dX9_keepAct_31 rfl (lv_at hl 0 rfl) ?_
    refine sn_getC (r := 1) C hw fd_RX9_9 layM_0 rfl dX9_keepAct_32 ?_
    refine lv_bipush (v := 9) hx hb dX9_keepAct_35 (by decide) ?_
    refine lv_dup2_11 hx hb dX9_keepAct_37 rfl rfl ?_
    obtain ⟨g_7, hf⟩ := sn_gdE hf
    refine sn_iald C hw layM_1 g_7 dX9_keepAct_38 ?_
    refine lv_iconst (v := 1) hx hb dX9_keepAct_39 rfl ?_
    refine lv_iadd hx hb dX9_keepAct_40 ?_
    obtain ⟨g_8, hf⟩ := sn_gdE hf
    refine sn_iast C hw layM_1 g_8 dX9_keepAct_41 (fun H locs hw => ?_)
    obtain ⟨σ_9, e_10, hf⟩ := sn_ltE hf
    rw [← e_10] at hw
    refine lv_aload_n hx hb dX9_keepAct_42 rfl (lv_at hl 0 rfl) ?_
    obtain ⟨t_11, h_12, hf⟩ := sn_bd hf
    refine sn_callVi (rest := []) C hw (ctX9_asksHouse l  h_12) kl_RX9_272 layM_0 rfl rfl rfl rfl (Nat.le_of_ble_eq_true rfl) dX9_keepAct_43 hl.1 (fun H locs hw => ?_)
    refine lv_pop hx hb dX9_keepAct_46 rfl ?_
    refine lv_iconst (v := 0) hx hb dX9_keepAct_47 rfl ?_
    cases hf
    exact kr _ _ _ _ hw rfl dX9_keepAct_48
  · have hf := sn_if c_2 hf
    refine lv_bipush (v := (-5)) hx hb dX9_keepAct_12 (by decide) ?_
    cases hf
    exact kr _ _ _ _ hw rfl dX9_keepAct_14
theorem ctX9_keepAct (l : Launch) {σ : sn_S} {x1 : Int32}  {o : (Int32 × sn_S)} (hf : fX9_keepAct σ x1 = some o) : sn_M l yX9_keepAct cX9_keepAct 2 (some .int) rmX9_keepAct layM (fun ad => [.ref (ad 0), .int x1]) σ (some (fun _ => .int o.1)) o.2 :=
  sn_met (by decide) (fun _ => Nat.le_of_ble_eq_true rfl) (fun p e s m args below meth c ls D ct ad A C hw hl => wX9_keepAct_in C  hf (fun H locs ls pc hw ok hd => sn_iret C hw hd) _ _ _ hw hl)
-- X9_stifle
abbrev rmX9_stifle : Room := { frames := 6, cells := 0, slots := 0, locals := 136 }
def fX9_stifle (σ : sn_S) (x1 : Int32) (x2 : Int32) : Option (Int32 × sn_S) :=
  ((fX9_isPerson σ x1.toInt64).bind fun t_1 => (if t_1 = 0 then
  (some ((-2 : Int32), σ))
  else
  ((fX9_isMinute σ x2.toInt64).bind fun t_4 => (if t_4 = 0 then
  (some ((-2 : Int32), σ))
  else
  ((fX9_keepAct σ (((200 : Int32) * x1) + ((2 : Int32) * x2))).bind fun t_7 => (if 0 ≤ t_7.1 then
  (sn_gd (sn_in (((6 : Int32) * x2) + x1) 180) (some ((sn_I t_7.2 12 (((6 : Int32) * x2) + x1).toNatClampNeg), t_7.2)))
  else
  (some ((-5 : Int32), t_7.2))))))))
theorem wX9_stifle_in (C : sn_C p s m args meth c RX9 cX9_stifle 3 (some .int) D ct ad layM A) {σ : sn_S} {x1 : Int32} {x2 : Int32}  {o : (Int32 × sn_S)} (hf : fX9_stifle σ x1 x2 = some o) (kr : sn_Kr p l e rmX9_stifle s m args below meth c Q D ct ad layM A cX9_stifle .ireturn (true) o.2 [.int o.1]) : sn_At p l e rmX9_stifle s m args below meth c Q D ct ad layM A 3 σ 0 [(0, .ref (ad 0)), (1, .int x1), (2, .int x2)] [] := by
  intro H locs ls hw hl
  have hx := C.1
  have hb := C.2.1
  unfold fX9_stifle at hf
  refine lv_aload_n hx hb dX9_stifle_0 rfl (lv_at hl 0 rfl) ?_
  refine lv_iload_n hx hb dX9_stifle_1 rfl (lv_at hl 1 rfl) ?_
  refine lv_i2l hx hb dX9_stifle_2 rfl ?_
  obtain ⟨t_1, h_2, hf⟩ := sn_bd hf
  refine sn_callVi (rest := []) C hw (ctX9_isPerson l  h_2) kl_RX9_224 layM_0 rfl rfl rfl rfl (Nat.le_of_ble_eq_true rfl) dX9_stifle_3 hl.1 (fun H locs hw => ?_)
  refine lv_if_eq (tgt := 18) hx hb dX9_stifle_6 (by decide) (fun c_3 => ?_) (fun c_3 => ?_)
  · have hf := sn_if c_3 hf
    refine lv_bipush (v := (-2)) hx hb dX9_stifle_18 (by decide) ?_
    cases hf
    exact kr _ _ _ _ hw rfl dX9_stifle_20
  · have hf := sn_el c_3 hf
    refine lv_aload_n hx hb dX9_stifle_9 rfl (lv_at hl 0 rfl) ?_
    refine lv_iload_n hx hb dX9_stifle_10 rfl (lv_at hl 2 rfl) ?_
    refine lv_i2l hx hb dX9_stifle_11 rfl ?_
    obtain ⟨t_4, h_5, hf⟩ := sn_bd hf
    refine sn_callVi (rest := []) C hw (ctX9_isMinute l  h_5) kl_RX9_275 layM_0 rfl rfl rfl rfl (Nat.le_of_ble_eq_true rfl) dX9_stifle_12 hl.1 (fun H locs hw => ?_)
    refine lv_if_ne (tgt := 21) hx hb dX9_stifle_15 (by decide) (fun c_6 => ?_) (fun c_6 => ?_)
    · have hf := sn_el c_6 hf
      refine lv_aload_n hx hb dX9_stifle_21 rfl (lv_at hl 0 rfl) ?_
      refine lv_sipush (v := 200) hx hb dX9_stifle_22 (by decide) ?_
      refine lv_iload_n hx hb dX9_stifle_25 rfl (lv_at hl 1 rfl) ?_
      refine lv_imul hx hb dX9_stifle_26 ?_
      refine lv_iconst (v := 2) hx hb dX9_stifle_27 rfl ?_
      refine lv_iload_n hx hb dX9_stifle_28 rfl (lv_at hl 2 rfl) ?_
      refine lv_imul hx hb dX9_stifle_29 ?_
      refine lv_iadd hx hb dX9_stifle_30 ?_
      obtain ⟨t_7, h_8, hf⟩ := sn_bd hf
      refine sn_callVi (rest := []) C hw (ctX9_keepAct l  h_8) kl_RX9_426 layM_0 rfl rfl rfl rfl (Nat.le_of_ble_eq_true rfl) dX9_stifle_31 hl.1 (fun H locs hw => ?_)
      refine lv_if_ge (tgt := 42) hx hb dX9_stifle_34 (by decide) (fun c_9 => ?_) (fun c_9 => ?_)
      · have hf := sn_if c_9 hf
        refine lv_aload_n hx hb dX9_stifle_42 rfl (lv_at hl 0 rfl) ?_
        refine sn_getC (r := 12) C hw fd_RX9_49 layM_0 rfl dX9_stifle_43 ?_
        refine lv_bipush (v := 6) hx hb dX9_stifle_46 (by decide) ?_
        refine lv_iload_n hx hb dX9_stifle_48 rfl (lv_at hl 2 rfl) ?_
        refine lv_imul hx hb dX9_stifle_49 ?_
        refine lv_iload_n hx hb dX9_stifle_50 rfl (lv_at hl 1 rfl) ?_
        refine lv_iadd hx hb dX9_stifle_51 ?_
        obtain ⟨g_10, hf⟩ := sn_gdE hf
        refine sn_iald C hw layM_12 g_10 dX9_stifle_52 ?_
        cases hf
        exact kr _ _ _ _ hw rfl dX9_stifle_53
      · have hf := sn_el c_9 hf
        refine lv_bipush (v := (-5)) hx hb dX9_stifle_37 (by decide) ?_
        refine lv_goto (tgt := 53) hx hb dX9_stifle_39 (by decide) ?_
        cases hf
        exact kr _ _ _ _ hw rfl dX9_stifle_53
    · have hf := sn_if c_6 hf
      refine lv_bipush (v := (-2)) hx hb dX9_stifle_18 (by decide) ?_
      cases hf
      exact kr _ _ _ _ hw rfl dX9_stifle_20
theorem ctX9_stifle (l : Launch) {σ : sn_S} {x1 : Int32} {x2 : Int32}  {o : (Int32 × sn_S)} (hf : fX9_stifle σ x1 x2 = some o) : sn_M l yX9_stifle cX9_stifle 3 (some .int) rmX9_stifle layM (fun ad => [.ref (ad 0), .int x1, .int x2]) σ (some (fun _ => .int o.1)) o.2 :=
  sn_met (by decide) (fun _ => Nat.le_of_ble_eq_true rfl) (fun p e s m args below meth c ls D ct ad A C hw hl => wX9_stifle_in C  hf (fun H locs ls pc hw ok hd => sn_iret C hw hd) _ _ _ hw hl)
-- X9_sniff
abbrev rmX9_sniff : Room := { frames := 6, cells := 0, slots := 0, locals := 136 }
def fX9_sniff (σ : sn_S) (x1 : Int32) (x2 : Int32) : Option (Int32 × sn_S) :=
  ((fX9_isPerson σ x1.toInt64).bind fun t_1 => (if t_1 = 0 then
  (some ((-2 : Int32), σ))
  else
  ((fX9_isMinute σ x2.toInt64).bind fun t_4 => (if t_4 = 0 then
  (some ((-2 : Int32), σ))
  else
  ((fX9_keepAct σ ((((200 : Int32) * x1) + ((2 : Int32) * x2)) + (1 : Int32))).bind fun t_7 => (if 0 ≤ t_7.1 then
  (sn_gd (sn_in x1 6) ((fX9_bit (sn_I t_7.2 10 x1.toNatClampNeg) x2).bind fun t_11 => (some (t_11, t_7.2))))
  else
  (some ((-5 : Int32), t_7.2))))))))
theorem wX9_sniff_in (C : sn_C p s m args meth c RX9 cX9_sniff 3 (some .int) D ct ad layM A) {σ : sn_S} {x1 : Int32} {x2 : Int32}  {o : (Int32 × sn_S)} (hf : fX9_sniff σ x1 x2 = some o) (kr : sn_Kr p l e rmX9_sniff s m args below meth c Q D ct ad layM A cX9_sniff .ireturn (true) o.2 [.int o.1]) : sn_At p l e rmX9_sniff s m args below meth c Q D ct ad layM A 3 σ 0 [(0, .ref (ad 0)), (1, .int x1), (2, .int x2)] [] := by
  intro H locs ls hw hl
  have hx := C.1
  have hb := C.2.1
  unfold fX9_sniff at hf
  refine lv_aload_n hx hb dX9_sniff_0 rfl (lv_at hl 0 rfl) ?_
  refine lv_iload_n hx hb dX9_sniff_1 rfl (lv_at hl 1 rfl) ?_
  refine lv_i2l hx hb dX9_sniff_2 rfl ?_
  obtain ⟨t_1, h_2, hf⟩ := sn_bd hf
  refine sn_callVi (rest := []) C hw (ctX9_isPerson l  h_2) kl_RX9_224 layM_0 rfl rfl rfl rfl (Nat.le_of_ble_eq_true rfl) dX9_sniff_3 hl.1 (fun H locs hw => ?_)
  refine lv_if_eq (tgt := 18) hx hb dX9_sniff_6 (by decide) (fun c_3 => ?_) (fun c_3 => ?_)
  · have hf := sn_if c_3 hf
    refine lv_bipush (v := (-2)) hx hb dX9_sniff_18 (by decide) ?_
    cases hf
    exact kr _ _ _ _ hw rfl dX9_sniff_20
  · have hf := sn_el c_3 hf
    refine lv_aload_n hx hb dX9_sniff_9 rfl (lv_at hl 0 rfl) ?_
    refine lv_iload_n hx hb dX9_sniff_10 rfl (lv_at hl 2 rfl) ?_
    refine lv_i2l hx hb dX9_sniff_11 rfl ?_
    obtain ⟨t_4, h_5, hf⟩ := sn_bd hf
    refine sn_callVi (rest := []) C hw (ctX9_isMinute l  h_5) kl_RX9_275 layM_0 rfl rfl rfl rfl (Nat.le_of_ble_eq_true rfl) dX9_sniff_12 hl.1 (fun H locs hw => ?_)
    refine lv_if_ne (tgt := 21) hx hb dX9_sniff_15 (by decide) (fun c_6 => ?_) (fun c_6 => ?_)
    · have hf := sn_el c_6 hf
      refine lv_aload_n hx hb dX9_sniff_21 rfl (lv_at hl 0 rfl) ?_
      refine lv_sipush (v := 200) hx hb dX9_sniff_22 (by decide) ?_
      refine lv_iload_n hx hb dX9_sniff_25 rfl (lv_at hl 1 rfl) ?_
      refine lv_imul hx hb dX9_sniff_26 ?_
      refine lv_iconst (v := 2) hx hb dX9_sniff_27 rfl ?_
      refine lv_iload_n hx hb dX9_sniff_28 rfl (lv_at hl 2 rfl) ?_
      refine lv_imul hx hb dX9_sniff_29 ?_
      refine lv_iadd hx hb dX9_sniff_30 ?_
      refine lv_iconst (v := 1) hx hb dX9_sniff_31 rfl ?_
      refine lv_iadd hx hb dX9_sniff_32 ?_
      obtain ⟨t_7, h_8, hf⟩ := sn_bd hf
      refine sn_callVi (rest := []) C hw (ctX9_keepAct l  h_8) kl_RX9_426 layM_0 rfl rfl rfl rfl (Nat.le_of_ble_eq_true rfl) dX9_sniff_33 hl.1 (fun H locs hw => ?_)
      refine lv_if_ge (tgt := 44) hx hb dX9_sniff_36 (by decide) (fun c_9 => ?_) (fun c_9 => ?_)
      · have hf := sn_if c_9 hf
        refine lv_aload_n hx hb dX9_sniff_44 rfl (lv_at hl 0 rfl) ?_
        refine sn_getC (r := 10) C hw fd_RX9_43 layM_0 rfl dX9_sniff_45 ?_
        refine lv_iload_n hx hb dX9_sniff_48 rfl (lv_at hl 1 rfl) ?_
        obtain ⟨g_10, hf⟩ := sn_gdE hf
        refine sn_iald C hw layM_10 g_10 dX9_sniff_49 ?_
        refine lv_iload_n hx hb dX9_sniff_50 rfl (lv_at hl 2 rfl) ?_
        obtain ⟨t_11, h_12, hf⟩ := sn_bd hf
        refine sn_callSi (rest := []) C hw (ctX9_bit l  h_12) kl_RX9_254 rfl rfl rfl (Nat.le_of_ble_eq_true rfl) dX9_sniff_51 hl.1 (fun H locs hw => ?_)
        cases hf
        exact kr _ _ _ _ hw rfl dX9_sniff_54
      · have hf := sn_el c_9 hf
        refine lv_bipush (v := (-5)) hx hb dX9_sniff_39 (by decide) ?_
        refine lv_goto (tgt := 54) hx hb dX9_sniff_41 (by decide) ?_
        cases hf
        exact kr _ _ _ _ hw rfl dX9_sniff_54
    · have hf := sn_if c_6 hf
      refine lv_bipush (v := (-2)) hx hb dX9_sniff_18 (by decide) ?_
      cases hf
      exact kr _ _ _ _ hw rfl dX9_sniff_20
theorem ctX9_sniff (l : Launch) {σ : sn_S} {x1 : Int32} {x2 : Int32}  {o : (Int32 × sn_S)} (hf : fX9_sniff σ x1 x2 = some o) : sn_M l yX9_sniff cX9_sniff 3 (some .int) rmX9_sniff layM (fun ad => [.ref (ad 0), .int x1, .int x2]) σ (some (fun _ => .int o.1)) o.2 :=
  sn_met (by decide) (fun _ => Nat.le_of_ble_eq_true rfl) (fun p e s m args below meth c ls D ct ad A C hw hl => wX9_sniff_in C  hf (fun H locs ls pc hw ok hd => sn_iret C hw hd) _ _ _ hw hl)
-- X9_undo
abbrev rmX9_undo : Room := { frames := 1, cells := 0, slots := 0, locals := 20 }
def fX9_undo (σ : sn_S) : Option (Int32 × sn_S) :=
  ((fX9_isHouse σ).bind fun t_1 => (if t_1 = 0 then
  (some ((-2 : Int32), σ))
  else
  (sn_gd (sn_in (9 : Int32) 119) (if (sn_I σ 1 (9 : Int32).toNatClampNeg) = 0 then
  (some ((-5 : Int32), σ))
  else
  (sn_gd (sn_in (9 : Int32) 119) (sn_gd (sn_in (9 : Int32) 119) (sn_lt (sn_pI σ 1 (9 : Int32).toNatClampNeg ((sn_I σ 1 (9 : Int32).toNatClampNeg) - (1 : Int32))) fun σ_8 => (sn_gd (sn_in (9 : Int32) 119) (some ((sn_I σ_8 1 (9 : Int32).toNatClampNeg), σ_8))))))))))
theorem wX9_undo_in (C : sn_C p s m args meth c RX9 cX9_undo 1 (some .int) D ct ad layM A) {σ : sn_S}  {o : (Int32 × sn_S)} (hf : fX9_undo σ = some o) (kr : sn_Kr p l e rmX9_undo s m args below meth c Q D ct ad layM A cX9_undo .ireturn (true) o.2 [.int o.1]) : sn_At p l e rmX9_undo s m args below meth c Q D ct ad layM A 1 σ 0 [(0, .ref (ad 0))] [] := by
  intro H locs ls hw hl
  have hx := C.1
  have hb := C.2.1
  unfold fX9_undo at hf
  refine lv_aload_n hx hb dX9_undo_0 rfl (lv_at hl 0 rfl) ?_
  obtain ⟨t_1, h_2, hf⟩ := sn_bd hf
  refine sn_callVi (rest := []) C hw (ctX9_isHouse l  h_2) kl_RX9_269 layM_0 rfl rfl rfl rfl (Nat.le_of_ble_eq_true rfl) dX9_undo_1 hl.1 (fun H locs hw => ?_)
  refine lv_if_ne (tgt := 10) hx hb dX9_undo_4 (by decide) (fun c_3 => ?_) (fun c_3 => ?_)
  · have hf := sn_el c_3 hf
    refine lv_aload_n hx hb dX9_undo_10 rfl (lv_at hl 0 rfl) ?_
    refine sn_getC (r := 1) C hw fd_RX9_9 layM_0 rfl dX9_undo_11 ?_
    refine lv_bipush (v := 9) hx hb dX9_undo_14 (by decide) ?_
    obtain ⟨g_4, hf⟩ := sn_gdE hf
    refine sn_iald C hw layM_1 g_4 dX9_undo_16 ?_
    refine lv_if_ne (tgt := 23) hx hb dX9_undo_17 (by decide) (fun c_5 => ?_) (fun c_5 => ?_)
    · have hf := sn_el c_5 hf
      refine lv_aload_n hx hb dX9_undo_23 rfl (lv_at hl 0 rfl) ?_
      refine sn_getC (r := 1) C hw fd_RX9_9 layM_0 rfl dX9_undo_24 ?_
      refine lv_bipush (v := 9) hx hb dX9_undo_27 (by decide) ?_
      refine lv_dup2_11 hx hb dX9_undo_29 rfl rfl ?_
      obtain ⟨g_6, hf⟩ := sn_gdE hf
      refine sn_iald C hw layM_1 g_6 dX9_undo_30 ?_
      refine lv_iconst (v := 1) hx hb dX9_undo_31 rfl ?_
      refine lv_isub hx hb dX9_undo_32 ?_
      obtain ⟨g_7, hf⟩ := sn_gdE hf
      refine sn_iast C hw layM_1 g_7 dX9_undo_33 (fun H locs hw => ?_)
      obtain ⟨σ_8, e_9, hf⟩ := sn_ltE hf
      rw [← e_9] at hw
      refine lv_aload_n hx hb dX9_undo_34 rfl (lv_at hl 0 rfl) ?_
      refine sn_getC (r := 1) C hw fd_RX9_9 layM_0 rfl dX9_undo_35 ?_
      refine lv_bipush (v := 9) hx hb dX9_undo_38 (by decide) ?_
      obtain ⟨g_10, hf⟩ := sn_gdE hf
      refine sn_iald C hw layM_1 g_10 dX9_undo_40 ?_
      cases hf
      exact kr _ _ _ _ hw rfl dX9_undo_41
    · have hf := sn_if c_5 hf
      refine lv_bipush (v := (-5)) hx hb dX9_undo_20 (by decide) ?_
      cases hf
      exact kr _ _ _ _ hw rfl dX9_undo_22
  · have hf := sn_if c_3 hf
    refine lv_bipush (v := (-2)) hx hb dX9_undo_7 (by decide) ?_
    cases hf
    exact kr _ _ _ _ hw rfl dX9_undo_9
theorem ctX9_undo (l : Launch) {σ : sn_S}  {o : (Int32 × sn_S)} (hf : fX9_undo σ = some o) : sn_M l yX9_undo cX9_undo 1 (some .int) rmX9_undo layM (fun ad => [.ref (ad 0)]) σ (some (fun _ => .int o.1)) o.2 :=
  sn_met (by decide) (fun _ => Nat.le_of_ble_eq_true rfl) (fun p e s m args below meth c ls D ct ad A C hw hl => wX9_undo_in C  hf (fun H locs ls pc hw ok hd => sn_iret C hw hd) _ _ _ hw hl)
-- X9_anew
abbrev rmX9_anew : Room := { frames := 1, cells := 0, slots := 0, locals := 20 }
def fX9_anew (σ : sn_S) : Option (Int32 × sn_S) :=
  ((fX9_isHouse σ).bind fun t_1 => (if t_1 = 0 then
  (some ((-2 : Int32), σ))
  else
  (sn_gd (sn_in (9 : Int32) 119) (sn_lt (sn_I σ 1 (9 : Int32).toNatClampNeg) fun y_5 => (sn_gd (sn_in (9 : Int32) 119) (sn_lt (sn_pI σ 1 (9 : Int32).toNatClampNeg (0 : Int32)) fun σ_8 => (some (y_5, σ_8))))))))
theorem wX9_anew_in (C : sn_C p s m args meth c RX9 cX9_anew 2 (some .int) D ct ad layM A) {σ : sn_S}  {o : (Int32 × sn_S)} (hf : fX9_anew σ = some o) (kr : sn_Kr p l e rmX9_anew s m args below meth c Q D ct ad layM A cX9_anew .ireturn (true) o.2 [.int o.1]) : sn_At p l e rmX9_anew s m args below meth c Q D ct ad layM A 2 σ 0 [(0, .ref (ad 0))] [] := by
  intro H locs ls hw hl
  have hx := C.1
  have hb := C.2.1
  unfold fX9_anew at hf
  refine lv_aload_n hx hb dX9_anew_0 rfl (lv_at hl 0 rfl) ?_
  obtain ⟨t_1, h_2, hf⟩ := sn_bd hf
  refine sn_callVi (rest := []) C hw (ctX9_isHouse l  h_2) kl_RX9_269 layM_0 rfl rfl rfl rfl (Nat.le_of_ble_eq_true rfl) dX9_anew_1 hl.1 (fun H locs hw => ?_)
  refine lv_if_ne (tgt := 10) hx hb dX9_anew_4 (by decide) (fun c_3 => ?_) (fun c_3 => ?_)
  · have hf := sn_el c_3 hf
    refine lv_aload_n hx hb dX9_anew_10 rfl (lv_at hl 0 rfl) ?_
    refine sn_getC (r := 1) C hw fd_RX9_9 layM_0 rfl dX9_anew_11 ?_
    refine lv_bipush (v := 9) hx hb dX9_anew_14 (by decide) ?_
    obtain ⟨g_4, hf⟩ := sn_gdE hf
    refine sn_iald C hw layM_1 g_4 dX9_anew_16 ?_
    obtain ⟨y_5, e_6, hf⟩ := sn_ltE hf
    refine lv_topi (fun y_5_ e_6_ => ?_)
    obtain rfl : y_5 = y_5_ := e_6.trans e_6_.symm
    refine lv_istore_n (lv' := [(1, .int y_5), (0, .ref (ad 0))]) hx hb dX9_anew_17 rfl hl (by decide) rfl (fun ls hl => ?_)
    refine lv_aload_n hx hb dX9_anew_18 rfl (lv_at hl 1 rfl) ?_
    refine sn_getC (r := 1) C hw fd_RX9_9 layM_0 rfl dX9_anew_19 ?_
    refine lv_bipush (v := 9) hx hb dX9_anew_22 (by decide) ?_
    refine lv_iconst (v := 0) hx hb dX9_anew_24 rfl ?_
    obtain ⟨g_7, hf⟩ := sn_gdE hf
    refine sn_iast C hw layM_1 g_7 dX9_anew_25 (fun H locs hw => ?_)
    obtain ⟨σ_8, e_9, hf⟩ := sn_ltE hf
    rw [← e_9] at hw
    refine lv_iload_n hx hb dX9_anew_26 rfl (lv_at hl 0 rfl) ?_
    cases hf
    exact kr _ _ _ _ hw rfl dX9_anew_27
  · have hf := sn_if c_3 hf
    refine lv_bipush (v := (-2)) hx hb dX9_anew_7 (by decide) ?_
    cases hf
    exact kr _ _ _ _ hw rfl dX9_anew_9
theorem ctX9_anew (l : Launch) {σ : sn_S}  {o : (Int32 × sn_S)} (hf : fX9_anew σ = some o) : sn_M l yX9_anew cX9_anew 2 (some .int) rmX9_anew layM (fun ad => [.ref (ad 0)]) σ (some (fun _ => .int o.1)) o.2 :=
  sn_met (by decide) (fun _ => Nat.le_of_ble_eq_true rfl) (fun p e s m args below meth c ls D ct ad A C hw hl => wX9_anew_in C  hf (fun H locs ls pc hw ok hd => sn_iret C hw hd) _ _ _ hw hl)
-- X9_goDrawn
abbrev rmX9_goDrawn : Room := { frames := 4, cells := 0, slots := 0, locals := 95 }
def BX9_goDrawn_84 (σ : sn_S) (x5 : Int32) : Option ((Int32 × sn_S)) :=
  ((fX9_goAll σ).bind fun t_1 => (some (x5, t_1)))
def BX9_goDrawn_78 (σ : sn_S) (x3 : Int64) (x5 : Int32) (x6 : Int32) : Option ((sn_S × Int64 × Int32 × Int32) ⊕ (sn_S × Int32)) :=
  (sn_lt (x6 + 1) fun y_1 => (some (.inl (σ, x3, x5, y_1))))
def BX9_goDrawn_12 (σ : sn_S) (x3 : Int64) (x5 : Int32) (x6 : Int32) : Option ((sn_S × Int64 × Int32 × Int32) ⊕ (sn_S × Int32)) :=
  ((fX9_minutes σ).bind fun t_1 => (if t_1 ≤ x6 then
  (some (.inr (σ, x5)))
  else
  (sn_lt ((((1103515245 : Int64) * x3) + (12345 : Int64)) - (((1103515245 : Int64) * x3) + (12345 : Int64)) / (2147483648 : Int64) * (2147483648 : Int64)) fun y_4 => (sn_gd (sn_in (4 : Int32) 119) (if (lg_cmp ((y_4 / (65536 : Int64)) - (y_4 / (65536 : Int64)) / (10 : Int64) * (10 : Int64)) ((sn_I σ 1 (4 : Int32).toNatClampNeg).toInt64)) < 0 then
  (sn_gd (sn_in x6 30) (sn_gd (sn_in x6 30) (sn_lt (sn_pI σ 7 x6.toNatClampNeg ((sn_I σ 7 x6.toNatClampNeg) + (3 : Int32))) fun σ_10 => (sn_lt (x5 ||| ((1 : Int32) <<< (x6 &&& 31))) fun y_12 => (BX9_goDrawn_78 σ_10 y_4 y_12 x6)))))
  else
  (BX9_goDrawn_78 σ y_4 x5 x6))))))
def LX9_goDrawn_12  (s : sn_S × Int64 × Int32 × Int32) : Option ((sn_S × Int64 × Int32 × Int32) ⊕ (sn_S × Int32)) := BX9_goDrawn_12 s.1 s.2.1 s.2.2.1 s.2.2.2
def fX9_goDrawn (σ : sn_S) (x1 : Int64) : Option (Int32 × sn_S) :=
  ((fX9_asItIs σ).bind fun t_1 => ((sn_it (LX9_goDrawn_12 ) 5000 (t_1, x1, (0 : Int32), (0 : Int32))).bind fun t_3 => (BX9_goDrawn_84 t_3.1 t_3.2)))
theorem wX9_goDrawn_84 (C : sn_C p s m args meth c RX9 cX9_goDrawn 7 (some .int) D ct ad layM A) {σ : sn_S} {x5 : Int32}  {o : (Int32 × sn_S)} (hf : BX9_goDrawn_84 σ x5 = some o) (kr : sn_Kr p l e rmX9_goDrawn s m args below meth c Q D ct ad layM A cX9_goDrawn .ireturn (true) o.2 [.int o.1]) : sn_At p l e rmX9_goDrawn s m args below meth c Q D ct ad layM A 7 σ 84 [(0, .ref (ad 0)), (5, .int x5)] [] := by
  intro H locs ls hw hl
  have hx := C.1
  have hb := C.2.1
  unfold BX9_goDrawn_84 at hf
  refine lv_aload_n hx hb dX9_goDrawn_84 rfl (lv_at hl 0 rfl) ?_
  obtain ⟨t_1, h_2, hf⟩ := sn_bd hf
  refine sn_callVv (rest := []) C hw (ctX9_goAll l  h_2) kl_RX9_266 layM_0 rfl rfl rfl rfl (Nat.le_of_ble_eq_true rfl) dX9_goDrawn_85 hl.1 (fun H locs hw => ?_)
  refine lv_iload hx hb dX9_goDrawn_88 (lv_at hl 1 rfl) ?_
  cases hf
  exact kr _ _ _ _ hw rfl dX9_goDrawn_90
theorem wX9_goDrawn_78 (C : sn_C p s m args meth c RX9 cX9_goDrawn 7 (some .int) D ct ad layM A) {σ : sn_S} {x3 : Int64} {x5 : Int32} {x6 : Int32}  {o : (sn_S × Int64 × Int32 × Int32) ⊕ (sn_S × Int32)} (hf : BX9_goDrawn_78 σ x3 x5 x6 = some o) (kc : ∀ v, o = .inl v → sn_At p l e rmX9_goDrawn s m args below meth c Q D ct ad layM A 7 v.1 12 [(0, .ref (ad 0)), (3, .long v.2.1), (5, .int v.2.2.1), (6, .int v.2.2.2)] []) (kx : ∀ v, o = .inr v → sn_At p l e rmX9_goDrawn s m args below meth c Q D ct ad layM A 7 v.1 84 [(0, .ref (ad 0)), (5, .int v.2)] []) : sn_At p l e rmX9_goDrawn s m args below meth c Q D ct ad layM A 7 σ 78 [(0, .ref (ad 0)), (3, .long x3), (5, .int x5), (6, .int x6)] [] := by
  intro H locs ls hw hl
  have hx := C.1
  have hb := C.2.1
  unfold BX9_goDrawn_78 at hf
  obtain ⟨y_1, e_2, hf⟩ := sn_ltE hf
  refine lv_iinc (v := y_1) (lv' := [(6, .int y_1), (0, .ref (ad 0)), (3, .long x3), (5, .int x5)]) hx hb dX9_goDrawn_78 hl (k := 3) rfl (by rw [e_2]; rfl) (by decide) rfl (fun ls hl => ?_)
  refine lv_goto (tgt := 12) hx hb dX9_goDrawn_81 (by decide) ?_
  cases hf
  exact kc _ rfl _ _ _ hw (lv_sub hl [1, 2, 3, 0] rfl)
theorem wX9_goDrawn_12 (C : sn_C p s m args meth c RX9 cX9_goDrawn 7 (some .int) D ct ad layM A) {σ : sn_S} {x3 : Int64} {x5 : Int32} {x6 : Int32}  {o : (sn_S × Int64 × Int32 × Int32) ⊕ (sn_S × Int32)} (hf : BX9_goDrawn_12 σ x3 x5 x6 = some o) (kc : ∀ v, o = .inl v → sn_At p l e rmX9_goDrawn s m args below meth c Q D ct ad layM A 7 v.1 12 [(0, .ref (ad 0)), (3, .long v.2.1), (5, .int v.2.2.1), (6, .int v.2.2.2)] []) (kx : ∀ v, o = .inr v → sn_At p l e rmX9_goDrawn s m args below meth c Q D ct ad layM A 7 v.1 84 [(0, .ref (ad 0)), (5, .int v.2)] []) : sn_At p l e rmX9_goDrawn s m args below meth c Q D ct ad layM A 7 σ 12 [(0, .ref (ad 0)), (3, .long x3), (5, .int x5), (6, .int x6)] [] := by
  intro H locs ls hw hl
  have hx := C.1
  have hb := C.2.1
  unfold BX9_goDrawn_12 at hf
  refine lv_iload hx hb dX9_goDrawn_12 (lv_at hl 3 rfl) ?_
  refine lv_aload_n hx hb dX9_goDrawn_14 rfl (lv_at hl 0 rfl) ?_
  obtain ⟨t_1, h_2, hf⟩ := sn_bd hf
  refine sn_callVi (rest := [.int x6]) C hw (ctX9_minutes l  h_2) kl_RX9_249 layM_0 rfl rfl rfl rfl (Nat.le_of_ble_eq_true rfl) dX9_goDrawn_15 hl.1 (fun H locs hw => ?_)
  refine lv_icmp_ge (tgt := 84) hx hb dX9_goDrawn_18 (by decide) (fun c_3 => ?_) (fun c_3 => ?_)
  · have hf := sn_if c_3 hf
    cases hf
    exact kx _ rfl _ _ _ hw (lv_sub hl [0, 2] rfl)
  · have hf := sn_el c_3 hf
    refine lv_ldc2 hx hb C.2.2.2.1 (C.2.2.2.2.1 _ kk_RX9_429) dX9_goDrawn_21 ?_
    refine lv_lload_n hx hb dX9_goDrawn_24 rfl (lv_at hl 1 rfl) ?_
    refine lv_lmul hx hb dX9_goDrawn_25 ?_
    refine lv_ldc2 hx hb C.2.2.2.1 (C.2.2.2.2.1 _ kk_RX9_431) dX9_goDrawn_26 ?_
    refine lv_ladd hx hb dX9_goDrawn_29 ?_
    refine lv_ldc2 hx hb C.2.2.2.1 (C.2.2.2.2.1 _ kk_RX9_433) dX9_goDrawn_30 ?_
    refine lv_lrem hx hb dX9_goDrawn_33 (by decide) ?_
    obtain ⟨y_4, e_5, hf⟩ := sn_ltE hf
    refine lv_topl (fun y_4_ e_5_ => ?_)
    obtain rfl : y_4 = y_4_ := e_5.trans e_5_.symm
    refine lv_lstore_n (lv' := [(3, .long y_4), (0, .ref (ad 0)), (5, .int x5), (6, .int x6)]) hx hb dX9_goDrawn_34 rfl hl (by decide) rfl (fun ls hl => ?_)
    refine lv_lload_n hx hb dX9_goDrawn_35 rfl (lv_at hl 0 rfl) ?_
    refine lv_ldc2 hx hb C.2.2.2.1 (C.2.2.2.2.1 _ kk_RX9_435) dX9_goDrawn_36 ?_
    refine lv_ldiv hx hb dX9_goDrawn_39 (by decide) ?_
    refine lv_ldc2 hx hb C.2.2.2.1 (C.2.2.2.2.1 _ kk_RX9_437) dX9_goDrawn_40 ?_
    refine lv_lrem hx hb dX9_goDrawn_43 (by decide) ?_
    refine lv_aload_n hx hb dX9_goDrawn_44 rfl (lv_at hl 1 rfl) ?_
    refine sn_getC (r := 1) C hw fd_RX9_9 layM_0 rfl dX9_goDrawn_45 ?_
    refine lv_iconst (v := 4) hx hb dX9_goDrawn_48 rfl ?_
    obtain ⟨g_6, hf⟩ := sn_gdE hf
    refine sn_iald C hw layM_1 g_6 dX9_goDrawn_49 ?_
    refine lv_i2l hx hb dX9_goDrawn_50 rfl ?_
    refine W.lcmp hx hb dX9_goDrawn_51 ?_
    refine lv_if_lt (tgt := 58) hx hb dX9_goDrawn_52 (by decide) (fun c_7 => ?_) (fun c_7 => ?_)
    · have hf := sn_if c_7 hf
      refine lv_aload_n hx hb dX9_goDrawn_58 rfl (lv_at hl 1 rfl) ?_
      refine sn_getC (r := 7) C hw fd_RX9_34 layM_0 rfl dX9_goDrawn_59 ?_
      refine lv_iload hx hb dX9_goDrawn_62 (lv_at hl 3 rfl) ?_
      refine lv_dup2_11 hx hb dX9_goDrawn_64 rfl rfl ?_
      obtain ⟨g_8, hf⟩ := sn_gdE hf
      refine sn_iald C hw layM_7 g_8 dX9_goDrawn_65 ?_
      refine lv_iconst (v := 3) hx hb dX9_goDrawn_66 rfl ?_
      refine lv_iadd hx hb dX9_goDrawn_67 ?_
      obtain ⟨g_9, hf⟩ := sn_gdE hf
      refine sn_iast C hw layM_7 g_9 dX9_goDrawn_68 (fun H locs hw => ?_)
      obtain ⟨σ_10, e_11, hf⟩ := sn_ltE hf
      rw [← e_11] at hw
      refine lv_iload hx hb dX9_goDrawn_69 (lv_at hl 2 rfl) ?_
      refine lv_iconst (v := 1) hx hb dX9_goDrawn_71 rfl ?_
      refine lv_iload hx hb dX9_goDrawn_72 (lv_at hl 3 rfl) ?_
      refine lv_ishl hx hb dX9_goDrawn_74 ?_
      refine lv_ior hx hb dX9_goDrawn_75 ?_
      obtain ⟨y_12, e_13, hf⟩ := sn_ltE hf
      refine lv_topi (fun y_12_ e_13_ => ?_)
      obtain rfl : y_12 = y_12_ := e_13.trans e_13_.symm
      refine lv_istore (lv' := [(5, .int y_12), (3, .long y_4), (0, .ref (ad 0)), (6, .int x6)]) hx hb dX9_goDrawn_76 hl (by decide) rfl (fun ls hl => ?_)
      exact wX9_goDrawn_78 C  hf kc kx _ _ _ hw (lv_sub hl [2, 1, 0, 3] rfl)
    · have hf := sn_el c_7 hf
      refine lv_goto (tgt := 78) hx hb dX9_goDrawn_55 (by decide) ?_
      exact wX9_goDrawn_78 C  hf kc kx _ _ _ hw (lv_sub hl [1, 0, 2, 3] rfl)
theorem wX9_goDrawn_L12 (C : sn_C p s m args meth c RX9 cX9_goDrawn 7 (some .int) D ct ad layM A)    {z : sn_S × Int64 × Int32 × Int32} {t : sn_S × Int32} (h : sn_it (LX9_goDrawn_12 ) 5000 z = some t) (kx : ∀ v, t = v → sn_At p l e rmX9_goDrawn s m args below meth c Q D ct ad layM A 7 v.1 84 [(0, .ref (ad 0)), (5, .int v.2)] []) : sn_At p l e rmX9_goDrawn s m args below meth c Q D ct ad layM A 7 z.1 12 [(0, .ref (ad 0)), (3, .long z.2.1), (5, .int z.2.2.1), (6, .int z.2.2.2)] [] :=
  sn_loop (f := LX9_goDrawn_12 ) (G := fun z => sn_At p l e rmX9_goDrawn s m args below meth c Q D ct ad layM A 7 z.1 12 [(0, .ref (ad 0)), (3, .long z.2.1), (5, .int z.2.2.1), (6, .int z.2.2.2)] []) (E := fun t => (∀ v, t = v → sn_At p l e rmX9_goDrawn s m args below meth c Q D ct ad layM A 7 v.1 84 [(0, .ref (ad 0)), (5, .int v.2)] []) ∧ True) (fun z o hf k1 k2 => wX9_goDrawn_12 C  hf (fun v e => k1 v e) (fun v e => (k2 _ e).1 v rfl)) 5000 z t h ⟨kx, trivial⟩
theorem wX9_goDrawn_in (C : sn_C p s m args meth c RX9 cX9_goDrawn 7 (some .int) D ct ad layM A) {σ : sn_S} {x1 : Int64}  {o : (Int32 × sn_S)} (hf : fX9_goDrawn σ x1 = some o) (kr : sn_Kr p l e rmX9_goDrawn s m args below meth c Q D ct ad layM A cX9_goDrawn .ireturn (true) o.2 [.int o.1]) : sn_At p l e rmX9_goDrawn s m args below meth c Q D ct ad layM A 7 σ 0 [(0, .ref (ad 0)), (1, .long x1)] [] := by
  intro H locs ls hw hl
  have hx := C.1
  have hb := C.2.1
  unfold fX9_goDrawn at hf
  refine lv_aload_n hx hb dX9_goDrawn_0 rfl (lv_at hl 0 rfl) ?_
  obtain ⟨t_1, h_2, hf⟩ := sn_bd hf
  refine sn_callVv (rest := []) C hw (ctX9_asItIs l  h_2) kl_RX9_263 layM_0 rfl rfl rfl rfl (Nat.le_of_ble_eq_true rfl) dX9_goDrawn_1 hl.1 (fun H locs hw => ?_)
  refine lv_lload_n hx hb dX9_goDrawn_4 rfl (lv_at hl 1 rfl) ?_
  refine lv_lstore_n (lv' := [(3, .long x1), (0, .ref (ad 0)), (1, .long x1)]) hx hb dX9_goDrawn_5 rfl hl (by decide) rfl (fun ls hl => ?_)
  refine lv_iconst (v := 0) hx hb dX9_goDrawn_6 rfl ?_
  refine lv_istore (lv' := [(5, .int (0 : Int32)), (3, .long x1), (0, .ref (ad 0)), (1, .long x1)]) hx hb dX9_goDrawn_7 hl (by decide) rfl (fun ls hl => ?_)
  refine lv_iconst (v := 0) hx hb dX9_goDrawn_9 rfl ?_
  refine lv_istore (lv' := [(6, .int (0 : Int32)), (5, .int (0 : Int32)), (3, .long x1), (0, .ref (ad 0)), (1, .long x1)]) hx hb dX9_goDrawn_10 hl (by decide) rfl (fun ls hl => ?_)
  obtain ⟨t_3, h_4, hf⟩ := sn_bd hf
  exact wX9_goDrawn_L12 C  h_4 (fun v e => by cases e; exact wX9_goDrawn_84 C  hf kr) _ _ _ hw (lv_sub hl [3, 2, 1, 0] rfl)
theorem ctX9_goDrawn (l : Launch) {σ : sn_S} {x1 : Int64}  {o : (Int32 × sn_S)} (hf : fX9_goDrawn σ x1 = some o) : sn_M l yX9_goDrawn cX9_goDrawn 7 (some .int) rmX9_goDrawn layM (fun ad => [.ref (ad 0), .long x1]) σ (some (fun _ => .int o.1)) o.2 :=
  sn_met (by decide) (fun _ => Nat.le_of_ble_eq_true rfl) (fun p e s m args below meth c ls D ct ad A C hw hl => wX9_goDrawn_in C  hf (fun H locs ls pc hw ok hd => sn_iret C hw hd) _ _ _ hw hl)
-- X9_isSeed
abbrev rmX9_isSeed : Room := { frames := 1, cells := 0, slots := 0, locals := 25 }
def fX9_isSeed (x0 : Int32) : Option Int32 :=
  ((fX9_in x0.toInt64 (0 : Int64) (2000000000 : Int64)).bind fun t_1 => (sn_gd (sn_b01 t_1) (some t_1)))
theorem wX9_isSeed_in (C : sn_C p s m args meth c RX9 cX9_isSeed 1 (some .boolean) D ct ad layM A) {σ : sn_S} {x0 : Int32}  {o : Int32} (hf : fX9_isSeed x0 = some o) (kr : sn_Kr p l e rmX9_isSeed s m args below meth c Q D ct ad layM A cX9_isSeed .ireturn (sn_b01 o) σ [.int o]) : sn_At p l e rmX9_isSeed s m args below meth c Q D ct ad layM A 1 σ 0 [(0, .int x0)] [] := by
  intro H locs ls hw hl
  have hx := C.1
  have hb := C.2.1
  unfold fX9_isSeed at hf
  refine lv_iload_n hx hb dX9_isSeed_0 rfl (lv_at hl 0 rfl) ?_
  refine lv_i2l hx hb dX9_isSeed_1 rfl ?_
  refine lv_lconst (v := 0) hx hb dX9_isSeed_2 rfl ?_
  refine lv_ldc2 hx hb C.2.2.2.1 (C.2.2.2.2.1 _ kk_RX9_439) dX9_isSeed_3 ?_
  obtain ⟨t_1, h_2, hf⟩ := sn_bd hf
  refine sn_callSi (rest := []) C hw (ctX9_in l  h_2) kl_RX9_94 rfl rfl rfl (Nat.le_of_ble_eq_true rfl) dX9_isSeed_6 hl.1 (fun H locs hw => ?_)
  obtain ⟨g_3, hf⟩ := sn_gdE hf
  cases hf
  exact kr _ _ _ _ hw g_3 dX9_isSeed_9
theorem ctX9_isSeed (l : Launch) {σ : sn_S} {x0 : Int32}  {o : Int32} (hf : fX9_isSeed x0 = some o) : sn_M l yX9_isSeed cX9_isSeed 1 (some .boolean) rmX9_isSeed layM (fun ad => [.int x0]) σ (some (fun _ => .int o)) σ :=
  sn_met (by decide) (fun _ => Nat.le_of_ble_eq_true rfl) (fun p e s m args below meth c ls D ct ad A C hw hl => wX9_isSeed_in C  hf (fun H locs ls pc hw ok hd => sn_zret C hw ok hd) _ _ _ hw hl)
-- X9_drawn
abbrev rmX9_drawn : Room := { frames := 5, cells := 0, slots := 0, locals := 121 }
def fX9_drawn (σ : sn_S) (x1 : Int32) (x2 : Int32) : Option (Int32 × sn_S) :=
  ((fX9_isHouse σ).bind fun t_1 => (if t_1 = 0 then
  (some ((-2 : Int32), σ))
  else
  ((fX9_isSeed x1).bind fun t_4 => (if t_4 = 0 then
  (some ((-2 : Int32), σ))
  else
  ((fX9_in x2.toInt64 (0 : Int64) (2 : Int64)).bind fun t_7 => (if t_7 = 0 then
  (some ((-2 : Int32), σ))
  else
  ((fX9_goDrawn σ x1.toInt64).bind fun t_10 => (if x2 = 0 then
  (some (t_10.1, t_10.2))
  else
  (if x2 = (1 : Int32) then
  ((fX9_allSneezes t_10.2).bind fun t_16 => (some (t_16, t_10.2)))
  else
  ((fX9_ruinOf t_10.2).bind fun t_14 => (some (t_14.1, t_14.2))))))))))))
theorem wX9_drawn_in (C : sn_C p s m args meth c RX9 cX9_drawn 4 (some .int) D ct ad layM A) {σ : sn_S} {x1 : Int32} {x2 : Int32}  {o : (Int32 × sn_S)} (hf : fX9_drawn σ x1 x2 = some o) (kr : sn_Kr p l e rmX9_drawn s m args below meth c Q D ct ad layM A cX9_drawn .ireturn (true) o.2 [.int o.1]) : sn_At p l e rmX9_drawn s m args below meth c Q D ct ad layM A 4 σ 0 [(0, .ref (ad 0)), (1, .int x1), (2, .int x2)] [] := by
  intro H locs ls hw hl
  have hx := C.1
  have hb := C.2.1
  unfold fX9_drawn at hf
  refine lv_aload_n hx hb dX9_drawn_0 rfl (lv_at hl 0 rfl) ?_
  obtain ⟨t_1, h_2, hf⟩ := sn_bd hf
  refine sn_callVi (rest := []) C hw (ctX9_isHouse l  h_2) kl_RX9_269 layM_0 rfl rfl rfl rfl (Nat.le_of_ble_eq_true rfl) dX9_drawn_1 hl.1 (fun H locs hw => ?_)
  refine lv_if_eq (tgt := 26) hx hb dX9_drawn_4 (by decide) (fun c_3 => ?_) (fun c_3 => ?_)
  · have hf := sn_if c_3 hf
    refine lv_bipush (v := (-2)) hx hb dX9_drawn_26 (by decide) ?_
    cases hf
    exact kr _ _ _ _ hw rfl dX9_drawn_28
  · have hf := sn_el c_3 hf
    refine lv_iload_n hx hb dX9_drawn_7 rfl (lv_at hl 1 rfl) ?_
    obtain ⟨t_4, h_5, hf⟩ := sn_bd hf
    refine sn_callSi (rest := []) C hw (ctX9_isSeed l  h_5) kl_RX9_441 rfl rfl rfl (Nat.le_of_ble_eq_true rfl) dX9_drawn_8 hl.1 (fun H locs hw => ?_)
    refine lv_if_eq (tgt := 26) hx hb dX9_drawn_11 (by decide) (fun c_6 => ?_) (fun c_6 => ?_)
    · have hf := sn_if c_6 hf
      refine lv_bipush (v := (-2)) hx hb dX9_drawn_26 (by decide) ?_
      cases hf
      exact kr _ _ _ _ hw rfl dX9_drawn_28
    · have hf := sn_el c_6 hf
      refine lv_iload_n hx hb dX9_drawn_14 rfl (lv_at hl 2 rfl) ?_
      refine lv_i2l hx hb dX9_drawn_15 rfl ?_
      refine lv_lconst (v := 0) hx hb dX9_drawn_16 rfl ?_
      refine lv_ldc2 hx hb C.2.2.2.1 (C.2.2.2.2.1 _ kk_RX9_92) dX9_drawn_17 ?_
      obtain ⟨t_7, h_8, hf⟩ := sn_bd hf
      refine sn_callSi (rest := []) C hw (ctX9_in l  h_8) kl_RX9_94 rfl rfl rfl (Nat.le_of_ble_eq_true rfl) dX9_drawn_20 hl.1 (fun H locs hw => ?_)
      refine lv_if_ne (tgt := 29) hx hb dX9_drawn_23 (by decide) (fun c_9 => ?_) (fun c_9 => ?_)
      · have hf := sn_el c_9 hf
        refine lv_aload_n hx hb dX9_drawn_29 rfl (lv_at hl 0 rfl) ?_
        refine lv_iload_n hx hb dX9_drawn_30 rfl (lv_at hl 1 rfl) ?_
        refine lv_i2l hx hb dX9_drawn_31 rfl ?_
        obtain ⟨t_10, h_11, hf⟩ := sn_bd hf
        refine sn_callVi (rest := []) C hw (ctX9_goDrawn l  h_11) kl_RX9_444 layM_0 rfl rfl rfl rfl (Nat.le_of_ble_eq_true rfl) dX9_drawn_32 hl.1 (fun H locs hw => ?_)
        refine lv_istore_n (lv' := [(3, .int t_10.1), (0, .ref (ad 0)), (1, .int x1), (2, .int x2)]) hx hb dX9_drawn_35 rfl hl (by decide) rfl (fun ls hl => ?_)
        refine lv_iload_n hx hb dX9_drawn_36 rfl (lv_at hl 3 rfl) ?_
        refine lv_if_ne (tgt := 44) hx hb dX9_drawn_37 (by decide) (fun c_12 => ?_) (fun c_12 => ?_)
        · have hf := sn_el c_12 hf
          refine lv_iload_n hx hb dX9_drawn_44 rfl (lv_at hl 3 rfl) ?_
          refine lv_iconst (v := 1) hx hb dX9_drawn_45 rfl ?_
          refine lv_icmp_ne (tgt := 56) hx hb dX9_drawn_46 (by decide) (fun c_13 => ?_) (fun c_13 => ?_)
          · have hf := sn_el c_13 hf
            refine lv_aload_n hx hb dX9_drawn_56 rfl (lv_at hl 1 rfl) ?_
            obtain ⟨t_14, h_15, hf⟩ := sn_bd hf
            refine sn_callVi (rest := []) C hw (ctX9_ruinOf l  h_15) kl_RX9_329 layM_0 rfl rfl rfl rfl (Nat.le_of_ble_eq_true rfl) dX9_drawn_57 hl.1 (fun H locs hw => ?_)
            cases hf
            exact kr _ _ _ _ hw rfl dX9_drawn_60
          · have hf := sn_if c_13 hf
            refine lv_aload_n hx hb dX9_drawn_49 rfl (lv_at hl 1 rfl) ?_
            obtain ⟨t_16, h_17, hf⟩ := sn_bd hf
            refine sn_callVi (rest := []) C hw (ctX9_allSneezes l  h_17) kl_RX9_290 layM_0 rfl rfl rfl rfl (Nat.le_of_ble_eq_true rfl) dX9_drawn_50 hl.1 (fun H locs hw => ?_)
            refine lv_goto (tgt := 60) hx hb dX9_drawn_53 (by decide) ?_
            cases hf
            exact kr _ _ _ _ hw rfl dX9_drawn_60
        · have hf := sn_if c_12 hf
          refine lv_iload_n hx hb dX9_drawn_40 rfl (lv_at hl 0 rfl) ?_
          refine lv_goto (tgt := 60) hx hb dX9_drawn_41 (by decide) ?_
          cases hf
          exact kr _ _ _ _ hw rfl dX9_drawn_60
      · have hf := sn_if c_9 hf
        refine lv_bipush (v := (-2)) hx hb dX9_drawn_26 (by decide) ?_
        cases hf
        exact kr _ _ _ _ hw rfl dX9_drawn_28
theorem ctX9_drawn (l : Launch) {σ : sn_S} {x1 : Int32} {x2 : Int32}  {o : (Int32 × sn_S)} (hf : fX9_drawn σ x1 x2 = some o) : sn_M l yX9_drawn cX9_drawn 4 (some .int) rmX9_drawn layM (fun ad => [.ref (ad 0), .int x1, .int x2]) σ (some (fun _ => .int o.1)) o.2 :=
  sn_met (by decide) (fun _ => Nat.le_of_ble_eq_true rfl) (fun p e s m args below meth c ls D ct ad A C hw hl => wX9_drawn_in C  hf (fun H locs ls pc hw ok hd => sn_iret C hw hd) _ _ _ hw hl)
-- X9_luck
abbrev rmX9_luck : Room := { frames := 5, cells := 0, slots := 0, locals := 121 }
def BX9_luck_77 (σ : sn_S) (x4 : Int32) : Option ((Int32 × sn_S)) :=
  (some (x4, σ))
def BX9_luck_68 (σ : sn_S) (x1 : Int32) (x2 : Int32) (x3 : Int32) (x4 : Int32) (x5 : Int32) (t0 : Int32) (t1 : Int32) : Option ((sn_S × Int32 × Int32) ⊕ (sn_S × Int32)) :=
  (sn_lt (t0 + t1) fun y_1 => (sn_lt (x5 + 1) fun y_3 => (some (.inl (σ, y_1, y_3)))))
def BX9_luck_36 (σ : sn_S) (x1 : Int32) (x2 : Int32) (x3 : Int32) (x4 : Int32) (x5 : Int32) : Option ((sn_S × Int32 × Int32) ⊕ (sn_S × Int32)) :=
  (if x2 ≤ x5 then
  (some (.inr (σ, x4)))
  else
  ((fX9_goDrawn σ (x1.toInt64 + x5.toInt64)).bind fun t_2 => ((fX9_claimOf_ t_2.2 x3).bind fun t_4 => (if t_4.1 ≤ 0 then
  (BX9_luck_68 t_4.2 x1 x2 x3 x4 x5 x4 (0 : Int32))
  else
  (BX9_luck_68 t_4.2 x1 x2 x3 x4 x5 x4 (1 : Int32))))))
def LX9_luck_36 (x1 : Int32) (x2 : Int32) (x3 : Int32) (s : sn_S × Int32 × Int32) : Option ((sn_S × Int32 × Int32) ⊕ (sn_S × Int32)) := BX9_luck_36 s.1 x1 x2 x3 s.2.1 s.2.2
def fX9_luck (σ : sn_S) (x1 : Int32) (x2 : Int32) (x3 : Int32) : Option (Int32 × sn_S) :=
  ((fX9_isSeed x1).bind fun t_1 => (if t_1 = 0 then
  (some ((-2 : Int32), σ))
  else
  ((fX9_in x2.toInt64 (1 : Int64) (20 : Int64)).bind fun t_4 => (if t_4 = 0 then
  (some ((-2 : Int32), σ))
  else
  ((fX9_isPolicy σ x3).bind fun t_7 => (if t_7 = 0 then
  (some ((-2 : Int32), σ))
  else
  ((sn_it (LX9_luck_36 x1 x2 x3) 5000 (σ, (0 : Int32), (0 : Int32))).bind fun t_10 => (BX9_luck_77 t_10.1 t_10.2))))))))
theorem wX9_luck_77 (C : sn_C p s m args meth c RX9 cX9_luck 6 (some .int) D ct ad layM A) {σ : sn_S} {x4 : Int32}  {o : (Int32 × sn_S)} (hf : BX9_luck_77 σ x4 = some o) (kr : sn_Kr p l e rmX9_luck s m args below meth c Q D ct ad layM A cX9_luck .ireturn (true) o.2 [.int o.1]) : sn_At p l e rmX9_luck s m args below meth c Q D ct ad layM A 6 σ 77 [(4, .int x4)] [] := by
  intro H locs ls hw hl
  have hx := C.1
  have hb := C.2.1
  unfold BX9_luck_77 at hf
  refine lv_iload hx hb dX9_luck_77 (lv_at hl 0 rfl) ?_
  cases hf
  exact kr _ _ _ _ hw rfl dX9_luck_79
theorem wX9_luck_68 (C : sn_C p s m args meth c RX9 cX9_luck 6 (some .int) D ct ad layM A) {σ : sn_S} {x1 : Int32} {x2 : Int32} {x3 : Int32} {x4 : Int32} {x5 : Int32} {t0 : Int32} {t1 : Int32}  {o : (sn_S × Int32 × Int32) ⊕ (sn_S × Int32)} (hf : BX9_luck_68 σ x1 x2 x3 x4 x5 t0 t1 = some o) (kc : ∀ v, o = .inl v → sn_At p l e rmX9_luck s m args below meth c Q D ct ad layM A 6 v.1 36 [(0, .ref (ad 0)), (1, .int x1), (2, .int x2), (3, .int x3), (4, .int v.2.1), (5, .int v.2.2)] []) (kx : ∀ v, o = .inr v → sn_At p l e rmX9_luck s m args below meth c Q D ct ad layM A 6 v.1 77 [(4, .int v.2)] []) : sn_At p l e rmX9_luck s m args below meth c Q D ct ad layM A 6 σ 68 [(0, .ref (ad 0)), (1, .int x1), (2, .int x2), (3, .int x3), (4, .int x4), (5, .int x5)] [.int t1, .int t0] := by
  intro H locs ls hw hl
  have hx := C.1
  have hb := C.2.1
  unfold BX9_luck_68 at hf
  refine lv_iadd hx hb dX9_luck_68 ?_
  obtain ⟨y_1, e_2, hf⟩ := sn_ltE hf
  refine lv_topi (fun y_1_ e_2_ => ?_)
  obtain rfl : y_1 = y_1_ := e_2.trans e_2_.symm
  refine lv_istore (lv' := [(4, .int y_1), (0, .ref (ad 0)), (1, .int x1), (2, .int x2), (3, .int x3), (5, .int x5)]) hx hb dX9_luck_69 hl (by decide) rfl (fun ls hl => ?_)
  obtain ⟨y_3, e_4, hf⟩ := sn_ltE hf
  refine lv_iinc (v := y_3) (lv' := [(5, .int y_3), (4, .int y_1), (0, .ref (ad 0)), (1, .int x1), (2, .int x2), (3, .int x3)]) hx hb dX9_luck_71 hl (k := 5) rfl (by rw [e_4]; rfl) (by decide) rfl (fun ls hl => ?_)
  refine lv_goto (tgt := 36) hx hb dX9_luck_74 (by decide) ?_
  cases hf
  exact kc _ rfl _ _ _ hw (lv_sub hl [2, 3, 4, 5, 1, 0] rfl)
theorem wX9_luck_36 (C : sn_C p s m args meth c RX9 cX9_luck 6 (some .int) D ct ad layM A) {σ : sn_S} {x1 : Int32} {x2 : Int32} {x3 : Int32} {x4 : Int32} {x5 : Int32}  {o : (sn_S × Int32 × Int32) ⊕ (sn_S × Int32)} (hf : BX9_luck_36 σ x1 x2 x3 x4 x5 = some o) (kc : ∀ v, o = .inl v → sn_At p l e rmX9_luck s m args below meth c Q D ct ad layM A 6 v.1 36 [(0, .ref (ad 0)), (1, .int x1), (2, .int x2), (3, .int x3), (4, .int v.2.1), (5, .int v.2.2)] []) (kx : ∀ v, o = .inr v → sn_At p l e rmX9_luck s m args below meth c Q D ct ad layM A 6 v.1 77 [(4, .int v.2)] []) : sn_At p l e rmX9_luck s m args below meth c Q D ct ad layM A 6 σ 36 [(0, .ref (ad 0)), (1, .int x1), (2, .int x2), (3, .int x3), (4, .int x4), (5, .int x5)] [] := by
  intro H locs ls hw hl
  have hx := C.1
  have hb := C.2.1
  unfold BX9_luck_36 at hf
  refine lv_iload hx hb dX9_luck_36 (lv_at hl 5 rfl) ?_
  refine lv_iload_n hx hb dX9_luck_38 rfl (lv_at hl 2 rfl) ?_
  refine lv_icmp_ge (tgt := 77) hx hb dX9_luck_39 (by decide) (fun c_1 => ?_) (fun c_1 => ?_)
  · have hf := sn_if c_1 hf
    cases hf
    exact kx _ rfl _ _ _ hw (lv_sub hl [4] rfl)
  · have hf := sn_el c_1 hf
    refine lv_aload_n hx hb dX9_luck_42 rfl (lv_at hl 0 rfl) ?_
    refine lv_iload_n hx hb dX9_luck_43 rfl (lv_at hl 1 rfl) ?_
    refine lv_i2l hx hb dX9_luck_44 rfl ?_
    refine lv_iload hx hb dX9_luck_45 (lv_at hl 5 rfl) ?_
    refine lv_i2l hx hb dX9_luck_47 rfl ?_
    refine lv_ladd hx hb dX9_luck_48 ?_
    obtain ⟨t_2, h_3, hf⟩ := sn_bd hf
    refine sn_callVi (rest := []) C hw (ctX9_goDrawn l  h_3) kl_RX9_444 layM_0 rfl rfl rfl rfl (Nat.le_of_ble_eq_true rfl) dX9_luck_49 hl.1 (fun H locs hw => ?_)
    refine lv_pop hx hb dX9_luck_52 rfl ?_
    refine lv_iload hx hb dX9_luck_53 (lv_at hl 4 rfl) ?_
    refine lv_aload_n hx hb dX9_luck_55 rfl (lv_at hl 0 rfl) ?_
    refine lv_iload_n hx hb dX9_luck_56 rfl (lv_at hl 3 rfl) ?_
    obtain ⟨t_4, h_5, hf⟩ := sn_bd hf
    refine sn_callVi (rest := [.int x4]) C hw (ctX9_claimOf_ l  h_5) kl_RX9_326 layM_0 rfl rfl rfl rfl (Nat.le_of_ble_eq_true rfl) dX9_luck_57 hl.1 (fun H locs hw => ?_)
    refine lv_if_le (tgt := 67) hx hb dX9_luck_60 (by decide) (fun c_6 => ?_) (fun c_6 => ?_)
    · have hf := sn_if c_6 hf
      refine lv_iconst (v := 0) hx hb dX9_luck_67 rfl ?_
      exact wX9_luck_68 C  hf kc kx _ _ _ hw (lv_sub hl [0, 1, 2, 3, 4, 5] rfl)
    · have hf := sn_el c_6 hf
      refine lv_iconst (v := 1) hx hb dX9_luck_63 rfl ?_
      refine lv_goto (tgt := 68) hx hb dX9_luck_64 (by decide) ?_
      exact wX9_luck_68 C  hf kc kx _ _ _ hw (lv_sub hl [0, 1, 2, 3, 4, 5] rfl)
theorem wX9_luck_L36 (C : sn_C p s m args meth c RX9 cX9_luck 6 (some .int) D ct ad layM A) {x1 : Int32} {x2 : Int32} {x3 : Int32}   {z : sn_S × Int32 × Int32} {t : sn_S × Int32} (h : sn_it (LX9_luck_36 x1 x2 x3) 5000 z = some t) (kx : ∀ v, t = v → sn_At p l e rmX9_luck s m args below meth c Q D ct ad layM A 6 v.1 77 [(4, .int v.2)] []) : sn_At p l e rmX9_luck s m args below meth c Q D ct ad layM A 6 z.1 36 [(0, .ref (ad 0)), (1, .int x1), (2, .int x2), (3, .int x3), (4, .int z.2.1), (5, .int z.2.2)] [] :=
  sn_loop (f := LX9_luck_36 x1 x2 x3) (G := fun z => sn_At p l e rmX9_luck s m args below meth c Q D ct ad layM A 6 z.1 36 [(0, .ref (ad 0)), (1, .int x1), (2, .int x2), (3, .int x3), (4, .int z.2.1), (5, .int z.2.2)] []) (E := fun t => (∀ v, t = v → sn_At p l e rmX9_luck s m args below meth c Q D ct ad layM A 6 v.1 77 [(4, .int v.2)] []) ∧ True) (fun z o hf k1 k2 => wX9_luck_36 C  hf (fun v e => k1 v e) (fun v e => (k2 _ e).1 v rfl)) 5000 z t h ⟨kx, trivial⟩
theorem wX9_luck_in (C : sn_C p s m args meth c RX9 cX9_luck 6 (some .int) D ct ad layM A) {σ : sn_S} {x1 : Int32} {x2 : Int32} {x3 : Int32}  {o : (Int32 × sn_S)} (hf : fX9_luck σ x1 x2 x3 = some o) (kr : sn_Kr p l e rmX9_luck s m args below meth c Q D ct ad layM A cX9_luck .ireturn (true) o.2 [.int o.1]) : sn_At p l e rmX9_luck s m args below meth c Q D ct ad layM A 6 σ 0 [(0, .ref (ad 0)), (1, .int x1), (2, .int x2), (3, .int x3)] [] := by
  intro H locs ls hw hl
  have hx := C.1
  have hb := C.2.1
  unfold fX9_luck at hf
  refine lv_iload_n hx hb dX9_luck_0 rfl (lv_at hl 1 rfl) ?_
  obtain ⟨t_1, h_2, hf⟩ := sn_bd hf
  refine sn_callSi (rest := []) C hw (ctX9_isSeed l  h_2) kl_RX9_441 rfl rfl rfl (Nat.le_of_ble_eq_true rfl) dX9_luck_1 hl.1 (fun H locs hw => ?_)
  refine lv_if_eq (tgt := 27) hx hb dX9_luck_4 (by decide) (fun c_3 => ?_) (fun c_3 => ?_)
  · have hf := sn_if c_3 hf
    refine lv_bipush (v := (-2)) hx hb dX9_luck_27 (by decide) ?_
    cases hf
    exact kr _ _ _ _ hw rfl dX9_luck_29
  · have hf := sn_el c_3 hf
    refine lv_iload_n hx hb dX9_luck_7 rfl (lv_at hl 2 rfl) ?_
    refine lv_i2l hx hb dX9_luck_8 rfl ?_
    refine lv_lconst (v := 1) hx hb dX9_luck_9 rfl ?_
    refine lv_ldc2 hx hb C.2.2.2.1 (C.2.2.2.2.1 _ kk_RX9_448) dX9_luck_10 ?_
    obtain ⟨t_4, h_5, hf⟩ := sn_bd hf
    refine sn_callSi (rest := []) C hw (ctX9_in l  h_5) kl_RX9_94 rfl rfl rfl (Nat.le_of_ble_eq_true rfl) dX9_luck_13 hl.1 (fun H locs hw => ?_)
    refine lv_if_eq (tgt := 27) hx hb dX9_luck_16 (by decide) (fun c_6 => ?_) (fun c_6 => ?_)
    · have hf := sn_if c_6 hf
      refine lv_bipush (v := (-2)) hx hb dX9_luck_27 (by decide) ?_
      cases hf
      exact kr _ _ _ _ hw rfl dX9_luck_29
    · have hf := sn_el c_6 hf
      refine lv_aload_n hx hb dX9_luck_19 rfl (lv_at hl 0 rfl) ?_
      refine lv_iload_n hx hb dX9_luck_20 rfl (lv_at hl 3 rfl) ?_
      obtain ⟨t_7, h_8, hf⟩ := sn_bd hf
      refine sn_callVi (rest := []) C hw (ctX9_isPolicy l  h_8) kl_RX9_228 layM_0 rfl rfl rfl rfl (Nat.le_of_ble_eq_true rfl) dX9_luck_21 hl.1 (fun H locs hw => ?_)
      refine lv_if_ne (tgt := 30) hx hb dX9_luck_24 (by decide) (fun c_9 => ?_) (fun c_9 => ?_)
      · have hf := sn_el c_9 hf
        refine lv_iconst (v := 0) hx hb dX9_luck_30 rfl ?_
        refine lv_istore (lv' := [(4, .int (0 : Int32)), (0, .ref (ad 0)), (1, .int x1), (2, .int x2), (3, .int x3)]) hx hb dX9_luck_31 hl (by decide) rfl (fun ls hl => ?_)
        refine lv_iconst (v := 0) hx hb dX9_luck_33 rfl ?_
        refine lv_istore (lv' := [(5, .int (0 : Int32)), (4, .int (0 : Int32)), (0, .ref (ad 0)), (1, .int x1), (2, .int x2), (3, .int x3)]) hx hb dX9_luck_34 hl (by decide) rfl (fun ls hl => ?_)
        obtain ⟨t_10, h_11, hf⟩ := sn_bd hf
        exact wX9_luck_L36 C  h_11 (fun v e => by cases e; exact wX9_luck_77 C  hf kr) _ _ _ hw (lv_sub hl [2, 3, 4, 5, 1, 0] rfl)
      · have hf := sn_if c_9 hf
        refine lv_bipush (v := (-2)) hx hb dX9_luck_27 (by decide) ?_
        cases hf
        exact kr _ _ _ _ hw rfl dX9_luck_29
theorem ctX9_luck (l : Launch) {σ : sn_S} {x1 : Int32} {x2 : Int32} {x3 : Int32}  {o : (Int32 × sn_S)} (hf : fX9_luck σ x1 x2 x3 = some o) : sn_M l yX9_luck cX9_luck 6 (some .int) rmX9_luck layM (fun ad => [.ref (ad 0), .int x1, .int x2, .int x3]) σ (some (fun _ => .int o.1)) o.2 :=
  sn_met (by decide) (fun _ => Nat.le_of_ble_eq_true rfl) (fun p e s m args below meth c ls D ct ad A C hw hl => wX9_luck_in C  hf (fun H locs ls pc hw ok hd => sn_iret C hw hd) _ _ _ hw hl)
-- X9_rate
abbrev rmX9_rate : Room := { frames := 2, cells := 0, slots := 0, locals := 46 }
def fX9_rate (σ : sn_S) (x1 : Int32) (x2 : Int32) : Option (Int32 × sn_S) :=
  ((fX9_isPolicy σ x1).bind fun t_1 => (if t_1 = 0 then
  (some ((-2 : Int32), σ))
  else
  ((fX9_in x2.toInt64 (0 : Int64) (99 : Int64)).bind fun t_4 => (if t_4 = 0 then
  (some ((-2 : Int32), σ))
  else
  (sn_gd (sn_in (9 : Int32) 119) (if (sn_I σ 1 (9 : Int32).toNatClampNeg) ≤ 0 then
  ((fX9_of σ x1 (4 : Int32)).bind fun t_9 => (sn_gd (sn_in (((49 : Int32) + ((5 : Int32) * x1)) + (4 : Int32)) 119) (sn_lt (sn_pI σ 1 (((49 : Int32) + ((5 : Int32) * x1)) + (4 : Int32)).toNatClampNeg x2) fun σ_12 => (some (t_9, σ_12)))))
  else
  (some ((-5 : Int32), σ))))))))
theorem wX9_rate_in (C : sn_C p s m args meth c RX9 cX9_rate 4 (some .int) D ct ad layM A) {σ : sn_S} {x1 : Int32} {x2 : Int32}  {o : (Int32 × sn_S)} (hf : fX9_rate σ x1 x2 = some o) (kr : sn_Kr p l e rmX9_rate s m args below meth c Q D ct ad layM A cX9_rate .ireturn (true) o.2 [.int o.1]) : sn_At p l e rmX9_rate s m args below meth c Q D ct ad layM A 4 σ 0 [(0, .ref (ad 0)), (1, .int x1), (2, .int x2)] [] := by
  intro H locs ls hw hl
  have hx := C.1
  have hb := C.2.1
  unfold fX9_rate at hf
  refine lv_aload_n hx hb dX9_rate_0 rfl (lv_at hl 0 rfl) ?_
  refine lv_iload_n hx hb dX9_rate_1 rfl (lv_at hl 1 rfl) ?_
  obtain ⟨t_1, h_2, hf⟩ := sn_bd hf
  refine sn_callVi (rest := []) C hw (ctX9_isPolicy l  h_2) kl_RX9_228 layM_0 rfl rfl rfl rfl (Nat.le_of_ble_eq_true rfl) dX9_rate_2 hl.1 (fun H locs hw => ?_)
  refine lv_if_eq (tgt := 20) hx hb dX9_rate_5 (by decide) (fun c_3 => ?_) (fun c_3 => ?_)
  · have hf := sn_if c_3 hf
    refine lv_bipush (v := (-2)) hx hb dX9_rate_20 (by decide) ?_
    cases hf
    exact kr _ _ _ _ hw rfl dX9_rate_22
  · have hf := sn_el c_3 hf
    refine lv_iload_n hx hb dX9_rate_8 rfl (lv_at hl 2 rfl) ?_
    refine lv_i2l hx hb dX9_rate_9 rfl ?_
    refine lv_lconst (v := 0) hx hb dX9_rate_10 rfl ?_
    refine lv_ldc2 hx hb C.2.2.2.1 (C.2.2.2.2.1 _ kk_RX9_450) dX9_rate_11 ?_
    obtain ⟨t_4, h_5, hf⟩ := sn_bd hf
    refine sn_callSi (rest := []) C hw (ctX9_in l  h_5) kl_RX9_94 rfl rfl rfl (Nat.le_of_ble_eq_true rfl) dX9_rate_14 hl.1 (fun H locs hw => ?_)
    refine lv_if_ne (tgt := 23) hx hb dX9_rate_17 (by decide) (fun c_6 => ?_) (fun c_6 => ?_)
    · have hf := sn_el c_6 hf
      refine lv_aload_n hx hb dX9_rate_23 rfl (lv_at hl 0 rfl) ?_
      refine sn_getC (r := 1) C hw fd_RX9_9 layM_0 rfl dX9_rate_24 ?_
      refine lv_bipush (v := 9) hx hb dX9_rate_27 (by decide) ?_
      obtain ⟨g_7, hf⟩ := sn_gdE hf
      refine sn_iald C hw layM_1 g_7 dX9_rate_29 ?_
      refine lv_if_le (tgt := 36) hx hb dX9_rate_30 (by decide) (fun c_8 => ?_) (fun c_8 => ?_)
      · have hf := sn_if c_8 hf
        refine lv_aload_n hx hb dX9_rate_36 rfl (lv_at hl 0 rfl) ?_
        refine lv_iload_n hx hb dX9_rate_37 rfl (lv_at hl 1 rfl) ?_
        refine lv_iconst (v := 4) hx hb dX9_rate_38 rfl ?_
        obtain ⟨t_9, h_10, hf⟩ := sn_bd hf
        refine sn_callVi (rest := []) C hw (ctX9_of l  h_10) kl_RX9_234 layM_0 rfl rfl rfl rfl (Nat.le_of_ble_eq_true rfl) dX9_rate_39 hl.1 (fun H locs hw => ?_)
        refine lv_istore_n (lv' := [(3, .int t_9), (0, .ref (ad 0)), (1, .int x1), (2, .int x2)]) hx hb dX9_rate_42 rfl hl (by decide) rfl (fun ls hl => ?_)
        refine lv_aload_n hx hb dX9_rate_43 rfl (lv_at hl 1 rfl) ?_
        refine sn_getC (r := 1) C hw fd_RX9_9 layM_0 rfl dX9_rate_44 ?_
        refine lv_bipush (v := 49) hx hb dX9_rate_47 (by decide) ?_
        refine lv_iconst (v := 5) hx hb dX9_rate_49 rfl ?_
        refine lv_iload_n hx hb dX9_rate_50 rfl (lv_at hl 2 rfl) ?_
        refine lv_imul hx hb dX9_rate_51 ?_
        refine lv_iadd hx hb dX9_rate_52 ?_
        refine lv_iconst (v := 4) hx hb dX9_rate_53 rfl ?_
        refine lv_iadd hx hb dX9_rate_54 ?_
        refine lv_iload_n hx hb dX9_rate_55 rfl (lv_at hl 3 rfl) ?_
        obtain ⟨g_11, hf⟩ := sn_gdE hf
        refine sn_iast C hw layM_1 g_11 dX9_rate_56 (fun H locs hw => ?_)
        obtain ⟨σ_12, e_13, hf⟩ := sn_ltE hf
        rw [← e_13] at hw
        refine lv_iload_n hx hb dX9_rate_57 rfl (lv_at hl 0 rfl) ?_
        cases hf
        exact kr _ _ _ _ hw rfl dX9_rate_58
      · have hf := sn_el c_8 hf
        refine lv_bipush (v := (-5)) hx hb dX9_rate_33 (by decide) ?_
        cases hf
        exact kr _ _ _ _ hw rfl dX9_rate_35
    · have hf := sn_if c_6 hf
      refine lv_bipush (v := (-2)) hx hb dX9_rate_20 (by decide) ?_
      cases hf
      exact kr _ _ _ _ hw rfl dX9_rate_22
theorem ctX9_rate (l : Launch) {σ : sn_S} {x1 : Int32} {x2 : Int32}  {o : (Int32 × sn_S)} (hf : fX9_rate σ x1 x2 = some o) : sn_M l yX9_rate cX9_rate 4 (some .int) rmX9_rate layM (fun ad => [.ref (ad 0), .int x1, .int x2]) σ (some (fun _ => .int o.1)) o.2 :=
  sn_met (by decide) (fun _ => Nat.le_of_ble_eq_true rfl) (fun p e s m args below meth c ls D ct ad A C hw hl => wX9_rate_in C  hf (fun H locs ls pc hw ok hd => sn_iret C hw hd) _ _ _ hw hl)
-- X9_count
abbrev rmX9_count : Room := { frames := 1, cells := 0, slots := 0, locals := 25 }
def BX9_count_71 (σ : sn_S) (x2 : Int32) : Option (Int32) :=
  (some x2)
def BX9_count_63 (σ : sn_S) (x2 : Int32) (x3 : Int32) (t0 : Int32) (t1 : Int32) : Option ((Int32 × Int32) ⊕ (Int32)) :=
  (sn_lt (t0 + t1) fun y_1 => (sn_lt (x3 + 1) fun y_3 => (some (.inl (y_1, y_3)))))
def BX9_count_42 (σ : sn_S) (x2 : Int32) (x3 : Int32) : Option ((Int32 × Int32) ⊕ (Int32)) :=
  (if (4 : Int32) ≤ x3 then
  (some (.inr (x2)))
  else
  (sn_gd (sn_in x3 4) (if (sn_I σ 21 x3.toNatClampNeg) = (-1 : Int32) then
  (BX9_count_63 σ x2 x3 x2 (0 : Int32))
  else
  (BX9_count_63 σ x2 x3 x2 (1 : Int32)))))
def LX9_count_42 (σ : sn_S) (s : Int32 × Int32) : Option ((Int32 × Int32) ⊕ (Int32)) := BX9_count_42 σ s.1 s.2
def fX9_count (σ : sn_S) (x1 : Int32) : Option Int32 :=
  ((fX9_in x1.toInt64 (0 : Int64) (10 : Int64)).bind fun t_1 => (if t_1 = 0 then
  (if x1 = (11 : Int32) then
  (some (sn_I σ 0 5))
  else
  (if x1 = (12 : Int32) then
  ((sn_it (LX9_count_42 σ) 5000 ((0 : Int32), (0 : Int32))).bind fun t_6 => (BX9_count_71 σ t_6))
  else
  (some (-1 : Int32))))
  else
  (sn_gd (sn_in x1 119) (some (sn_I σ 1 x1.toNatClampNeg)))))
theorem wX9_count_71 (C : sn_C p s m args meth c RX9 cX9_count 4 (some .int) D ct ad layM A) {σ : sn_S} {x2 : Int32}  {o : Int32} (hf : BX9_count_71 σ x2 = some o) (kr : sn_Kr p l e rmX9_count s m args below meth c Q D ct ad layM A cX9_count .ireturn (true) σ [.int o]) : sn_At p l e rmX9_count s m args below meth c Q D ct ad layM A 4 σ 71 [(2, .int x2)] [] := by
  intro H locs ls hw hl
  have hx := C.1
  have hb := C.2.1
  unfold BX9_count_71 at hf
  refine lv_iload_n hx hb dX9_count_71 rfl (lv_at hl 0 rfl) ?_
  cases hf
  exact kr _ _ _ _ hw rfl dX9_count_72
theorem wX9_count_63 (C : sn_C p s m args meth c RX9 cX9_count 4 (some .int) D ct ad layM A) {σ : sn_S} {x2 : Int32} {x3 : Int32} {t0 : Int32} {t1 : Int32}  {o : (Int32 × Int32) ⊕ (Int32)} (hf : BX9_count_63 σ x2 x3 t0 t1 = some o) (kc : ∀ v, o = .inl v → sn_At p l e rmX9_count s m args below meth c Q D ct ad layM A 4 σ 42 [(0, .ref (ad 0)), (2, .int v.1), (3, .int v.2)] []) (kx : ∀ v, o = .inr v → sn_At p l e rmX9_count s m args below meth c Q D ct ad layM A 4 σ 71 [(2, .int v)] []) : sn_At p l e rmX9_count s m args below meth c Q D ct ad layM A 4 σ 63 [(0, .ref (ad 0)), (2, .int x2), (3, .int x3)] [.int t1, .int t0] := by
  intro H locs ls hw hl
  have hx := C.1
  have hb := C.2.1
  unfold BX9_count_63 at hf
  refine lv_iadd hx hb dX9_count_63 ?_
  obtain ⟨y_1, e_2, hf⟩ := sn_ltE hf
  refine lv_topi (fun y_1_ e_2_ => ?_)
  obtain rfl : y_1 = y_1_ := e_2.trans e_2_.symm
  refine lv_istore_n (lv' := [(2, .int y_1), (0, .ref (ad 0)), (3, .int x3)]) hx hb dX9_count_64 rfl hl (by decide) rfl (fun ls hl => ?_)
  obtain ⟨y_3, e_4, hf⟩ := sn_ltE hf
  refine lv_iinc (v := y_3) (lv' := [(3, .int y_3), (2, .int y_1), (0, .ref (ad 0))]) hx hb dX9_count_65 hl (k := 2) rfl (by rw [e_4]; rfl) (by decide) rfl (fun ls hl => ?_)
  refine lv_goto (tgt := 42) hx hb dX9_count_68 (by decide) ?_
  cases hf
  exact kc _ rfl _ _ _ hw (lv_sub hl [2, 1, 0] rfl)
theorem wX9_count_42 (C : sn_C p s m args meth c RX9 cX9_count 4 (some .int) D ct ad layM A) {σ : sn_S} {x2 : Int32} {x3 : Int32}  {o : (Int32 × Int32) ⊕ (Int32)} (hf : BX9_count_42 σ x2 x3 = some o) (kc : ∀ v, o = .inl v → sn_At p l e rmX9_count s m args below meth c Q D ct ad layM A 4 σ 42 [(0, .ref (ad 0)), (2, .int v.1), (3, .int v.2)] []) (kx : ∀ v, o = .inr v → sn_At p l e rmX9_count s m args below meth c Q D ct ad layM A 4 σ 71 [(2, .int v)] []) : sn_At p l e rmX9_count s m args below meth c Q D ct ad layM A 4 σ 42 [(0, .ref (ad 0)), (2, .int x2), (3, .int x3)] [] := by
  intro H locs ls hw hl
  have hx := C.1
  have hb := C.2.1
  unfold BX9_count_42 at hf
  refine lv_iload_n hx hb dX9_count_42 rfl (lv_at hl 2 rfl) ?_
  refine lv_iconst (v := 4) hx hb dX9_count_43 rfl ?_
  refine lv_icmp_ge (tgt := 71) hx hb dX9_count_44 (by decide) (fun c_1 => ?_) (fun c_1 => ?_)
  · have hf := sn_if c_1 hf
    cases hf
    exact kx _ rfl _ _ _ hw (lv_sub hl [1] rfl)
  · have hf := sn_el c_1 hf
    refine lv_iload_n hx hb dX9_count_47 rfl (lv_at hl 1 rfl) ?_
    refine lv_aload_n hx hb dX9_count_48 rfl (lv_at hl 0 rfl) ?_
    refine sn_getC (r := 21) C hw fd_RX9_76 layM_0 rfl dX9_count_49 ?_
    refine lv_iload_n hx hb dX9_count_52 rfl (lv_at hl 2 rfl) ?_
    obtain ⟨g_2, hf⟩ := sn_gdE hf
    refine sn_iald C hw layM_21 g_2 dX9_count_53 ?_
    refine lv_iconst (v := (-1)) hx hb dX9_count_54 rfl ?_
    refine lv_icmp_ne (tgt := 62) hx hb dX9_count_55 (by decide) (fun c_3 => ?_) (fun c_3 => ?_)
    · have hf := sn_el c_3 hf
      refine lv_iconst (v := 1) hx hb dX9_count_62 rfl ?_
      exact wX9_count_63 C  hf kc kx _ _ _ hw (lv_sub hl [0, 1, 2] rfl)
    · have hf := sn_if c_3 hf
      refine lv_iconst (v := 0) hx hb dX9_count_58 rfl ?_
      refine lv_goto (tgt := 63) hx hb dX9_count_59 (by decide) ?_
      exact wX9_count_63 C  hf kc kx _ _ _ hw (lv_sub hl [0, 1, 2] rfl)
theorem wX9_count_L42 (C : sn_C p s m args meth c RX9 cX9_count 4 (some .int) D ct ad layM A) {σ : sn_S}   {z : Int32 × Int32} {t : Int32} (h : sn_it (LX9_count_42 σ) 5000 z = some t) (kx : ∀ v, t = v → sn_At p l e rmX9_count s m args below meth c Q D ct ad layM A 4 σ 71 [(2, .int v)] []) : sn_At p l e rmX9_count s m args below meth c Q D ct ad layM A 4 σ 42 [(0, .ref (ad 0)), (2, .int z.1), (3, .int z.2)] [] :=
  sn_loop (f := LX9_count_42 σ) (G := fun z => sn_At p l e rmX9_count s m args below meth c Q D ct ad layM A 4 σ 42 [(0, .ref (ad 0)), (2, .int z.1), (3, .int z.2)] []) (E := fun t => (∀ v, t = v → sn_At p l e rmX9_count s m args below meth c Q D ct ad layM A 4 σ 71 [(2, .int v)] []) ∧ True) (fun z o hf k1 k2 => wX9_count_42 C  hf (fun v e => k1 v e) (fun v e => (k2 _ e).1 v rfl)) 5000 z t h ⟨kx, trivial⟩
theorem wX9_count_in (C : sn_C p s m args meth c RX9 cX9_count 4 (some .int) D ct ad layM A) {σ : sn_S} {x1 : Int32}  {o : Int32} (hf : fX9_count σ x1 = some o) (kr : sn_Kr p l e rmX9_count s m args below meth c Q D ct ad layM A cX9_count .ireturn (true) σ [.int o]) : sn_At p l e rmX9_count s m args below meth c Q D ct ad layM A 4 σ 0 [(0, .ref (ad 0)), (1, .int x1)] [] := by
  intro H locs ls hw hl
  have hx := C.1
  have hb := C.2.1
  unfold fX9_count at hf
  refine lv_iload_n hx hb dX9_count_0 rfl (lv_at hl 1 rfl) ?_
  refine lv_i2l hx hb dX9_count_1 rfl ?_
  refine lv_lconst (v := 0) hx hb dX9_count_2 rfl ?_
  refine lv_ldc2 hx hb C.2.2.2.1 (C.2.2.2.2.1 _ kk_RX9_437) dX9_count_3 ?_
  obtain ⟨t_1, h_2, hf⟩ := sn_bd hf
  refine sn_callSi (rest := []) C hw (ctX9_in l  h_2) kl_RX9_94 rfl rfl rfl (Nat.le_of_ble_eq_true rfl) dX9_count_6 hl.1 (fun H locs hw => ?_)
  refine lv_if_eq (tgt := 19) hx hb dX9_count_9 (by decide) (fun c_3 => ?_) (fun c_3 => ?_)
  · have hf := sn_if c_3 hf
    refine lv_iload_n hx hb dX9_count_19 rfl (lv_at hl 1 rfl) ?_
    refine lv_bipush (v := 11) hx hb dX9_count_20 (by decide) ?_
    refine lv_icmp_ne (tgt := 30) hx hb dX9_count_22 (by decide) (fun c_4 => ?_) (fun c_4 => ?_)
    · have hf := sn_el c_4 hf
      refine lv_iload_n hx hb dX9_count_30 rfl (lv_at hl 1 rfl) ?_
      refine lv_bipush (v := 12) hx hb dX9_count_31 (by decide) ?_
      refine lv_icmp_eq (tgt := 38) hx hb dX9_count_33 (by decide) (fun c_5 => ?_) (fun c_5 => ?_)
      · have hf := sn_if c_5 hf
        refine lv_iconst (v := 0) hx hb dX9_count_38 rfl ?_
        refine lv_istore_n (lv' := [(2, .int (0 : Int32)), (0, .ref (ad 0)), (1, .int x1)]) hx hb dX9_count_39 rfl hl (by decide) rfl (fun ls hl => ?_)
        refine lv_iconst (v := 0) hx hb dX9_count_40 rfl ?_
        refine lv_istore_n (lv' := [(3, .int (0 : Int32)), (2, .int (0 : Int32)), (0, .ref (ad 0)), (1, .int x1)]) hx hb dX9_count_41 rfl hl (by decide) rfl (fun ls hl => ?_)
        obtain ⟨t_6, h_7, hf⟩ := sn_bd hf
        exact wX9_count_L42 C  h_7 (fun v e => by cases e; exact wX9_count_71 C  hf kr) _ _ _ hw (lv_sub hl [2, 1, 0] rfl)
      · have hf := sn_el c_5 hf
        refine lv_iconst (v := (-1)) hx hb dX9_count_36 rfl ?_
        cases hf
        exact kr _ _ _ _ hw rfl dX9_count_37
    · have hf := sn_if c_4 hf
      refine lv_aload_n hx hb dX9_count_25 rfl (lv_at hl 0 rfl) ?_
      refine sn_getI C hw fd_RX9_100 layM_0 rfl dX9_count_26 ?_
      cases hf
      exact kr _ _ _ _ hw rfl dX9_count_29
  · have hf := sn_el c_3 hf
    refine lv_aload_n hx hb dX9_count_12 rfl (lv_at hl 0 rfl) ?_
    refine sn_getC (r := 1) C hw fd_RX9_9 layM_0 rfl dX9_count_13 ?_
    refine lv_iload_n hx hb dX9_count_16 rfl (lv_at hl 1 rfl) ?_
    obtain ⟨g_8, hf⟩ := sn_gdE hf
    refine sn_iald C hw layM_1 g_8 dX9_count_17 ?_
    cases hf
    exact kr _ _ _ _ hw rfl dX9_count_18
theorem ctX9_count (l : Launch) {σ : sn_S} {x1 : Int32}  {o : Int32} (hf : fX9_count σ x1 = some o) : sn_M l yX9_count cX9_count 4 (some .int) rmX9_count layM (fun ad => [.ref (ad 0), .int x1]) σ (some (fun _ => .int o)) σ :=
  sn_met (by decide) (fun _ => Nat.le_of_ble_eq_true rfl) (fun p e s m args below meth c ls D ct ad A C hw hl => wX9_count_in C  hf (fun H locs ls pc hw ok hd => sn_iret C hw hd) _ _ _ hw hl)
-- X9_cut_
abbrev rmX9_cut_ : Room := { frames := 0, cells := 0, slots := 0, locals := 0 }
def fX9_cut_ (x0 : Int64) (x2 : Int32) : Option Int64 :=
  (sn_lt ((64 : Int32) - ((8 : Int32) <<< (x2 &&& 31))) fun y_1 => (some ((x0 <<< (y_1.toInt64 &&& 63)) >>> (y_1.toInt64 &&& 63))))
theorem wX9_cut__in (C : sn_C p s m args meth c RX9 cX9_cut_ 4 (some .long) D ct ad layM A) {σ : sn_S} {x0 : Int64} {x2 : Int32}  {o : Int64} (hf : fX9_cut_ x0 x2 = some o) (kr : sn_Kr p l e rmX9_cut_ s m args below meth c Q D ct ad layM A cX9_cut_ .lreturn (true) σ [.long o]) : sn_At p l e rmX9_cut_ s m args below meth c Q D ct ad layM A 4 σ 0 [(0, .long x0), (2, .int x2)] [] := by
  intro H locs ls hw hl
  have hx := C.1
  have hb := C.2.1
  unfold fX9_cut_ at hf
  refine lv_bipush (v := 64) hx hb dX9_cut__0 (by decide) ?_
  refine lv_bipush (v := 8) hx hb dX9_cut__2 (by decide) ?_
  refine lv_iload_n hx hb dX9_cut__4 rfl (lv_at hl 1 rfl) ?_
  refine lv_ishl hx hb dX9_cut__5 ?_
  refine lv_isub hx hb dX9_cut__6 ?_
  obtain ⟨y_1, e_2, hf⟩ := sn_ltE hf
  refine lv_topi (fun y_1_ e_2_ => ?_)
  obtain rfl : y_1 = y_1_ := e_2.trans e_2_.symm
  refine lv_istore_n (lv' := [(3, .int y_1), (0, .long x0), (2, .int x2)]) hx hb dX9_cut__7 rfl hl (by decide) rfl (fun ls hl => ?_)
  refine lv_lload_n hx hb dX9_cut__8 rfl (lv_at hl 1 rfl) ?_
  refine lv_iload_n hx hb dX9_cut__9 rfl (lv_at hl 0 rfl) ?_
  refine lv_lshl hx hb dX9_cut__10 rfl ?_
  refine lv_iload_n hx hb dX9_cut__11 rfl (lv_at hl 0 rfl) ?_
  refine lv_lshr hx hb dX9_cut__12 rfl ?_
  cases hf
  exact kr _ _ _ _ hw rfl dX9_cut__13
theorem ctX9_cut_ (l : Launch) {σ : sn_S} {x0 : Int64} {x2 : Int32}  {o : Int64} (hf : fX9_cut_ x0 x2 = some o) : sn_M l yX9_cut_ cX9_cut_ 4 (some .long) rmX9_cut_ layM (fun ad => [.long x0, .int x2]) σ (some (fun _ => .long o)) σ :=
  sn_met (by decide) (fun _ => Nat.le_of_ble_eq_true rfl) (fun p e s m args below meth c ls D ct ad A C hw hl => wX9_cut__in C  hf (fun H locs ls pc hw ok hd => sn_lret C hw hd) _ _ _ hw hl)
-- X9_row
abbrev rmX9_row : Room := { frames := 2, cells := 0, slots := 0, locals := 45 }
def BX9_row_78 (σ : sn_S) : Option ((Int32 × sn_S)) :=
  (some ((0 : Int32), σ))
def BX9_row_52 (σ : sn_S) (x1 : Int32) (x4 : Int32) : Option ((sn_S × Int32) ⊕ (sn_S)) :=
  (if (60 : Int32) ≤ x4 then
  (some (.inr (σ)))
  else
  (sn_gd (sn_in (((60 : Int32) * x1) + x4) 240) (sn_lt (sn_pL σ 23 (((60 : Int32) * x1) + x4).toNatClampNeg (0 : Int64)) fun σ_3 => (sn_lt (x4 + 1) fun y_5 => (some (.inl (σ_3, y_5)))))))
def LX9_row_52 (x1 : Int32) (s : sn_S × Int32) : Option ((sn_S × Int32) ⊕ (sn_S)) := BX9_row_52 s.1 x1 s.2
def fX9_row (σ : sn_S) (x1 : Int32) (x2 : Int32) (x3 : Int32) : Option (Int32 × sn_S) :=
  ((fX9_isSlot x1).bind fun t_1 => (if t_1 = 0 then
  (some ((-2 : Int32), σ))
  else
  ((fX9_in x2.toInt64 (0 : Int64) (3 : Int64)).bind fun t_4 => (if t_4 = 0 then
  (some ((-2 : Int32), σ))
  else
  (if x3 ≤ (60 : Int32) then
  (if 0 ≤ x3 then
  (sn_gd (sn_in x1 4) (sn_lt (sn_pI σ 21 x1.toNatClampNeg x3) fun σ_10 => (sn_gd (sn_in x1 4) (sn_lt (sn_pI σ_10 22 x1.toNatClampNeg x2) fun σ_13 => ((sn_it (LX9_row_52 x1) 5000 (σ_13, (0 : Int32))).bind fun t_15 => (BX9_row_78 t_15))))))
  else
  (some ((-3 : Int32), σ)))
  else
  (some ((-2 : Int32), σ)))))))
theorem wX9_row_78 (C : sn_C p s m args meth c RX9 cX9_row 5 (some .int) D ct ad layM A) {σ : sn_S}  {o : (Int32 × sn_S)} (hf : BX9_row_78 σ = some o) (kr : sn_Kr p l e rmX9_row s m args below meth c Q D ct ad layM A cX9_row .ireturn (true) o.2 [.int o.1]) : sn_At p l e rmX9_row s m args below meth c Q D ct ad layM A 5 σ 78 [] [] := by
  intro H locs ls hw hl
  have hx := C.1
  have hb := C.2.1
  unfold BX9_row_78 at hf
  refine lv_iconst (v := 0) hx hb dX9_row_78 rfl ?_
  cases hf
  exact kr _ _ _ _ hw rfl dX9_row_79
theorem wX9_row_52 (C : sn_C p s m args meth c RX9 cX9_row 5 (some .int) D ct ad layM A) {σ : sn_S} {x1 : Int32} {x4 : Int32}  {o : (sn_S × Int32) ⊕ (sn_S)} (hf : BX9_row_52 σ x1 x4 = some o) (kc : ∀ v, o = .inl v → sn_At p l e rmX9_row s m args below meth c Q D ct ad layM A 5 v.1 52 [(0, .ref (ad 0)), (1, .int x1), (4, .int v.2)] []) (kx : ∀ v, o = .inr v → sn_At p l e rmX9_row s m args below meth c Q D ct ad layM A 5 v 78 [] []) : sn_At p l e rmX9_row s m args below meth c Q D ct ad layM A 5 σ 52 [(0, .ref (ad 0)), (1, .int x1), (4, .int x4)] [] := by
  intro H locs ls hw hl
  have hx := C.1
  have hb := C.2.1
  unfold BX9_row_52 at hf
  refine lv_iload hx hb dX9_row_52 (lv_at hl 2 rfl) ?_
  refine lv_bipush (v := 60) hx hb dX9_row_54 (by decide) ?_
  refine lv_icmp_ge (tgt := 78) hx hb dX9_row_56 (by decide) (fun c_1 => ?_) (fun c_1 => ?_)
  · have hf := sn_if c_1 hf
    cases hf
    exact kx _ rfl _ _ _ hw (lv_sub hl [] rfl)
  · have hf := sn_el c_1 hf
    refine lv_aload_n hx hb dX9_row_59 rfl (lv_at hl 0 rfl) ?_
    refine sn_getC (r := 23) C hw fd_RX9_82 layM_0 rfl dX9_row_60 ?_
    refine lv_bipush (v := 60) hx hb dX9_row_63 (by decide) ?_
    refine lv_iload_n hx hb dX9_row_65 rfl (lv_at hl 1 rfl) ?_
    refine lv_imul hx hb dX9_row_66 ?_
    refine lv_iload hx hb dX9_row_67 (lv_at hl 2 rfl) ?_
    refine lv_iadd hx hb dX9_row_69 ?_
    refine lv_lconst (v := 0) hx hb dX9_row_70 rfl ?_
    obtain ⟨g_2, hf⟩ := sn_gdE hf
    refine sn_last C hw layM_23 g_2 dX9_row_71 (fun H locs hw => ?_)
    obtain ⟨σ_3, e_4, hf⟩ := sn_ltE hf
    rw [← e_4] at hw
    obtain ⟨y_5, e_6, hf⟩ := sn_ltE hf
    refine lv_iinc (v := y_5) (lv' := [(4, .int y_5), (0, .ref (ad 0)), (1, .int x1)]) hx hb dX9_row_72 hl (k := 2) rfl (by rw [e_6]; rfl) (by decide) rfl (fun ls hl => ?_)
    refine lv_goto (tgt := 52) hx hb dX9_row_75 (by decide) ?_
    cases hf
    exact kc _ rfl _ _ _ hw (lv_sub hl [1, 2, 0] rfl)
theorem wX9_row_L52 (C : sn_C p s m args meth c RX9 cX9_row 5 (some .int) D ct ad layM A) {x1 : Int32}   {z : sn_S × Int32} {t : sn_S} (h : sn_it (LX9_row_52 x1) 5000 z = some t) (kx : ∀ v, t = v → sn_At p l e rmX9_row s m args below meth c Q D ct ad layM A 5 v 78 [] []) : sn_At p l e rmX9_row s m args below meth c Q D ct ad layM A 5 z.1 52 [(0, .ref (ad 0)), (1, .int x1), (4, .int z.2)] [] :=
  sn_loop (f := LX9_row_52 x1) (G := fun z => sn_At p l e rmX9_row s m args below meth c Q D ct ad layM A 5 z.1 52 [(0, .ref (ad 0)), (1, .int x1), (4, .int z.2)] []) (E := fun t => (∀ v, t = v → sn_At p l e rmX9_row s m args below meth c Q D ct ad layM A 5 v 78 [] []) ∧ True) (fun z o hf k1 k2 => wX9_row_52 C  hf (fun v e => k1 v e) (fun v e => (k2 _ e).1 v rfl)) 5000 z t h ⟨kx, trivial⟩
theorem wX9_row_in (C : sn_C p s m args meth c RX9 cX9_row 5 (some .int) D ct ad layM A) {σ : sn_S} {x1 : Int32} {x2 : Int32} {x3 : Int32}  {o : (Int32 × sn_S)} (hf : fX9_row σ x1 x2 x3 = some o) (kr : sn_Kr p l e rmX9_row s m args below meth c Q D ct ad layM A cX9_row .ireturn (true) o.2 [.int o.1]) : sn_At p l e rmX9_row s m args below meth c Q D ct ad layM A 5 σ 0 [(0, .ref (ad 0)), (1, .int x1), (2, .int x2), (3, .int x3)] [] := by
  intro H locs ls hw hl
  have hx := C.1
  have hb := C.2.1
  unfold fX9_row at hf
  refine lv_iload_n hx hb dX9_row_0 rfl (lv_at hl 1 rfl) ?_
  obtain ⟨t_1, h_2, hf⟩ := sn_bd hf
  refine sn_callSi (rest := []) C hw (ctX9_isSlot l  h_2) kl_RX9_365 rfl rfl rfl (Nat.le_of_ble_eq_true rfl) dX9_row_1 hl.1 (fun H locs hw => ?_)
  refine lv_if_eq (tgt := 25) hx hb dX9_row_4 (by decide) (fun c_3 => ?_) (fun c_3 => ?_)
  · have hf := sn_if c_3 hf
    refine lv_bipush (v := (-2)) hx hb dX9_row_25 (by decide) ?_
    cases hf
    exact kr _ _ _ _ hw rfl dX9_row_27
  · have hf := sn_el c_3 hf
    refine lv_iload_n hx hb dX9_row_7 rfl (lv_at hl 2 rfl) ?_
    refine lv_i2l hx hb dX9_row_8 rfl ?_
    refine lv_lconst (v := 0) hx hb dX9_row_9 rfl ?_
    refine lv_ldc2 hx hb C.2.2.2.1 (C.2.2.2.2.1 _ kk_RX9_98) dX9_row_10 ?_
    obtain ⟨t_4, h_5, hf⟩ := sn_bd hf
    refine sn_callSi (rest := []) C hw (ctX9_in l  h_5) kl_RX9_94 rfl rfl rfl (Nat.le_of_ble_eq_true rfl) dX9_row_13 hl.1 (fun H locs hw => ?_)
    refine lv_if_eq (tgt := 25) hx hb dX9_row_16 (by decide) (fun c_6 => ?_) (fun c_6 => ?_)
    · have hf := sn_if c_6 hf
      refine lv_bipush (v := (-2)) hx hb dX9_row_25 (by decide) ?_
      cases hf
      exact kr _ _ _ _ hw rfl dX9_row_27
    · have hf := sn_el c_6 hf
      refine lv_iload_n hx hb dX9_row_19 rfl (lv_at hl 3 rfl) ?_
      refine lv_bipush (v := 60) hx hb dX9_row_20 (by decide) ?_
      refine lv_icmp_le (tgt := 28) hx hb dX9_row_22 (by decide) (fun c_7 => ?_) (fun c_7 => ?_)
      · have hf := sn_if c_7 hf
        refine lv_iload_n hx hb dX9_row_28 rfl (lv_at hl 3 rfl) ?_
        refine lv_if_ge (tgt := 35) hx hb dX9_row_29 (by decide) (fun c_8 => ?_) (fun c_8 => ?_)
        · have hf := sn_if c_8 hf
          refine lv_aload_n hx hb dX9_row_35 rfl (lv_at hl 0 rfl) ?_
          refine sn_getC (r := 21) C hw fd_RX9_76 layM_0 rfl dX9_row_36 ?_
          refine lv_iload_n hx hb dX9_row_39 rfl (lv_at hl 1 rfl) ?_
          refine lv_iload_n hx hb dX9_row_40 rfl (lv_at hl 3 rfl) ?_
          obtain ⟨g_9, hf⟩ := sn_gdE hf
          refine sn_iast C hw layM_21 g_9 dX9_row_41 (fun H locs hw => ?_)
          obtain ⟨σ_10, e_11, hf⟩ := sn_ltE hf
          rw [← e_11] at hw
          refine lv_aload_n hx hb dX9_row_42 rfl (lv_at hl 0 rfl) ?_
          refine sn_getC (r := 22) C hw fd_RX9_79 layM_0 rfl dX9_row_43 ?_
          refine lv_iload_n hx hb dX9_row_46 rfl (lv_at hl 1 rfl) ?_
          refine lv_iload_n hx hb dX9_row_47 rfl (lv_at hl 2 rfl) ?_
          obtain ⟨g_12, hf⟩ := sn_gdE hf
          refine sn_iast C hw layM_22 g_12 dX9_row_48 (fun H locs hw => ?_)
          obtain ⟨σ_13, e_14, hf⟩ := sn_ltE hf
          rw [← e_14] at hw
          refine lv_iconst (v := 0) hx hb dX9_row_49 rfl ?_
          refine lv_istore (lv' := [(4, .int (0 : Int32)), (0, .ref (ad 0)), (1, .int x1), (2, .int x2), (3, .int x3)]) hx hb dX9_row_50 hl (by decide) rfl (fun ls hl => ?_)
          obtain ⟨t_15, h_16, hf⟩ := sn_bd hf
          exact wX9_row_L52 C  h_16 (fun v e => by cases e; exact wX9_row_78 C  hf kr) _ _ _ hw (lv_sub hl [1, 2, 0] rfl)
        · have hf := sn_el c_8 hf
          refine lv_bipush (v := (-3)) hx hb dX9_row_32 (by decide) ?_
          cases hf
          exact kr _ _ _ _ hw rfl dX9_row_34
      · have hf := sn_el c_7 hf
        refine lv_bipush (v := (-2)) hx hb dX9_row_25 (by decide) ?_
        cases hf
        exact kr _ _ _ _ hw rfl dX9_row_27
theorem ctX9_row (l : Launch) {σ : sn_S} {x1 : Int32} {x2 : Int32} {x3 : Int32}  {o : (Int32 × sn_S)} (hf : fX9_row σ x1 x2 x3 = some o) : sn_M l yX9_row cX9_row 5 (some .int) rmX9_row layM (fun ad => [.ref (ad 0), .int x1, .int x2, .int x3]) σ (some (fun _ => .int o.1)) o.2 :=
  sn_met (by decide) (fun _ => Nat.le_of_ble_eq_true rfl) (fun p e s m args below meth c ls D ct ad A C hw hl => wX9_row_in C  hf (fun H locs ls pc hw ok hd => sn_iret C hw hd) _ _ _ hw hl)
-- X9_write
abbrev rmX9_write : Room := { frames := 2, cells := 0, slots := 0, locals := 45 }
def fX9_write (σ : sn_S) (x1 : Int32) (x2 : Int32) (x3 : Int64) : Option (Int32 × sn_S) :=
  ((fX9_isSlot x1).bind fun t_1 => (if t_1 = 0 then
  (some ((-2 : Int32), σ))
  else
  (sn_gd (sn_in x1 4) (if (sn_I σ 21 x1.toNatClampNeg) = (-1 : Int32) then
  (some ((-6 : Int32), σ))
  else
  (sn_gd (sn_in x1 4) ((fX9_in x2.toInt64 (0 : Int64) (((sn_I σ 21 x1.toNatClampNeg) - (1 : Int32)).toInt64)).bind fun t_7 => (if t_7 = 0 then
  (some ((-7 : Int32), σ))
  else
  (sn_gd (sn_in x1 4) ((fX9_cut_ x3 (sn_I σ 22 x1.toNatClampNeg)).bind fun t_11 => (sn_gd (sn_in (((60 : Int32) * x1) + x2) 240) (sn_lt (sn_pL σ 23 (((60 : Int32) * x1) + x2).toNatClampNeg t_11) fun σ_14 => (some ((0 : Int32), σ_14)))))))))))))
theorem wX9_write_in (C : sn_C p s m args meth c RX9 cX9_write 5 (some .int) D ct ad layM A) {σ : sn_S} {x1 : Int32} {x2 : Int32} {x3 : Int64}  {o : (Int32 × sn_S)} (hf : fX9_write σ x1 x2 x3 = some o) (kr : sn_Kr p l e rmX9_write s m args below meth c Q D ct ad layM A cX9_write .ireturn (true) o.2 [.int o.1]) : sn_At p l e rmX9_write s m args below meth c Q D ct ad layM A 5 σ 0 [(0, .ref (ad 0)), (1, .int x1), (2, .int x2), (3, .long x3)] [] := by
  intro H locs ls hw hl
  have hx := C.1
  have hb := C.2.1
  unfold fX9_write at hf
  refine lv_iload_n hx hb dX9_write_0 rfl (lv_at hl 1 rfl) ?_
  obtain ⟨t_1, h_2, hf⟩ := sn_bd hf
  refine sn_callSi (rest := []) C hw (ctX9_isSlot l  h_2) kl_RX9_365 rfl rfl rfl (Nat.le_of_ble_eq_true rfl) dX9_write_1 hl.1 (fun H locs hw => ?_)
  refine lv_if_ne (tgt := 10) hx hb dX9_write_4 (by decide) (fun c_3 => ?_) (fun c_3 => ?_)
  · have hf := sn_el c_3 hf
    refine lv_aload_n hx hb dX9_write_10 rfl (lv_at hl 0 rfl) ?_
    refine sn_getC (r := 21) C hw fd_RX9_76 layM_0 rfl dX9_write_11 ?_
    refine lv_iload_n hx hb dX9_write_14 rfl (lv_at hl 1 rfl) ?_
    obtain ⟨g_4, hf⟩ := sn_gdE hf
    refine sn_iald C hw layM_21 g_4 dX9_write_15 ?_
    refine lv_iconst (v := (-1)) hx hb dX9_write_16 rfl ?_
    refine lv_icmp_ne (tgt := 23) hx hb dX9_write_17 (by decide) (fun c_5 => ?_) (fun c_5 => ?_)
    · have hf := sn_el c_5 hf
      refine lv_iload_n hx hb dX9_write_23 rfl (lv_at hl 2 rfl) ?_
      refine lv_i2l hx hb dX9_write_24 rfl ?_
      refine lv_lconst (v := 0) hx hb dX9_write_25 rfl ?_
      refine lv_aload_n hx hb dX9_write_26 rfl (lv_at hl 0 rfl) ?_
      refine sn_getC (r := 21) C hw fd_RX9_76 layM_0 rfl dX9_write_27 ?_
      refine lv_iload_n hx hb dX9_write_30 rfl (lv_at hl 1 rfl) ?_
      obtain ⟨g_6, hf⟩ := sn_gdE hf
      refine sn_iald C hw layM_21 g_6 dX9_write_31 ?_
      refine lv_iconst (v := 1) hx hb dX9_write_32 rfl ?_
      refine lv_isub hx hb dX9_write_33 ?_
      refine lv_i2l hx hb dX9_write_34 rfl ?_
      obtain ⟨t_7, h_8, hf⟩ := sn_bd hf
      refine sn_callSi (rest := []) C hw (ctX9_in l  h_8) kl_RX9_94 rfl rfl rfl (Nat.le_of_ble_eq_true rfl) dX9_write_35 hl.1 (fun H locs hw => ?_)
      refine lv_if_ne (tgt := 44) hx hb dX9_write_38 (by decide) (fun c_9 => ?_) (fun c_9 => ?_)
      · have hf := sn_el c_9 hf
        refine lv_aload_n hx hb dX9_write_44 rfl (lv_at hl 0 rfl) ?_
        refine sn_getC (r := 23) C hw fd_RX9_82 layM_0 rfl dX9_write_45 ?_
        refine lv_bipush (v := 60) hx hb dX9_write_48 (by decide) ?_
        refine lv_iload_n hx hb dX9_write_50 rfl (lv_at hl 1 rfl) ?_
        refine lv_imul hx hb dX9_write_51 ?_
        refine lv_iload_n hx hb dX9_write_52 rfl (lv_at hl 2 rfl) ?_
        refine lv_iadd hx hb dX9_write_53 ?_
        refine lv_lload_n hx hb dX9_write_54 rfl (lv_at hl 3 rfl) ?_
        refine lv_aload_n hx hb dX9_write_55 rfl (lv_at hl 0 rfl) ?_
        refine sn_getC (r := 22) C hw fd_RX9_79 layM_0 rfl dX9_write_56 ?_
        refine lv_iload_n hx hb dX9_write_59 rfl (lv_at hl 1 rfl) ?_
        obtain ⟨g_10, hf⟩ := sn_gdE hf
        refine sn_iald C hw layM_22 g_10 dX9_write_60 ?_
        obtain ⟨t_11, h_12, hf⟩ := sn_bd hf
        refine sn_callSl (rest := [.int (((60 : Int32) * x1) + x2), .ref (ad 23)]) C hw (ctX9_cut_ l  h_12) kl_RX9_452 rfl rfl rfl (Nat.le_of_ble_eq_true rfl) dX9_write_61 hl.1 (fun H locs hw => ?_)
        obtain ⟨g_13, hf⟩ := sn_gdE hf
        refine sn_last C hw layM_23 g_13 dX9_write_64 (fun H locs hw => ?_)
        obtain ⟨σ_14, e_15, hf⟩ := sn_ltE hf
        rw [← e_15] at hw
        refine lv_iconst (v := 0) hx hb dX9_write_65 rfl ?_
        cases hf
        exact kr _ _ _ _ hw rfl dX9_write_66
      · have hf := sn_if c_9 hf
        refine lv_bipush (v := (-7)) hx hb dX9_write_41 (by decide) ?_
        cases hf
        exact kr _ _ _ _ hw rfl dX9_write_43
    · have hf := sn_if c_5 hf
      refine lv_bipush (v := (-6)) hx hb dX9_write_20 (by decide) ?_
      cases hf
      exact kr _ _ _ _ hw rfl dX9_write_22
  · have hf := sn_if c_3 hf
    refine lv_bipush (v := (-2)) hx hb dX9_write_7 (by decide) ?_
    cases hf
    exact kr _ _ _ _ hw rfl dX9_write_9
theorem ctX9_write (l : Launch) {σ : sn_S} {x1 : Int32} {x2 : Int32} {x3 : Int64}  {o : (Int32 × sn_S)} (hf : fX9_write σ x1 x2 x3 = some o) : sn_M l yX9_write cX9_write 5 (some .int) rmX9_write layM (fun ad => [.ref (ad 0), .int x1, .int x2, .long x3]) σ (some (fun _ => .int o.1)) o.2 :=
  sn_met (by decide) (fun _ => Nat.le_of_ble_eq_true rfl) (fun p e s m args below meth c ls D ct ad A C hw hl => wX9_write_in C  hf (fun H locs ls pc hw ok hd => sn_iret C hw hd) _ _ _ hw hl)
-- X9_paste
abbrev rmX9_paste : Room := { frames := 2, cells := 0, slots := 0, locals := 45 }
def BX9_paste_185 (σ : sn_S) : Option ((Int32 × sn_S)) :=
  (some ((0 : Int32), σ))
def BX9_paste_150 (σ : sn_S) (x3 : Int32) (x4 : Int32) (x5 : Int32) (x6 : Int32) : Option ((sn_S × Int32) ⊕ (sn_S)) :=
  (if x5 ≤ x6 then
  (some (.inr (σ)))
  else
  (sn_gd (sn_in x6 60) (sn_gd (sn_in ((((60 : Int32) * x3) + x4) + x6) 240) (sn_lt (sn_pL σ 23 ((((60 : Int32) * x3) + x4) + x6).toNatClampNeg (sn_L σ 24 x6.toNatClampNeg)) fun σ_4 => (sn_lt (x6 + 1) fun y_6 => (some (.inl (σ_4, y_6))))))))
def LX9_paste_150 (x3 : Int32) (x4 : Int32) (x5 : Int32) (s : sn_S × Int32) : Option ((sn_S × Int32) ⊕ (sn_S)) := BX9_paste_150 s.1 x3 x4 x5 s.2
def BX9_paste_147 (σ : sn_S) (x3 : Int32) (x4 : Int32) (x5 : Int32) : Option ((Int32 × sn_S)) :=
  ((sn_it (LX9_paste_150 x3 x4 x5) 5000 (σ, (0 : Int32))).bind fun t_1 => (BX9_paste_185 t_1))
def BX9_paste_113 (σ : sn_S) (x1 : Int32) (x2 : Int32) (x3 : Int32) (x4 : Int32) (x5 : Int32) (x6 : Int32) : Option ((sn_S × Int32) ⊕ (sn_S)) :=
  (if x5 ≤ x6 then
  (some (.inr (σ)))
  else
  (sn_gd (sn_in ((((60 : Int32) * x1) + x2) + x6) 240) (sn_gd (sn_in x6 60) (sn_lt (sn_pL σ 24 x6.toNatClampNeg (sn_L σ 23 ((((60 : Int32) * x1) + x2) + x6).toNatClampNeg)) fun σ_4 => (sn_lt (x6 + 1) fun y_6 => (some (.inl (σ_4, y_6))))))))
def LX9_paste_113 (x1 : Int32) (x2 : Int32) (x3 : Int32) (x4 : Int32) (x5 : Int32) (s : sn_S × Int32) : Option ((sn_S × Int32) ⊕ (sn_S)) := BX9_paste_113 s.1 x1 x2 x3 x4 x5 s.2
def fX9_paste (σ : sn_S) (x1 : Int32) (x2 : Int32) (x3 : Int32) (x4 : Int32) (x5 : Int32) : Option (Int32 × sn_S) :=
  ((fX9_isSlot x1).bind fun t_1 => (if t_1 = 0 then
  (some ((-2 : Int32), σ))
  else
  ((fX9_isSlot x3).bind fun t_4 => (if t_4 = 0 then
  (some ((-2 : Int32), σ))
  else
  (sn_gd (sn_in x1 4) (if (sn_I σ 21 x1.toNatClampNeg) = (-1 : Int32) then
  (some ((-6 : Int32), σ))
  else
  (sn_gd (sn_in x3 4) (if (sn_I σ 21 x3.toNatClampNeg) = (-1 : Int32) then
  (some ((-6 : Int32), σ))
  else
  (sn_gd (sn_in x1 4) (sn_gd (sn_in x3 4) (if (sn_I σ 22 x1.toNatClampNeg) = (sn_I σ 22 x3.toNatClampNeg) then
  (if x2 < 0 then
  (some ((-7 : Int32), σ))
  else
  (if x4 < 0 then
  (some ((-7 : Int32), σ))
  else
  (if x5 < 0 then
  (some ((-7 : Int32), σ))
  else
  (sn_gd (sn_in x1 4) (if 0 < (lg_cmp (x2.toInt64 + x5.toInt64) ((sn_I σ 21 x1.toNatClampNeg).toInt64)) then
  (some ((-7 : Int32), σ))
  else
  (sn_gd (sn_in x3 4) (if (lg_cmp (x4.toInt64 + x5.toInt64) ((sn_I σ 21 x3.toNatClampNeg).toInt64)) ≤ 0 then
  ((sn_it (LX9_paste_113 x1 x2 x3 x4 x5) 5000 (σ, (0 : Int32))).bind fun t_21 => (BX9_paste_147 t_21 x3 x4 x5))
  else
  (some ((-7 : Int32), σ)))))))))
  else
  (some ((-8 : Int32), σ)))))))))))))
theorem wX9_paste_185 (C : sn_C p s m args meth c RX9 cX9_paste 7 (some .int) D ct ad layM A) {σ : sn_S}  {o : (Int32 × sn_S)} (hf : BX9_paste_185 σ = some o) (kr : sn_Kr p l e rmX9_paste s m args below meth c Q D ct ad layM A cX9_paste .ireturn (true) o.2 [.int o.1]) : sn_At p l e rmX9_paste s m args below meth c Q D ct ad layM A 7 σ 185 [] [] := by
  intro H locs ls hw hl
  have hx := C.1
  have hb := C.2.1
  unfold BX9_paste_185 at hf
  refine lv_iconst (v := 0) hx hb dX9_paste_185 rfl ?_
  cases hf
  exact kr _ _ _ _ hw rfl dX9_paste_186
theorem wX9_paste_150 (C : sn_C p s m args meth c RX9 cX9_paste 7 (some .int) D ct ad layM A) {σ : sn_S} {x3 : Int32} {x4 : Int32} {x5 : Int32} {x6 : Int32}  {o : (sn_S × Int32) ⊕ (sn_S)} (hf : BX9_paste_150 σ x3 x4 x5 x6 = some o) (kc : ∀ v, o = .inl v → sn_At p l e rmX9_paste s m args below meth c Q D ct ad layM A 7 v.1 150 [(0, .ref (ad 0)), (3, .int x3), (4, .int x4), (5, .int x5), (6, .int v.2)] []) (kx : ∀ v, o = .inr v → sn_At p l e rmX9_paste s m args below meth c Q D ct ad layM A 7 v 185 [] []) : sn_At p l e rmX9_paste s m args below meth c Q D ct ad layM A 7 σ 150 [(0, .ref (ad 0)), (3, .int x3), (4, .int x4), (5, .int x5), (6, .int x6)] [] := by
  intro H locs ls hw hl
  have hx := C.1
  have hb := C.2.1
  unfold BX9_paste_150 at hf
  refine lv_iload hx hb dX9_paste_150 (lv_at hl 4 rfl) ?_
  refine lv_iload hx hb dX9_paste_152 (lv_at hl 3 rfl) ?_
  refine lv_icmp_ge (tgt := 185) hx hb dX9_paste_154 (by decide) (fun c_1 => ?_) (fun c_1 => ?_)
  · have hf := sn_if c_1 hf
    cases hf
    exact kx _ rfl _ _ _ hw (lv_sub hl [] rfl)
  · have hf := sn_el c_1 hf
    refine lv_aload_n hx hb dX9_paste_157 rfl (lv_at hl 0 rfl) ?_
    refine sn_getC (r := 23) C hw fd_RX9_82 layM_0 rfl dX9_paste_158 ?_
    refine lv_bipush (v := 60) hx hb dX9_paste_161 (by decide) ?_
    refine lv_iload_n hx hb dX9_paste_163 rfl (lv_at hl 1 rfl) ?_
    refine lv_imul hx hb dX9_paste_164 ?_
    refine lv_iload hx hb dX9_paste_165 (lv_at hl 2 rfl) ?_
    refine lv_iadd hx hb dX9_paste_167 ?_
    refine lv_iload hx hb dX9_paste_168 (lv_at hl 4 rfl) ?_
    refine lv_iadd hx hb dX9_paste_170 ?_
    refine lv_aload_n hx hb dX9_paste_171 rfl (lv_at hl 0 rfl) ?_
    refine sn_getC (r := 24) C hw fd_RX9_86 layM_0 rfl dX9_paste_172 ?_
    refine lv_iload hx hb dX9_paste_175 (lv_at hl 4 rfl) ?_
    obtain ⟨g_2, hf⟩ := sn_gdE hf
    refine sn_lald C hw layM_24 g_2 dX9_paste_177 ?_
    obtain ⟨g_3, hf⟩ := sn_gdE hf
    refine sn_last C hw layM_23 g_3 dX9_paste_178 (fun H locs hw => ?_)
    obtain ⟨σ_4, e_5, hf⟩ := sn_ltE hf
    rw [← e_5] at hw
    obtain ⟨y_6, e_7, hf⟩ := sn_ltE hf
    refine lv_iinc (v := y_6) (lv' := [(6, .int y_6), (0, .ref (ad 0)), (3, .int x3), (4, .int x4), (5, .int x5)]) hx hb dX9_paste_179 hl (k := 4) rfl (by rw [e_7]; rfl) (by decide) rfl (fun ls hl => ?_)
    refine lv_goto (tgt := 150) hx hb dX9_paste_182 (by decide) ?_
    cases hf
    exact kc _ rfl _ _ _ hw (lv_sub hl [1, 2, 3, 4, 0] rfl)
theorem wX9_paste_L150 (C : sn_C p s m args meth c RX9 cX9_paste 7 (some .int) D ct ad layM A) {x3 : Int32} {x4 : Int32} {x5 : Int32}   {z : sn_S × Int32} {t : sn_S} (h : sn_it (LX9_paste_150 x3 x4 x5) 5000 z = some t) (kx : ∀ v, t = v → sn_At p l e rmX9_paste s m args below meth c Q D ct ad layM A 7 v 185 [] []) : sn_At p l e rmX9_paste s m args below meth c Q D ct ad layM A 7 z.1 150 [(0, .ref (ad 0)), (3, .int x3), (4, .int x4), (5, .int x5), (6, .int z.2)] [] :=
  sn_loop (f := LX9_paste_150 x3 x4 x5) (G := fun z => sn_At p l e rmX9_paste s m args below meth c Q D ct ad layM A 7 z.1 150 [(0, .ref (ad 0)), (3, .int x3), (4, .int x4), (5, .int x5), (6, .int z.2)] []) (E := fun t => (∀ v, t = v → sn_At p l e rmX9_paste s m args below meth c Q D ct ad layM A 7 v 185 [] []) ∧ True) (fun z o hf k1 k2 => wX9_paste_150 C  hf (fun v e => k1 v e) (fun v e => (k2 _ e).1 v rfl)) 5000 z t h ⟨kx, trivial⟩
theorem wX9_paste_147 (C : sn_C p s m args meth c RX9 cX9_paste 7 (some .int) D ct ad layM A) {σ : sn_S} {x3 : Int32} {x4 : Int32} {x5 : Int32}  {o : (Int32 × sn_S)} (hf : BX9_paste_147 σ x3 x4 x5 = some o) (kr : sn_Kr p l e rmX9_paste s m args below meth c Q D ct ad layM A cX9_paste .ireturn (true) o.2 [.int o.1]) : sn_At p l e rmX9_paste s m args below meth c Q D ct ad layM A 7 σ 147 [(0, .ref (ad 0)), (3, .int x3), (4, .int x4), (5, .int x5)] [] := by
  intro H locs ls hw hl
  have hx := C.1
  have hb := C.2.1
  unfold BX9_paste_147 at hf
  refine lv_iconst (v := 0) hx hb dX9_paste_147 rfl ?_
  refine lv_istore (lv' := [(6, .int (0 : Int32)), (0, .ref (ad 0)), (3, .int x3), (4, .int x4), (5, .int x5)]) hx hb dX9_paste_148 hl (by decide) rfl (fun ls hl => ?_)
  obtain ⟨t_1, h_2, hf⟩ := sn_bd hf
  exact wX9_paste_L150 C  h_2 (fun v e => by cases e; exact wX9_paste_185 C  hf kr) _ _ _ hw (lv_sub hl [1, 2, 3, 4, 0] rfl)
theorem wX9_paste_113 (C : sn_C p s m args meth c RX9 cX9_paste 7 (some .int) D ct ad layM A) {σ : sn_S} {x1 : Int32} {x2 : Int32} {x3 : Int32} {x4 : Int32} {x5 : Int32} {x6 : Int32}  {o : (sn_S × Int32) ⊕ (sn_S)} (hf : BX9_paste_113 σ x1 x2 x3 x4 x5 x6 = some o) (kc : ∀ v, o = .inl v → sn_At p l e rmX9_paste s m args below meth c Q D ct ad layM A 7 v.1 113 [(0, .ref (ad 0)), (1, .int x1), (2, .int x2), (3, .int x3), (4, .int x4), (5, .int x5), (6, .int v.2)] []) (kx : ∀ v, o = .inr v → sn_At p l e rmX9_paste s m args below meth c Q D ct ad layM A 7 v 147 [(0, .ref (ad 0)), (3, .int x3), (4, .int x4), (5, .int x5)] []) : sn_At p l e rmX9_paste s m args below meth c Q D ct ad layM A 7 σ 113 [(0, .ref (ad 0)), (1, .int x1), (2, .int x2), (3, .int x3), (4, .int x4), (5, .int x5), (6, .int x6)] [] := by
  intro H locs ls hw hl
  have hx := C.1
  have hb := C.2.1
  unfold BX9_paste_113 at hf
  refine lv_iload hx hb dX9_paste_113 (lv_at hl 6 rfl) ?_
  refine lv_iload hx hb dX9_paste_115 (lv_at hl 5 rfl) ?_
  refine lv_icmp_ge (tgt := 147) hx hb dX9_paste_117 (by decide) (fun c_1 => ?_) (fun c_1 => ?_)
  · have hf := sn_if c_1 hf
    cases hf
    exact kx _ rfl _ _ _ hw (lv_sub hl [0, 3, 4, 5] rfl)
  · have hf := sn_el c_1 hf
    refine lv_aload_n hx hb dX9_paste_120 rfl (lv_at hl 0 rfl) ?_
    refine sn_getC (r := 24) C hw fd_RX9_86 layM_0 rfl dX9_paste_121 ?_
    refine lv_iload hx hb dX9_paste_124 (lv_at hl 6 rfl) ?_
    refine lv_aload_n hx hb dX9_paste_126 rfl (lv_at hl 0 rfl) ?_
    refine sn_getC (r := 23) C hw fd_RX9_82 layM_0 rfl dX9_paste_127 ?_
    refine lv_bipush (v := 60) hx hb dX9_paste_130 (by decide) ?_
    refine lv_iload_n hx hb dX9_paste_132 rfl (lv_at hl 1 rfl) ?_
    refine lv_imul hx hb dX9_paste_133 ?_
    refine lv_iload_n hx hb dX9_paste_134 rfl (lv_at hl 2 rfl) ?_
    refine lv_iadd hx hb dX9_paste_135 ?_
    refine lv_iload hx hb dX9_paste_136 (lv_at hl 6 rfl) ?_
    refine lv_iadd hx hb dX9_paste_138 ?_
    obtain ⟨g_2, hf⟩ := sn_gdE hf
    refine sn_lald C hw layM_23 g_2 dX9_paste_139 ?_
    obtain ⟨g_3, hf⟩ := sn_gdE hf
    refine sn_last C hw layM_24 g_3 dX9_paste_140 (fun H locs hw => ?_)
    obtain ⟨σ_4, e_5, hf⟩ := sn_ltE hf
    rw [← e_5] at hw
    obtain ⟨y_6, e_7, hf⟩ := sn_ltE hf
    refine lv_iinc (v := y_6) (lv' := [(6, .int y_6), (0, .ref (ad 0)), (1, .int x1), (2, .int x2), (3, .int x3), (4, .int x4), (5, .int x5)]) hx hb dX9_paste_141 hl (k := 6) rfl (by rw [e_7]; rfl) (by decide) rfl (fun ls hl => ?_)
    refine lv_goto (tgt := 113) hx hb dX9_paste_144 (by decide) ?_
    cases hf
    exact kc _ rfl _ _ _ hw (lv_sub hl [1, 2, 3, 4, 5, 6, 0] rfl)
theorem wX9_paste_L113 (C : sn_C p s m args meth c RX9 cX9_paste 7 (some .int) D ct ad layM A) {x1 : Int32} {x2 : Int32} {x3 : Int32} {x4 : Int32} {x5 : Int32}   {z : sn_S × Int32} {t : sn_S} (h : sn_it (LX9_paste_113 x1 x2 x3 x4 x5) 5000 z = some t) (kx : ∀ v, t = v → sn_At p l e rmX9_paste s m args below meth c Q D ct ad layM A 7 v 147 [(0, .ref (ad 0)), (3, .int x3), (4, .int x4), (5, .int x5)] []) : sn_At p l e rmX9_paste s m args below meth c Q D ct ad layM A 7 z.1 113 [(0, .ref (ad 0)), (1, .int x1), (2, .int x2), (3, .int x3), (4, .int x4), (5, .int x5), (6, .int z.2)] [] :=
  sn_loop (f := LX9_paste_113 x1 x2 x3 x4 x5) (G := fun z => sn_At p l e rmX9_paste s m args below meth c Q D ct ad layM A 7 z.1 113 [(0, .ref (ad 0)), (1, .int x1), (2, .int x2), (3, .int x3), (4, .int x4), (5, .int x5), (6, .int z.2)] []) (E := fun t => (∀ v, t = v → sn_At p l e rmX9_paste s m args below meth c Q D ct ad layM A 7 v 147 [(0, .ref (ad 0)), (3, .int x3), (4, .int x4), (5, .int x5)] []) ∧ True) (fun z o hf k1 k2 => wX9_paste_113 C  hf (fun v e => k1 v e) (fun v e => (k2 _ e).1 v rfl)) 5000 z t h ⟨kx, trivial⟩
theorem wX9_paste_in (C : sn_C p s m args meth c RX9 cX9_paste 7 (some .int) D ct ad layM A) {σ : sn_S} {x1 : Int32} {x2 : Int32} {x3 : Int32} {x4 : Int32} {x5 : Int32}  {o : (Int32 × sn_S)} (hf : fX9_paste σ x1 x2 x3 x4 x5 = some o) (kr : sn_Kr p l e rmX9_paste s m args below meth c Q D ct ad layM A cX9_paste .ireturn (true) o.2 [.int o.1]) : sn_At p l e rmX9_paste s m args below meth c Q D ct ad layM A 7 σ 0 [(0, .ref (ad 0)), (1, .int x1), (2, .int x2), (3, .int x3), (4, .int x4), (5, .int x5)] [] := by
  intro H locs ls hw hl
  have hx := C.1
  have hb := C.2.1
  unfold fX9_paste at hf
  refine lv_iload_n hx hb dX9_paste_0 rfl (lv_at hl 1 rfl) ?_
  obtain ⟨t_1, h_2, hf⟩ := sn_bd hf
  refine sn_callSi (rest := []) C hw (ctX9_isSlot l  h_2) kl_RX9_365 rfl rfl rfl (Nat.le_of_ble_eq_true rfl) dX9_paste_1 hl.1 (fun H locs hw => ?_)
  refine lv_if_eq (tgt := 14) hx hb dX9_paste_4 (by decide) (fun c_3 => ?_) (fun c_3 => ?_)
  · have hf := sn_if c_3 hf
    refine lv_bipush (v := (-2)) hx hb dX9_paste_14 (by decide) ?_
    cases hf
    exact kr _ _ _ _ hw rfl dX9_paste_16
  · have hf := sn_el c_3 hf
    refine lv_iload_n hx hb dX9_paste_7 rfl (lv_at hl 3 rfl) ?_
    obtain ⟨t_4, h_5, hf⟩ := sn_bd hf
    refine sn_callSi (rest := []) C hw (ctX9_isSlot l  h_5) kl_RX9_365 rfl rfl rfl (Nat.le_of_ble_eq_true rfl) dX9_paste_8 hl.1 (fun H locs hw => ?_)
    refine lv_if_ne (tgt := 17) hx hb dX9_paste_11 (by decide) (fun c_6 => ?_) (fun c_6 => ?_)
    · have hf := sn_el c_6 hf
      refine lv_aload_n hx hb dX9_paste_17 rfl (lv_at hl 0 rfl) ?_
      refine sn_getC (r := 21) C hw fd_RX9_76 layM_0 rfl dX9_paste_18 ?_
      refine lv_iload_n hx hb dX9_paste_21 rfl (lv_at hl 1 rfl) ?_
      obtain ⟨g_7, hf⟩ := sn_gdE hf
      refine sn_iald C hw layM_21 g_7 dX9_paste_22 ?_
      refine lv_iconst (v := (-1)) hx hb dX9_paste_23 rfl ?_
      refine lv_icmp_eq (tgt := 37) hx hb dX9_paste_24 (by decide) (fun c_8 => ?_) (fun c_8 => ?_)
      · have hf := sn_if c_8 hf
        refine lv_bipush (v := (-6)) hx hb dX9_paste_37 (by decide) ?_
        cases hf
        exact kr _ _ _ _ hw rfl dX9_paste_39
      · have hf := sn_el c_8 hf
        refine lv_aload_n hx hb dX9_paste_27 rfl (lv_at hl 0 rfl) ?_
        refine sn_getC (r := 21) C hw fd_RX9_76 layM_0 rfl dX9_paste_28 ?_
        refine lv_iload_n hx hb dX9_paste_31 rfl (lv_at hl 3 rfl) ?_
        obtain ⟨g_9, hf⟩ := sn_gdE hf
        refine sn_iald C hw layM_21 g_9 dX9_paste_32 ?_
        refine lv_iconst (v := (-1)) hx hb dX9_paste_33 rfl ?_
        refine lv_icmp_ne (tgt := 40) hx hb dX9_paste_34 (by decide) (fun c_10 => ?_) (fun c_10 => ?_)
        · have hf := sn_el c_10 hf
          refine lv_aload_n hx hb dX9_paste_40 rfl (lv_at hl 0 rfl) ?_
          refine sn_getC (r := 22) C hw fd_RX9_79 layM_0 rfl dX9_paste_41 ?_
          refine lv_iload_n hx hb dX9_paste_44 rfl (lv_at hl 1 rfl) ?_
          obtain ⟨g_11, hf⟩ := sn_gdE hf
          refine sn_iald C hw layM_22 g_11 dX9_paste_45 ?_
          refine lv_aload_n hx hb dX9_paste_46 rfl (lv_at hl 0 rfl) ?_
          refine sn_getC (r := 22) C hw fd_RX9_79 layM_0 rfl dX9_paste_47 ?_
          refine lv_iload_n hx hb dX9_paste_50 rfl (lv_at hl 3 rfl) ?_
          obtain ⟨g_12, hf⟩ := sn_gdE hf
          refine sn_iald C hw layM_22 g_12 dX9_paste_51 ?_
          refine lv_icmp_eq (tgt := 58) hx hb dX9_paste_52 (by decide) (fun c_13 => ?_) (fun c_13 => ?_)
          · have hf := sn_if c_13 hf
            refine lv_iload_n hx hb dX9_paste_58 rfl (lv_at hl 2 rfl) ?_
            refine lv_if_lt (tgt := 107) hx hb dX9_paste_59 (by decide) (fun c_14 => ?_) (fun c_14 => ?_)
            · have hf := sn_if c_14 hf
              refine lv_bipush (v := (-7)) hx hb dX9_paste_107 (by decide) ?_
              cases hf
              exact kr _ _ _ _ hw rfl dX9_paste_109
            · have hf := sn_el c_14 hf
              refine lv_iload hx hb dX9_paste_62 (lv_at hl 4 rfl) ?_
              refine lv_if_lt (tgt := 107) hx hb dX9_paste_64 (by decide) (fun c_15 => ?_) (fun c_15 => ?_)
              · have hf := sn_if c_15 hf
                refine lv_bipush (v := (-7)) hx hb dX9_paste_107 (by decide) ?_
                cases hf
                exact kr _ _ _ _ hw rfl dX9_paste_109
              · have hf := sn_el c_15 hf
                refine lv_iload hx hb dX9_paste_67 (lv_at hl 5 rfl) ?_
                refine lv_if_lt (tgt := 107) hx hb dX9_paste_69 (by decide) (fun c_16 => ?_) (fun c_16 => ?_)
                · have hf := sn_if c_16 hf
                  refine lv_bipush (v := (-7)) hx hb dX9_paste_107 (by decide) ?_
                  cases hf
                  exact kr _ _ _ _ hw rfl dX9_paste_109
                · have hf := sn_el c_16 hf
                  refine lv_iload_n hx hb dX9_paste_72 rfl (lv_at hl 2 rfl) ?_
                  refine lv_i2l hx hb dX9_paste_73 rfl ?_
                  refine lv_iload hx hb dX9_paste_74 (lv_at hl 5 rfl) ?_
                  refine lv_i2l hx hb dX9_paste_76 rfl ?_
                  refine lv_ladd hx hb dX9_paste_77 ?_
                  refine lv_aload_n hx hb dX9_paste_78 rfl (lv_at hl 0 rfl) ?_
                  refine sn_getC (r := 21) C hw fd_RX9_76 layM_0 rfl dX9_paste_79 ?_
                  refine lv_iload_n hx hb dX9_paste_82 rfl (lv_at hl 1 rfl) ?_
                  obtain ⟨g_17, hf⟩ := sn_gdE hf
                  refine sn_iald C hw layM_21 g_17 dX9_paste_83 ?_
                  refine lv_i2l hx hb dX9_paste_84 rfl ?_
                  refine W.lcmp hx hb dX9_paste_85 ?_
                  refine lv_if_gt (tgt := 107) hx hb dX9_paste_86 (by decide) (fun c_18 => ?_) (fun c_18 => ?_)
                  · have hf := sn_if c_18 hf
                    refine lv_bipush (v := (-7)) hx hb dX9_paste_107 (by decide) ?_
                    cases hf
                    exact kr _ _ _ _ hw rfl dX9_paste_109
                  · have hf := sn_el c_18 hf
                    refine lv_iload hx hb dX9_paste_89 (lv_at hl 4 rfl) ?_
                    refine lv_i2l hx hb dX9_paste_91 rfl ?_
                    refine lv_iload hx hb dX9_paste_92 (lv_at hl 5 rfl) ?_
                    refine lv_i2l hx hb dX9_paste_94 rfl ?_
                    refine lv_ladd hx hb dX9_paste_95 ?_
                    refine lv_aload_n hx hb dX9_paste_96 rfl (lv_at hl 0 rfl) ?_
                    refine sn_getC (r := 21) C hw fd_RX9_76 layM_0 rfl dX9_paste_97 ?_
                    refine lv_iload_n hx hb dX9_paste_100 rfl (lv_at hl 3 rfl) ?_
                    obtain ⟨g_19, hf⟩ := sn_gdE hf
                    refine sn_iald C hw layM_21 g_19 dX9_paste_101 ?_
                    refine lv_i2l hx hb dX9_paste_102 rfl ?_
                    refine W.lcmp hx hb dX9_paste_103 ?_
                    refine lv_if_le (tgt := 110) hx hb dX9_paste_104 (by decide) (fun c_20 => ?_) (fun c_20 => ?_)
                    · have hf := sn_if c_20 hf
                      refine lv_iconst (v := 0) hx hb dX9_paste_110 rfl ?_
                      refine lv_istore (lv' := [(6, .int (0 : Int32)), (0, .ref (ad 0)), (1, .int x1), (2, .int x2), (3, .int x3), (4, .int x4), (5, .int x5)]) hx hb dX9_paste_111 hl (by decide) rfl (fun ls hl => ?_)
                      obtain ⟨t_21, h_22, hf⟩ := sn_bd hf
                      exact wX9_paste_L113 C  h_22 (fun v e => by cases e; exact wX9_paste_147 C  hf kr) _ _ _ hw (lv_sub hl [1, 2, 3, 4, 5, 6, 0] rfl)
                    · have hf := sn_el c_20 hf
                      refine lv_bipush (v := (-7)) hx hb dX9_paste_107 (by decide) ?_
                      cases hf
                      exact kr _ _ _ _ hw rfl dX9_paste_109
          · have hf := sn_el c_13 hf
            refine lv_bipush (v := (-8)) hx hb dX9_paste_55 (by decide) ?_
            cases hf
            exact kr _ _ _ _ hw rfl dX9_paste_57
        · have hf := sn_if c_10 hf
          refine lv_bipush (v := (-6)) hx hb dX9_paste_37 (by decide) ?_
          cases hf
          exact kr _ _ _ _ hw rfl dX9_paste_39
    · have hf := sn_if c_6 hf
      refine lv_bipush (v := (-2)) hx hb dX9_paste_14 (by decide) ?_
      cases hf
      exact kr _ _ _ _ hw rfl dX9_paste_16
theorem ctX9_paste (l : Launch) {σ : sn_S} {x1 : Int32} {x2 : Int32} {x3 : Int32} {x4 : Int32} {x5 : Int32}  {o : (Int32 × sn_S)} (hf : fX9_paste σ x1 x2 x3 x4 x5 = some o) : sn_M l yX9_paste cX9_paste 7 (some .int) rmX9_paste layM (fun ad => [.ref (ad 0), .int x1, .int x2, .int x3, .int x4, .int x5]) σ (some (fun _ => .int o.1)) o.2 :=
  sn_met (by decide) (fun _ => Nat.le_of_ble_eq_true rfl) (fun p e s m args below meth c ls D ct ad A C hw hl => wX9_paste_in C  hf (fun H locs ls pc hw ok hd => sn_iret C hw hd) _ _ _ hw hl)
end
