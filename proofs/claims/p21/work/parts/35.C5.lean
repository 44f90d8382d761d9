section
variable {p : Program} {l : Launch} {e : Env} {s : State} {m : MethodId} {args : Array Value} {below : List Frame} {meth : Method} {c : Code} {Q : State → Prop} {D : va_G} {ct : Nat → ClassId} {ad : Nat → Nat} {A : Nat → Prop} {lay : List sn_E}
-- X8_who
abbrev rmX8_who : Room := { frames := 1, cells := 0, slots := 0, locals := 21 }
def fX8_who (σ : sn_S) (x1 : Int32) : Option Int32 :=
  ((fX8_isMinute σ x1).bind fun t_1 => (if t_1 = 0 then
  (some (-2 : Int32))
  else
  (sn_gd (sn_in x1 30) (some (sn_I σ (27 + 9) x1.toNatClampNeg)))))
theorem wX8_who_in (C : sn_C p s m args meth c RX8 cX8_who 2 (some .int) D ct ad layC A) {σ : sn_S} {x1 : Int32}  {o : Int32} (hf : fX8_who σ x1 = some o) (kr : sn_Kr p l e rmX8_who s m args below meth c Q D ct ad layC A cX8_who .ireturn (true) σ [.int o]) : sn_At p l e rmX8_who s m args below meth c Q D ct ad layC A 2 σ 0 [(0, .ref (ad 0)), (1, .int x1)] [] := by
  intro H locs ls hw hl
  have hx := C.1
  have hb := C.2.1
  unfold fX8_who at hf
  refine lv_aload_n hx hb dX8_who_0 rfl (lv_at hl 0 rfl) ?_
  refine lv_iload_n hx hb dX8_who_1 rfl (lv_at hl 1 rfl) ?_
  obtain ⟨t_1, h_2, hf⟩ := sn_bd hf
  refine sn_callVi (rest := []) C hw (ctX8_isMinute l  h_2) kl_RX8_125 layC_0 rfl rfl rfl rfl (Nat.le_of_ble_eq_true rfl) dX8_who_2 hl.1 (fun H locs hw => ?_)
  refine lv_if_eq (tgt := 20) hx hb dX8_who_5 (by decide) (fun c_3 => ?_) (fun c_3 => ?_)
  · have hf := sn_if c_3 hf
    refine lv_bipush (v := (-2)) hx hb dX8_who_20 (by decide) ?_
    cases hf
    exact kr _ _ _ _ hw rfl dX8_who_22
  · have hf := sn_el c_3 hf
    refine lv_aload_n hx hb dX8_who_8 rfl (lv_at hl 0 rfl) ?_
    refine sn_getC (r := 27) C hw fd_RX8_44 layC_0 rfl dX8_who_9 ?_
    refine sn_getC (r := (27 + 9)) C hw fd_RX8_145 (sn_look sn_isX0_27 (k := 0) rfl) rfl dX8_who_12 ?_
    refine lv_iload_n hx hb dX8_who_15 rfl (lv_at hl 1 rfl) ?_
    obtain ⟨g_4, hf⟩ := sn_gdE hf
    refine sn_iald C hw (sn_look sn_isX0_27 (k := 9) rfl) g_4 dX8_who_16 ?_
    refine lv_goto (tgt := 22) hx hb dX8_who_17 (by decide) ?_
    cases hf
    exact kr _ _ _ _ hw rfl dX8_who_22
theorem ctX8_who (l : Launch) {σ : sn_S} {x1 : Int32}  {o : Int32} (hf : fX8_who σ x1 = some o) : sn_M l yX8_who cX8_who 2 (some .int) rmX8_who layC (fun ad => [.ref (ad 0), .int x1]) σ (some (fun _ => .int o)) σ :=
  sn_met (by decide) (fun _ => Nat.le_of_ble_eq_true rfl) (fun p e s m args below meth c ls D ct ad A C hw hl => wX8_who_in C  hf (fun H locs ls pc hw ok hd => sn_iret C hw hd) _ _ _ hw hl)
-- X8_tickle
abbrev rmX8_tickle : Room := { frames := 1, cells := 0, slots := 0, locals := 22 }
def fX8_tickle (σ : sn_S) (x1 : Int32) (x2 : Int32) : Option Int32 :=
  ((fX8_isPerson σ x1).bind fun t_1 => (if t_1 = 0 then
  (some (-2 : Int32))
  else
  ((fX8_isMinute σ x2).bind fun t_4 => (if t_4 = 0 then
  (some (-2 : Int32))
  else
  ((fX0_tickleAt σ 27 x1 x2).bind fun t_7 => (some t_7))))))
theorem wX8_tickle_in (C : sn_C p s m args meth c RX8 cX8_tickle 3 (some .int) D ct ad layC A) {σ : sn_S} {x1 : Int32} {x2 : Int32}  {o : Int32} (hf : fX8_tickle σ x1 x2 = some o) (kr : sn_Kr p l e rmX8_tickle s m args below meth c Q D ct ad layC A cX8_tickle .ireturn (true) σ [.int o]) : sn_At p l e rmX8_tickle s m args below meth c Q D ct ad layC A 3 σ 0 [(0, .ref (ad 0)), (1, .int x1), (2, .int x2)] [] := by
  intro H locs ls hw hl
  have hx := C.1
  have hb := C.2.1
  unfold fX8_tickle at hf
  refine lv_aload_n hx hb dX8_tickle_0 rfl (lv_at hl 0 rfl) ?_
  refine lv_iload_n hx hb dX8_tickle_1 rfl (lv_at hl 1 rfl) ?_
  obtain ⟨t_1, h_2, hf⟩ := sn_bd hf
  refine sn_callVi (rest := []) C hw (ctX8_isPerson l  h_2) kl_RX8_107 layC_0 rfl rfl rfl rfl (Nat.le_of_ble_eq_true rfl) dX8_tickle_2 hl.1 (fun H locs hw => ?_)
  refine lv_if_eq (tgt := 16) hx hb dX8_tickle_5 (by decide) (fun c_3 => ?_) (fun c_3 => ?_)
  · have hf := sn_if c_3 hf
    refine lv_bipush (v := (-2)) hx hb dX8_tickle_16 (by decide) ?_
    cases hf
    exact kr _ _ _ _ hw rfl dX8_tickle_18
  · have hf := sn_el c_3 hf
    refine lv_aload_n hx hb dX8_tickle_8 rfl (lv_at hl 0 rfl) ?_
    refine lv_iload_n hx hb dX8_tickle_9 rfl (lv_at hl 2 rfl) ?_
    obtain ⟨t_4, h_5, hf⟩ := sn_bd hf
    refine sn_callVi (rest := []) C hw (ctX8_isMinute l  h_5) kl_RX8_125 layC_0 rfl rfl rfl rfl (Nat.le_of_ble_eq_true rfl) dX8_tickle_10 hl.1 (fun H locs hw => ?_)
    refine lv_if_ne (tgt := 19) hx hb dX8_tickle_13 (by decide) (fun c_6 => ?_) (fun c_6 => ?_)
    · have hf := sn_el c_6 hf
      refine lv_aload_n hx hb dX8_tickle_19 rfl (lv_at hl 0 rfl) ?_
      refine sn_getC (r := 27) C hw fd_RX8_44 layC_0 rfl dX8_tickle_20 ?_
      refine lv_iload_n hx hb dX8_tickle_23 rfl (lv_at hl 1 rfl) ?_
      refine lv_iload_n hx hb dX8_tickle_24 rfl (lv_at hl 2 rfl) ?_
      obtain ⟨t_7, h_8, hf⟩ := sn_bd hf
      refine sn_callVi (rest := []) C hw (ctX0_tickleAt l sn_isX0_27 h_8) kl_RX8_148 (sn_look sn_isX0_27 (k := 0) rfl) rfl rfl rfl rfl (Nat.le_of_ble_eq_true rfl) dX8_tickle_25 hl.1 (fun H locs hw => ?_)
      cases hf
      exact kr _ _ _ _ hw rfl dX8_tickle_28
    · have hf := sn_if c_6 hf
      refine lv_bipush (v := (-2)) hx hb dX8_tickle_16 (by decide) ?_
      cases hf
      exact kr _ _ _ _ hw rfl dX8_tickle_18
theorem ctX8_tickle (l : Launch) {σ : sn_S} {x1 : Int32} {x2 : Int32}  {o : Int32} (hf : fX8_tickle σ x1 x2 = some o) : sn_M l yX8_tickle cX8_tickle 3 (some .int) rmX8_tickle layC (fun ad => [.ref (ad 0), .int x1, .int x2]) σ (some (fun _ => .int o)) σ :=
  sn_met (by decide) (fun _ => Nat.le_of_ble_eq_true rfl) (fun p e s m args below meth c ls D ct ad A C hw hl => wX8_tickle_in C  hf (fun H locs ls pc hw ok hd => sn_iret C hw hd) _ _ _ hw hl)
-- X8_itch
abbrev rmX8_itch : Room := { frames := 1, cells := 0, slots := 0, locals := 32 }
def BX8_itch_46 (σ : sn_S) (x2 : Int32) : Option (Int32) :=
  (some x2)
def BX8_itch_15 (σ : sn_S) (x1 : Int32) (x2 : Int32) (x3 : Int32) : Option ((Int32 × Int32) ⊕ (Int32)) :=
  (if (sn_I σ 27 0) ≤ x3 then
  (some (.inr (x2)))
  else
  ((fX0_tickleAt σ 27 x1 x3).bind fun t_2 => (sn_lt (if x2 < t_2 then t_2 else x2) fun y_4 => (sn_lt (x3 + 1) fun y_6 => (some (.inl (y_4, y_6)))))))
def LX8_itch_15 (σ : sn_S) (x1 : Int32) (s : Int32 × Int32) : Option ((Int32 × Int32) ⊕ (Int32)) := BX8_itch_15 σ x1 s.1 s.2
def fX8_itch (σ : sn_S) (x1 : Int32) : Option Int32 :=
  ((fX8_isPerson σ x1).bind fun t_1 => (if t_1 = 0 then
  (some (-2 : Int32))
  else
  ((sn_it (LX8_itch_15 σ x1) 5000 ((0 : Int32), (0 : Int32))).bind fun t_4 => (BX8_itch_46 σ t_4))))
theorem wX8_itch_46 (C : sn_C p s m args meth c RX8 cX8_itch 4 (some .int) D ct ad layC A) {σ : sn_S} {x2 : Int32}  {o : Int32} (hf : BX8_itch_46 σ x2 = some o) (kr : sn_Kr p l e rmX8_itch s m args below meth c Q D ct ad layC A cX8_itch .ireturn (true) σ [.int o]) : sn_At p l e rmX8_itch s m args below meth c Q D ct ad layC A 4 σ 46 [(2, .int x2)] [] := by
  intro H locs ls hw hl
  have hx := C.1
  have hb := C.2.1
  unfold BX8_itch_46 at hf
  refine lv_iload_n hx hb dX8_itch_46 rfl (lv_at hl 0 rfl) ?_
  cases hf
  exact kr _ _ _ _ hw rfl dX8_itch_47
theorem wX8_itch_15 (C : sn_C p s m args meth c RX8 cX8_itch 4 (some .int) D ct ad layC A) {σ : sn_S} {x1 : Int32} {x2 : Int32} {x3 : Int32}  {o : (Int32 × Int32) ⊕ (Int32)} (hf : BX8_itch_15 σ x1 x2 x3 = some o) (kc : ∀ v, o = .inl v → sn_At p l e rmX8_itch s m args below meth c Q D ct ad layC A 4 σ 15 [(0, .ref (ad 0)), (1, .int x1), (2, .int v.1), (3, .int v.2)] []) (kx : ∀ v, o = .inr v → sn_At p l e rmX8_itch s m args below meth c Q D ct ad layC A 4 σ 46 [(2, .int v)] []) : sn_At p l e rmX8_itch s m args below meth c Q D ct ad layC A 4 σ 15 [(0, .ref (ad 0)), (1, .int x1), (2, .int x2), (3, .int x3)] [] := by
  intro H locs ls hw hl
  have hx := C.1
  have hb := C.2.1
  unfold BX8_itch_15 at hf
  refine lv_iload_n hx hb dX8_itch_15 rfl (lv_at hl 3 rfl) ?_
  refine lv_aload_n hx hb dX8_itch_16 rfl (lv_at hl 0 rfl) ?_
  refine sn_getC (r := 27) C hw fd_RX8_44 layC_0 rfl dX8_itch_17 ?_
  refine sn_getI C hw fd_RX8_151 (sn_look sn_isX0_27 (k := 0) rfl) rfl dX8_itch_20 ?_
  refine lv_icmp_ge (tgt := 46) hx hb dX8_itch_23 (by decide) (fun c_1 => ?_) (fun c_1 => ?_)
  · have hf := sn_if c_1 hf
    cases hf
    exact kx _ rfl _ _ _ hw (lv_sub hl [2] rfl)
  · have hf := sn_el c_1 hf
    refine lv_iload_n hx hb dX8_itch_26 rfl (lv_at hl 2 rfl) ?_
    refine lv_aload_n hx hb dX8_itch_27 rfl (lv_at hl 0 rfl) ?_
    refine sn_getC (r := 27) C hw fd_RX8_44 layC_0 rfl dX8_itch_28 ?_
    refine lv_iload_n hx hb dX8_itch_31 rfl (lv_at hl 1 rfl) ?_
    refine lv_iload_n hx hb dX8_itch_32 rfl (lv_at hl 3 rfl) ?_
    obtain ⟨t_2, h_3, hf⟩ := sn_bd hf
    refine sn_callVi (rest := [.int x2]) C hw (ctX0_tickleAt l sn_isX0_27 h_3) kl_RX8_148 (sn_look sn_isX0_27 (k := 0) rfl) rfl rfl rfl rfl (Nat.le_of_ble_eq_true rfl) dX8_itch_33 hl.1 (fun H locs hw => ?_)
    refine va_mmax hx hb (C.2.2.1.trans hl.1.symm) C.2.2.2.1 (C.2.2.2.2.1 _ km_RX8_154) (C.2.2.2.2.1 _ kst_maxI) (C.2.2.2.2.1 _ ki_Math) (C.2.2.2.2.1 _ kc_maxI) (Nat.le_of_ble_eq_true rfl) (Nat.le_of_ble_eq_true rfl) (Nat.zero_le _) (Nat.zero_le _) dX8_itch_36 ?_
    obtain ⟨y_4, e_5, hf⟩ := sn_ltE hf
    refine lv_topi (fun y_4_ e_5_ => ?_)
    obtain rfl : y_4 = y_4_ := e_5.trans e_5_.symm
    refine lv_istore_n (lv' := [(2, .int y_4), (0, .ref (ad 0)), (1, .int x1), (3, .int x3)]) hx hb dX8_itch_39 rfl hl (by decide) rfl (fun ls hl => ?_)
    obtain ⟨y_6, e_7, hf⟩ := sn_ltE hf
    refine lv_iinc (v := y_6) (lv' := [(3, .int y_6), (2, .int y_4), (0, .ref (ad 0)), (1, .int x1)]) hx hb dX8_itch_40 hl (k := 3) rfl (by rw [e_7]; rfl) (by decide) rfl (fun ls hl => ?_)
    refine lv_goto (tgt := 15) hx hb dX8_itch_43 (by decide) ?_
    cases hf
    exact kc _ rfl _ _ _ hw (lv_sub hl [2, 3, 1, 0] rfl)
theorem wX8_itch_L15 (C : sn_C p s m args meth c RX8 cX8_itch 4 (some .int) D ct ad layC A) {σ : sn_S} {x1 : Int32}   {z : Int32 × Int32} {t : Int32} (h : sn_it (LX8_itch_15 σ x1) 5000 z = some t) (kx : ∀ v, t = v → sn_At p l e rmX8_itch s m args below meth c Q D ct ad layC A 4 σ 46 [(2, .int v)] []) : sn_At p l e rmX8_itch s m args below meth c Q D ct ad layC A 4 σ 15 [(0, .ref (ad 0)), (1, .int x1), (2, .int z.1), (3, .int z.2)] [] :=
  sn_loop (f := LX8_itch_15 σ x1) (G := fun z => sn_At p l e rmX8_itch s m args below meth c Q D ct ad layC A 4 σ 15 [(0, .ref (ad 0)), (1, .int x1), (2, .int z.1), (3, .int z.2)] []) (E := fun t => (∀ v, t = v → sn_At p l e rmX8_itch s m args below meth c Q D ct ad layC A 4 σ 46 [(2, .int v)] []) ∧ True) (fun z o hf k1 k2 => wX8_itch_15 C  hf (fun v e => k1 v e) (fun v e => (k2 _ e).1 v rfl)) 5000 z t h ⟨kx, trivial⟩
theorem wX8_itch_in (C : sn_C p s m args meth c RX8 cX8_itch 4 (some .int) D ct ad layC A) {σ : sn_S} {x1 : Int32}  {o : Int32} (hf : fX8_itch σ x1 = some o) (kr : sn_Kr p l e rmX8_itch s m args below meth c Q D ct ad layC A cX8_itch .ireturn (true) σ [.int o]) : sn_At p l e rmX8_itch s m args below meth c Q D ct ad layC A 4 σ 0 [(0, .ref (ad 0)), (1, .int x1)] [] := by
  intro H locs ls hw hl
  have hx := C.1
  have hb := C.2.1
  unfold fX8_itch at hf
  refine lv_aload_n hx hb dX8_itch_0 rfl (lv_at hl 0 rfl) ?_
  refine lv_iload_n hx hb dX8_itch_1 rfl (lv_at hl 1 rfl) ?_
  obtain ⟨t_1, h_2, hf⟩ := sn_bd hf
  refine sn_callVi (rest := []) C hw (ctX8_isPerson l  h_2) kl_RX8_107 layC_0 rfl rfl rfl rfl (Nat.le_of_ble_eq_true rfl) dX8_itch_2 hl.1 (fun H locs hw => ?_)
  refine lv_if_ne (tgt := 11) hx hb dX8_itch_5 (by decide) (fun c_3 => ?_) (fun c_3 => ?_)
  · have hf := sn_el c_3 hf
    refine lv_iconst (v := 0) hx hb dX8_itch_11 rfl ?_
    refine lv_istore_n (lv' := [(2, .int (0 : Int32)), (0, .ref (ad 0)), (1, .int x1)]) hx hb dX8_itch_12 rfl hl (by decide) rfl (fun ls hl => ?_)
    refine lv_iconst (v := 0) hx hb dX8_itch_13 rfl ?_
    refine lv_istore_n (lv' := [(3, .int (0 : Int32)), (2, .int (0 : Int32)), (0, .ref (ad 0)), (1, .int x1)]) hx hb dX8_itch_14 rfl hl (by decide) rfl (fun ls hl => ?_)
    obtain ⟨t_4, h_5, hf⟩ := sn_bd hf
    exact wX8_itch_L15 C  h_5 (fun v e => by cases e; exact wX8_itch_46 C  hf kr) _ _ _ hw (lv_sub hl [2, 3, 1, 0] rfl)
  · have hf := sn_if c_3 hf
    refine lv_bipush (v := (-2)) hx hb dX8_itch_8 (by decide) ?_
    cases hf
    exact kr _ _ _ _ hw rfl dX8_itch_10
theorem ctX8_itch (l : Launch) {σ : sn_S} {x1 : Int32}  {o : Int32} (hf : fX8_itch σ x1 = some o) : sn_M l yX8_itch cX8_itch 4 (some .int) rmX8_itch layC (fun ad => [.ref (ad 0), .int x1]) σ (some (fun _ => .int o)) σ :=
  sn_met (by decide) (fun _ => Nat.le_of_ble_eq_true rfl) (fun p e s m args below meth c ls D ct ad A C hw hl => wX8_itch_in C  hf (fun H locs ls pc hw ok hd => sn_iret C hw hd) _ _ _ hw hl)
-- X8_caught
abbrev rmX8_caught : Room := { frames := 1, cells := 0, slots := 0, locals := 22 }
def BX8_caught_44 (σ : sn_S) (x2 : Int32) : Option (Int32) :=
  (some x2)
def BX8_caught_15 (σ : sn_S) (x1 : Int32) (x2 : Int32) (x3 : Int32) : Option ((Int32 × Int32) ⊕ (Int32)) :=
  (if (sn_I σ 27 0) ≤ x3 then
  (some (.inr (x2)))
  else
  ((fX0_cameAt σ 27 x1 x3).bind fun t_2 => (sn_lt (x2 + t_2) fun y_4 => (sn_lt (x3 + 1) fun y_6 => (some (.inl (y_4, y_6)))))))
def LX8_caught_15 (σ : sn_S) (x1 : Int32) (s : Int32 × Int32) : Option ((Int32 × Int32) ⊕ (Int32)) := BX8_caught_15 σ x1 s.1 s.2
def fX8_caught (σ : sn_S) (x1 : Int32) : Option Int32 :=
  ((fX8_isPerson σ x1).bind fun t_1 => (if t_1 = 0 then
  (some (-2 : Int32))
  else
  ((sn_it (LX8_caught_15 σ x1) 5000 ((0 : Int32), (0 : Int32))).bind fun t_4 => (BX8_caught_44 σ t_4))))
theorem wX8_caught_44 (C : sn_C p s m args meth c RX8 cX8_caught 4 (some .int) D ct ad layC A) {σ : sn_S} {x2 : Int32}  {o : Int32} (hf : BX8_caught_44 σ x2 = some o) (kr : sn_Kr p l e rmX8_caught s m args below meth c Q D ct ad layC A cX8_caught .ireturn (true) σ [.int o]) : sn_At p l e rmX8_caught s m args below meth c Q D ct ad layC A 4 σ 44 [(2, .int x2)] [] := by
  intro H locs ls hw hl
  have hx := C.1
  have hb := C.2.1
  unfold BX8_caught_44 at hf
  refine lv_iload_n hx hb dX8_caught_44 rfl (lv_at hl 0 rfl) ?_
  cases hf
  exact kr _ _ _ _ hw rfl dX8_caught_45
theorem wX8_caught_15 (C : sn_C p s m args meth c RX8 cX8_caught 4 (some .int) D ct ad layC A) {σ : sn_S} {x1 : Int32} {x2 : Int32} {x3 : Int32}  {o : (Int32 × Int32) ⊕ (Int32)} (hf : BX8_caught_15 σ x1 x2 x3 = some o) (kc : ∀ v, o = .inl v → sn_At p l e rmX8_caught s m args below meth c Q D ct ad layC A 4 σ 15 [(0, .ref (ad 0)), (1, .int x1), (2, .int v.1), (3, .int v.2)] []) (kx : ∀ v, o = .inr v → sn_At p l e rmX8_caught s m args below meth c Q D ct ad layC A 4 σ 44 [(2, .int v)] []) : sn_At p l e rmX8_caught s m args below meth c Q D ct ad layC A 4 σ 15 [(0, .ref (ad 0)), (1, .int x1), (2, .int x2), (3, .int x3)] [] := by
  intro H locs ls hw hl
  have hx := C.1
  have hb := C.2.1
  unfold BX8_caught_15 at hf
  refine lv_iload_n hx hb dX8_caught_15 rfl (lv_at hl 3 rfl) ?_
  refine lv_aload_n hx hb dX8_caught_16 rfl (lv_at hl 0 rfl) ?_
  refine sn_getC (r := 27) C hw fd_RX8_44 layC_0 rfl dX8_caught_17 ?_
  refine sn_getI C hw fd_RX8_151 (sn_look sn_isX0_27 (k := 0) rfl) rfl dX8_caught_20 ?_
  refine lv_icmp_ge (tgt := 44) hx hb dX8_caught_23 (by decide) (fun c_1 => ?_) (fun c_1 => ?_)
  · have hf := sn_if c_1 hf
    cases hf
    exact kx _ rfl _ _ _ hw (lv_sub hl [2] rfl)
  · have hf := sn_el c_1 hf
    refine lv_iload_n hx hb dX8_caught_26 rfl (lv_at hl 2 rfl) ?_
    refine lv_aload_n hx hb dX8_caught_27 rfl (lv_at hl 0 rfl) ?_
    refine sn_getC (r := 27) C hw fd_RX8_44 layC_0 rfl dX8_caught_28 ?_
    refine lv_iload_n hx hb dX8_caught_31 rfl (lv_at hl 1 rfl) ?_
    refine lv_iload_n hx hb dX8_caught_32 rfl (lv_at hl 3 rfl) ?_
    obtain ⟨t_2, h_3, hf⟩ := sn_bd hf
    refine sn_callVi (rest := [.int x2]) C hw (ctX0_cameAt l sn_isX0_27 h_3) kl_RX8_159 (sn_look sn_isX0_27 (k := 0) rfl) rfl rfl rfl rfl (Nat.le_of_ble_eq_true rfl) dX8_caught_33 hl.1 (fun H locs hw => ?_)
    refine lv_iadd hx hb dX8_caught_36 ?_
    obtain ⟨y_4, e_5, hf⟩ := sn_ltE hf
    refine lv_topi (fun y_4_ e_5_ => ?_)
    obtain rfl : y_4 = y_4_ := e_5.trans e_5_.symm
    refine lv_istore_n (lv' := [(2, .int y_4), (0, .ref (ad 0)), (1, .int x1), (3, .int x3)]) hx hb dX8_caught_37 rfl hl (by decide) rfl (fun ls hl => ?_)
    obtain ⟨y_6, e_7, hf⟩ := sn_ltE hf
    refine lv_iinc (v := y_6) (lv' := [(3, .int y_6), (2, .int y_4), (0, .ref (ad 0)), (1, .int x1)]) hx hb dX8_caught_38 hl (k := 3) rfl (by rw [e_7]; rfl) (by decide) rfl (fun ls hl => ?_)
    refine lv_goto (tgt := 15) hx hb dX8_caught_41 (by decide) ?_
    cases hf
    exact kc _ rfl _ _ _ hw (lv_sub hl [2, 3, 1, 0] rfl)
theorem wX8_caught_L15 (C : sn_C p s m args meth c RX8 cX8_caught 4 (some .int) D ct ad layC A) {σ : sn_S} {x1 : Int32}   {z : Int32 × Int32} {t : Int32} (h : sn_it (LX8_caught_15 σ x1) 5000 z = some t) (kx : ∀ v, t = v → sn_At p l e rmX8_caught s m args below meth c Q D ct ad layC A 4 σ 44 [(2, .int v)] []) : sn_At p l e rmX8_caught s m args below meth c Q D ct ad layC A 4 σ 15 [(0, .ref (ad 0)), (1, .int x1), (2, .int z.1), (3, .int z.2)] [] :=
  sn_loop (f := LX8_caught_15 σ x1) (G := fun z => sn_At p l e rmX8_caught s m args below meth c Q D ct ad layC A 4 σ 15 [(0, .ref (ad 0)), (1, .int x1), (2, .int z.1), (3, .int z.2)] []) (E := fun t => (∀ v, t = v → sn_At p l e rmX8_caught s m args below meth c Q D ct ad layC A 4 σ 44 [(2, .int v)] []) ∧ True) (fun z o hf k1 k2 => wX8_caught_15 C  hf (fun v e => k1 v e) (fun v e => (k2 _ e).1 v rfl)) 5000 z t h ⟨kx, trivial⟩
theorem wX8_caught_in (C : sn_C p s m args meth c RX8 cX8_caught 4 (some .int) D ct ad layC A) {σ : sn_S} {x1 : Int32}  {o : Int32} (hf : fX8_caught σ x1 = some o) (kr : sn_Kr p l e rmX8_caught s m args below meth c Q D ct ad layC A cX8_caught .ireturn (true) σ [.int o]) : sn_At p l e rmX8_caught s m args below meth c Q D ct ad layC A 4 σ 0 [(0, .ref (ad 0)), (1, .int x1)] [] := by
  intro H locs ls hw hl
  have hx := C.1
  have hb := C.2.1
  unfold fX8_caught at hf
  refine lv_aload_n hx hb dX8_caught_0 rfl (lv_at hl 0 rfl) ?_
  refine lv_iload_n hx hb dX8_caught_1 rfl (lv_at hl 1 rfl) ?_
  obtain ⟨t_1, h_2, hf⟩ := sn_bd hf
  refine sn_callVi (rest := []) C hw (ctX8_isPerson l  h_2) kl_RX8_107 layC_0 rfl rfl rfl rfl (Nat.le_of_ble_eq_true rfl) dX8_caught_2 hl.1 (fun H locs hw => ?_)
  refine lv_if_ne (tgt := 11) hx hb dX8_caught_5 (by decide) (fun c_3 => ?_) (fun c_3 => ?_)
  · have hf := sn_el c_3 hf
    refine lv_iconst (v := 0) hx hb dX8_caught_11 rfl ?_
    refine lv_istore_n (lv' := [(2, .int (0 : Int32)), (0, .ref (ad 0)), (1, .int x1)]) hx hb dX8_caught_12 rfl hl (by decide) rfl (fun ls hl => ?_)
    refine lv_iconst (v := 0) hx hb dX8_caught_13 rfl ?_
    refine lv_istore_n (lv' := [(3, .int (0 : Int32)), (2, .int (0 : Int32)), (0, .ref (ad 0)), (1, .int x1)]) hx hb dX8_caught_14 rfl hl (by decide) rfl (fun ls hl => ?_)
    obtain ⟨t_4, h_5, hf⟩ := sn_bd hf
    exact wX8_caught_L15 C  h_5 (fun v e => by cases e; exact wX8_caught_44 C  hf kr) _ _ _ hw (lv_sub hl [2, 3, 1, 0] rfl)
  · have hf := sn_if c_3 hf
    refine lv_bipush (v := (-2)) hx hb dX8_caught_8 (by decide) ?_
    cases hf
    exact kr _ _ _ _ hw rfl dX8_caught_10
theorem ctX8_caught (l : Launch) {σ : sn_S} {x1 : Int32}  {o : Int32} (hf : fX8_caught σ x1 = some o) : sn_M l yX8_caught cX8_caught 4 (some .int) rmX8_caught layC (fun ad => [.ref (ad 0), .int x1]) σ (some (fun _ => .int o)) σ :=
  sn_met (by decide) (fun _ => Nat.le_of_ble_eq_true rfl) (fun p e s m args below meth c ls D ct ad A C hw hl => wX8_caught_in C  hf (fun H locs ls pc hw ok hd => sn_iret C hw hd) _ _ _ hw hl)
-- X8_gave
abbrev rmX8_gave : Room := { frames := 2, cells := 0, slots := 0, locals := 40 }
def fX8_gave (σ : sn_S) (x1 : Int32) : Option Int32 :=
  ((fX8_isPerson σ x1).bind fun t_1 => (if t_1 = 0 then
  (some (-2 : Int32))
  else
  (sn_gd (sn_in x1 6) ((fX8_lowestBit (sn_I σ (27 + 10) x1.toNatClampNeg)).bind fun t_5 => (if (1 : Int32) ≤ t_5 then
  (sn_gd (sn_in (t_5 - (1 : Int32)) 30) ((fX2_neighbours σ 1 x1).bind fun t_9 => (some ((sn_I σ (27 + 9) (t_5 - (1 : Int32)).toNatClampNeg) &&& t_9))))
  else
  (some (0 : Int32)))))))
theorem wX8_gave_in (C : sn_C p s m args meth c RX8 cX8_gave 3 (some .int) D ct ad layC A) {σ : sn_S} {x1 : Int32}  {o : Int32} (hf : fX8_gave σ x1 = some o) (kr : sn_Kr p l e rmX8_gave s m args below meth c Q D ct ad layC A cX8_gave .ireturn (true) σ [.int o]) : sn_At p l e rmX8_gave s m args below meth c Q D ct ad layC A 3 σ 0 [(0, .ref (ad 0)), (1, .int x1)] [] := by
  intro H locs ls hw hl
  have hx := C.1
  have hb := C.2.1
  unfold fX8_gave at hf
  refine lv_aload_n hx hb dX8_gave_0 rfl (lv_at hl 0 rfl) ?_
  refine lv_iload_n hx hb dX8_gave_1 rfl (lv_at hl 1 rfl) ?_
  obtain ⟨t_1, h_2, hf⟩ := sn_bd hf
  refine sn_callVi (rest := []) C hw (ctX8_isPerson l  h_2) kl_RX8_107 layC_0 rfl rfl rfl rfl (Nat.le_of_ble_eq_true rfl) dX8_gave_2 hl.1 (fun H locs hw => ?_)
  refine lv_if_ne (tgt := 11) hx hb dX8_gave_5 (by decide) (fun c_3 => ?_) (fun c_3 => ?_)
  · have hf := sn_el c_3 hf
    refine lv_aload_n hx hb dX8_gave_11 rfl (lv_at hl 0 rfl) ?_
    refine sn_getC (r := 27) C hw fd_RX8_44 layC_0 rfl dX8_gave_12 ?_
    refine sn_getC (r := (27 + 10)) C hw fd_RX8_131 (sn_look sn_isX0_27 (k := 0) rfl) rfl dX8_gave_15 ?_
    refine lv_iload_n hx hb dX8_gave_18 rfl (lv_at hl 1 rfl) ?_
    obtain ⟨g_4, hf⟩ := sn_gdE hf
    refine sn_iald C hw (sn_look sn_isX0_27 (k := 10) rfl) g_4 dX8_gave_19 ?_
    obtain ⟨t_5, h_6, hf⟩ := sn_bd hf
    refine sn_callSi (rest := []) C hw (ctX8_lowestBit l  h_6) kl_RX8_134 rfl rfl rfl (Nat.le_of_ble_eq_true rfl) dX8_gave_20 hl.1 (fun H locs hw => ?_)
    refine lv_istore_n (lv' := [(2, .int t_5), (0, .ref (ad 0)), (1, .int x1)]) hx hb dX8_gave_23 rfl hl (by decide) rfl (fun ls hl => ?_)
    refine lv_iload_n hx hb dX8_gave_24 rfl (lv_at hl 0 rfl) ?_
    refine lv_iconst (v := 1) hx hb dX8_gave_25 rfl ?_
    refine lv_icmp_ge (tgt := 31) hx hb dX8_gave_26 (by decide) (fun c_7 => ?_) (fun c_7 => ?_)
    · have hf := sn_if c_7 hf
      refine lv_aload_n hx hb dX8_gave_31 rfl (lv_at hl 1 rfl) ?_
      refine sn_getC (r := 27) C hw fd_RX8_44 layC_0 rfl dX8_gave_32 ?_
      refine sn_getC (r := (27 + 9)) C hw fd_RX8_145 (sn_look sn_isX0_27 (k := 0) rfl) rfl dX8_gave_35 ?_
      refine lv_iload_n hx hb dX8_gave_38 rfl (lv_at hl 0 rfl) ?_
      refine lv_iconst (v := 1) hx hb dX8_gave_39 rfl ?_
      refine lv_isub hx hb dX8_gave_40 ?_
      obtain ⟨g_8, hf⟩ := sn_gdE hf
      refine sn_iald C hw (sn_look sn_isX0_27 (k := 9) rfl) g_8 dX8_gave_41 ?_
      refine lv_aload_n hx hb dX8_gave_42 rfl (lv_at hl 1 rfl) ?_
      refine sn_getC (r := 1) C hw fd_RX8_10 layC_0 rfl dX8_gave_43 ?_
      refine lv_iload_n hx hb dX8_gave_46 rfl (lv_at hl 2 rfl) ?_
      obtain ⟨t_9, h_10, hf⟩ := sn_bd hf
      refine sn_callVi (rest := [.int (sn_I σ (27 + 9) (t_5 - (1 : Int32)).toNatClampNeg)]) C hw (ctX2_neighbours l sn_isX2_1 h_10) kl_RX8_121 (sn_look sn_isX2_1 (k := 0) rfl) rfl rfl rfl rfl (Nat.le_of_ble_eq_true rfl) dX8_gave_47 hl.1 (fun H locs hw => ?_)
      refine lv_iand hx hb dX8_gave_50 ?_
      cases hf
      exact kr _ _ _ _ hw rfl dX8_gave_51
    · have hf := sn_el c_7 hf
      refine lv_iconst (v := 0) hx hb dX8_gave_29 rfl ?_
      cases hf
      exact kr _ _ _ _ hw rfl dX8_gave_30
  · have hf := sn_if c_3 hf
    refine lv_bipush (v := (-2)) hx hb dX8_gave_8 (by decide) ?_
    cases hf
    exact kr _ _ _ _ hw rfl dX8_gave_10
theorem ctX8_gave (l : Launch) {σ : sn_S} {x1 : Int32}  {o : Int32} (hf : fX8_gave σ x1 = some o) : sn_M l yX8_gave cX8_gave 3 (some .int) rmX8_gave layC (fun ad => [.ref (ad 0), .int x1]) σ (some (fun _ => .int o)) σ :=
  sn_met (by decide) (fun _ => Nat.le_of_ble_eq_true rfl) (fun p e s m args below meth c ls D ct ad A C hw hl => wX8_gave_in C  hf (fun H locs ls pc hw ok hd => sn_iret C hw hd) _ _ _ hw hl)
-- X8_worst
abbrev rmX8_worst : Room := { frames := 1, cells := 0, slots := 0, locals := 20 }
def BX8_worst_58 (σ : sn_S) (x1 : Int32) : Option (Int32) :=
  (some x1)
def BX8_worst_52 (σ : sn_S) (x1 : Int32) (x2 : Int32) (x3 : Int32) : Option ((Int32 × Int32 × Int32) ⊕ (Int32)) :=
  (sn_lt (x3 + 1) fun y_1 => (some (.inl (x1, x2, y_1))))
def BX8_worst_16 (σ : sn_S) (x1 : Int32) (x2 : Int32) (x3 : Int32) : Option ((Int32 × Int32 × Int32) ⊕ (Int32)) :=
  (if (sn_I σ 27 1) ≤ x3 then
  (some (.inr (x1)))
  else
  (sn_gd (sn_in x3 6) ((fJ6_bitCount_0f7a4 (sn_I σ (27 + 10) x3.toNatClampNeg)).bind fun t_3 => (if t_3 ≤ x2 then
  (BX8_worst_52 σ x1 x2 x3)
  else
  (BX8_worst_52 σ x3 t_3 x3)))))
def LX8_worst_16 (σ : sn_S) (s : Int32 × Int32 × Int32) : Option ((Int32 × Int32 × Int32) ⊕ (Int32)) := BX8_worst_16 σ s.1 s.2.1 s.2.2
def fX8_worst (σ : sn_S) : Option Int32 :=
  ((fX8_isHouse σ).bind fun t_1 => (if t_1 = 0 then
  (some (-2 : Int32))
  else
  ((sn_it (LX8_worst_16 σ) 5000 ((-1 : Int32), (0 : Int32), (0 : Int32))).bind fun t_4 => (BX8_worst_58 σ t_4))))
theorem wX8_worst_58 (C : sn_C p s m args meth c RX8 cX8_worst 5 (some .int) D ct ad layC A) {σ : sn_S} {x1 : Int32}  {o : Int32} (hf : BX8_worst_58 σ x1 = some o) (kr : sn_Kr p l e rmX8_worst s m args below meth c Q D ct ad layC A cX8_worst .ireturn (true) σ [.int o]) : sn_At p l e rmX8_worst s m args below meth c Q D ct ad layC A 5 σ 58 [(1, .int x1)] [] := by
  intro H locs ls hw hl
  have hx := C.1
  have hb := C.2.1
  unfold BX8_worst_58 at hf
  refine lv_iload_n hx hb dX8_worst_58 rfl (lv_at hl 0 rfl) ?_
  cases hf
  exact kr _ _ _ _ hw rfl dX8_worst_59
theorem wX8_worst_52 (C : sn_C p s m args meth c RX8 cX8_worst 5 (some .int) D ct ad layC A) {σ : sn_S} {x1 : Int32} {x2 : Int32} {x3 : Int32}  {o : (Int32 × Int32 × Int32) ⊕ (Int32)} (hf : BX8_worst_52 σ x1 x2 x3 = some o) (kc : ∀ v, o = .inl v → sn_At p l e rmX8_worst s m args below meth c Q D ct ad layC A 5 σ 16 [(0, .ref (ad 0)), (1, .int v.1), (2, .int v.2.1), (3, .int v.2.2)] []) (kx : ∀ v, o = .inr v → sn_At p l e rmX8_worst s m args below meth c Q D ct ad layC A 5 σ 58 [(1, .int v)] []) : sn_At p l e rmX8_worst s m args below meth c Q D ct ad layC A 5 σ 52 [(0, .ref (ad 0)), (1, .int x1), (2, .int x2), (3, .int x3)] [] := by
  intro H locs ls hw hl
  have hx := C.1
  have hb := C.2.1
  unfold BX8_worst_52 at hf
  obtain ⟨y_1, e_2, hf⟩ := sn_ltE hf
  refine lv_iinc (v := y_1) (lv' := [(3, .int y_1), (0, .ref (ad 0)), (1, .int x1), (2, .int x2)]) hx hb dX8_worst_52 hl (k := 3) rfl (by rw [e_2]; rfl) (by decide) rfl (fun ls hl => ?_)
  refine lv_goto (tgt := 16) hx hb dX8_worst_55 (by decide) ?_
  cases hf
  exact kc _ rfl _ _ _ hw (lv_sub hl [1, 2, 3, 0] rfl)
theorem wX8_worst_16 (C : sn_C p s m args meth c RX8 cX8_worst 5 (some .int) D ct ad layC A) {σ : sn_S} {x1 : Int32} {x2 : Int32} {x3 : Int32}  {o : (Int32 × Int32 × Int32) ⊕ (Int32)} (hf : BX8_worst_16 σ x1 x2 x3 = some o) (kc : ∀ v, o = .inl v → sn_At p l e rmX8_worst s m args below meth c Q D ct ad layC A 5 σ 16 [(0, .ref (ad 0)), (1, .int v.1), (2, .int v.2.1), (3, .int v.2.2)] []) (kx : ∀ v, o = .inr v → sn_At p l e rmX8_worst s m args below meth c Q D ct ad layC A 5 σ 58 [(1, .int v)] []) : sn_At p l e rmX8_worst s m args below meth c Q D ct ad layC A 5 σ 16 [(0, .ref (ad 0)), (1, .int x1), (2, .int x2), (3, .int x3)] [] := by
  intro H locs ls hw hl
  have hx := C.1
  have hb := C.2.1
  unfold BX8_worst_16 at hf
  refine lv_iload_n hx hb dX8_worst_16 rfl (lv_at hl 3 rfl) ?_
  refine lv_aload_n hx hb dX8_worst_17 rfl (lv_at hl 0 rfl) ?_
  refine sn_getC (r := 27) C hw fd_RX8_44 layC_0 rfl dX8_worst_18 ?_
  refine sn_getI C hw fd_RX8_162 (sn_look sn_isX0_27 (k := 0) rfl) rfl dX8_worst_21 ?_
  refine lv_icmp_ge (tgt := 58) hx hb dX8_worst_24 (by decide) (fun c_1 => ?_) (fun c_1 => ?_)
  · have hf := sn_if c_1 hf
    cases hf
    exact kx _ rfl _ _ _ hw (lv_sub hl [1] rfl)
  · have hf := sn_el c_1 hf
    refine lv_aload_n hx hb dX8_worst_27 rfl (lv_at hl 0 rfl) ?_
    refine sn_getC (r := 27) C hw fd_RX8_44 layC_0 rfl dX8_worst_28 ?_
    refine sn_getC (r := (27 + 10)) C hw fd_RX8_131 (sn_look sn_isX0_27 (k := 0) rfl) rfl dX8_worst_31 ?_
    refine lv_iload_n hx hb dX8_worst_34 rfl (lv_at hl 3 rfl) ?_
    obtain ⟨g_2, hf⟩ := sn_gdE hf
    refine sn_iald C hw (sn_look sn_isX0_27 (k := 10) rfl) g_2 dX8_worst_35 ?_
    obtain ⟨t_3, h_4, hf⟩ := sn_bd hf
    refine sn_callSi (rest := []) C hw (ctJ6_bitCount_0f7a4 l  h_4) kl_RX8_165 rfl rfl rfl (Nat.le_of_ble_eq_true rfl) dX8_worst_36 hl.1 (fun H locs hw => ?_)
    refine lv_istore (lv' := [(4, .int t_3), (0, .ref (ad 0)), (1, .int x1), (2, .int x2), (3, .int x3)]) hx hb dX8_worst_39 hl (by decide) rfl (fun ls hl => ?_)
    refine lv_iload hx hb dX8_worst_41 (lv_at hl 0 rfl) ?_
    refine lv_iload_n hx hb dX8_worst_43 rfl (lv_at hl 3 rfl) ?_
    refine lv_icmp_le (tgt := 52) hx hb dX8_worst_44 (by decide) (fun c_5 => ?_) (fun c_5 => ?_)
    · have hf := sn_if c_5 hf
      exact wX8_worst_52 C  hf kc kx _ _ _ hw (lv_sub hl [1, 2, 3, 4] rfl)
    · have hf := sn_el c_5 hf
      refine lv_iload hx hb dX8_worst_47 (lv_at hl 0 rfl) ?_
      refine lv_istore_n (lv' := [(2, .int t_3), (4, .int t_3), (0, .ref (ad 0)), (1, .int x1), (3, .int x3)]) hx hb dX8_worst_49 rfl hl (by decide) rfl (fun ls hl => ?_)
      refine lv_iload_n hx hb dX8_worst_50 rfl (lv_at hl 4 rfl) ?_
      refine lv_istore_n (lv' := [(1, .int x3), (2, .int t_3), (4, .int t_3), (0, .ref (ad 0)), (3, .int x3)]) hx hb dX8_worst_51 rfl hl (by decide) rfl (fun ls hl => ?_)
      exact wX8_worst_52 C  hf kc kx _ _ _ hw (lv_sub hl [3, 0, 1, 4] rfl)
theorem wX8_worst_L16 (C : sn_C p s m args meth c RX8 cX8_worst 5 (some .int) D ct ad layC A) {σ : sn_S}   {z : Int32 × Int32 × Int32} {t : Int32} (h : sn_it (LX8_worst_16 σ) 5000 z = some t) (kx : ∀ v, t = v → sn_At p l e rmX8_worst s m args below meth c Q D ct ad layC A 5 σ 58 [(1, .int v)] []) : sn_At p l e rmX8_worst s m args below meth c Q D ct ad layC A 5 σ 16 [(0, .ref (ad 0)), (1, .int z.1), (2, .int z.2.1), (3, .int z.2.2)] [] :=
  sn_loop (f := LX8_worst_16 σ) (G := fun z => sn_At p l e rmX8_worst s m args below meth c Q D ct ad layC A 5 σ 16 [(0, .ref (ad 0)), (1, .int z.1), (2, .int z.2.1), (3, .int z.2.2)] []) (E := fun t => (∀ v, t = v → sn_At p l e rmX8_worst s m args below meth c Q D ct ad layC A 5 σ 58 [(1, .int v)] []) ∧ True) (fun z o hf k1 k2 => wX8_worst_16 C  hf (fun v e => k1 v e) (fun v e => (k2 _ e).1 v rfl)) 5000 z t h ⟨kx, trivial⟩
theorem wX8_worst_in (C : sn_C p s m args meth c RX8 cX8_worst 5 (some .int) D ct ad layC A) {σ : sn_S}  {o : Int32} (hf : fX8_worst σ = some o) (kr : sn_Kr p l e rmX8_worst s m args below meth c Q D ct ad layC A cX8_worst .ireturn (true) σ [.int o]) : sn_At p l e rmX8_worst s m args below meth c Q D ct ad layC A 5 σ 0 [(0, .ref (ad 0))] [] := by
  intro H locs ls hw hl
  have hx := C.1
  have hb := C.2.1
  unfold fX8_worst at hf
  refine lv_aload_n hx hb dX8_worst_0 rfl (lv_at hl 0 rfl) ?_
  obtain ⟨t_1, h_2, hf⟩ := sn_bd hf
  refine sn_callVi (rest := []) C hw (ctX8_isHouse l  h_2) kl_RX8_137 layC_0 rfl rfl rfl rfl (Nat.le_of_ble_eq_true rfl) dX8_worst_1 hl.1 (fun H locs hw => ?_)
  refine lv_if_ne (tgt := 10) hx hb dX8_worst_4 (by decide) (fun c_3 => ?_) (fun c_3 => ?_)
  · have hf := sn_el c_3 hf
    refine lv_iconst (v := (-1)) hx hb dX8_worst_10 rfl ?_
    refine lv_istore_n (lv' := [(1, .int (-1 : Int32)), (0, .ref (ad 0))]) hx hb dX8_worst_11 rfl hl (by decide) rfl (fun ls hl => ?_)
    refine lv_iconst (v := 0) hx hb dX8_worst_12 rfl ?_
    refine lv_istore_n (lv' := [(2, .int (0 : Int32)), (1, .int (-1 : Int32)), (0, .ref (ad 0))]) hx hb dX8_worst_13 rfl hl (by decide) rfl (fun ls hl => ?_)
    refine lv_iconst (v := 0) hx hb dX8_worst_14 rfl ?_
    refine lv_istore_n (lv' := [(3, .int (0 : Int32)), (2, .int (0 : Int32)), (1, .int (-1 : Int32)), (0, .ref (ad 0))]) hx hb dX8_worst_15 rfl hl (by decide) rfl (fun ls hl => ?_)
    obtain ⟨t_4, h_5, hf⟩ := sn_bd hf
    exact wX8_worst_L16 C  h_5 (fun v e => by cases e; exact wX8_worst_58 C  hf kr) _ _ _ hw (lv_sub hl [3, 2, 1, 0] rfl)
  · have hf := sn_if c_3 hf
    refine lv_bipush (v := (-2)) hx hb dX8_worst_7 (by decide) ?_
    cases hf
    exact kr _ _ _ _ hw rfl dX8_worst_9
theorem ctX8_worst (l : Launch) {σ : sn_S}  {o : Int32} (hf : fX8_worst σ = some o) : sn_M l yX8_worst cX8_worst 5 (some .int) rmX8_worst layC (fun ad => [.ref (ad 0)]) σ (some (fun _ => .int o)) σ :=
  sn_met (by decide) (fun _ => Nat.le_of_ble_eq_true rfl) (fun p e s m args below meth c ls D ct ad A C hw hl => wX8_worst_in C  hf (fun H locs ls pc hw ok hd => sn_iret C hw hd) _ _ _ hw hl)
-- X8_chorus
abbrev rmX8_chorus : Room := { frames := 1, cells := 0, slots := 0, locals := 32 }
def BX8_chorus_48 (σ : sn_S) (x1 : Int32) : Option (Int32) :=
  (some x1)
def BX8_chorus_14 (σ : sn_S) (x1 : Int32) (x2 : Int32) : Option ((Int32 × Int32) ⊕ (Int32)) :=
  (if (sn_I σ 27 0) ≤ x2 then
  (some (.inr (x1)))
  else
  (sn_gd (sn_in x2 30) ((fJ6_bitCount_0f7a4 (sn_I σ (27 + 9) x2.toNatClampNeg)).bind fun t_3 => (sn_lt (if x1 < t_3 then t_3 else x1) fun y_5 => (sn_lt (x2 + 1) fun y_7 => (some (.inl (y_5, y_7))))))))
def LX8_chorus_14 (σ : sn_S) (s : Int32 × Int32) : Option ((Int32 × Int32) ⊕ (Int32)) := BX8_chorus_14 σ s.1 s.2
def fX8_chorus (σ : sn_S) : Option Int32 :=
  ((fX8_isHouse σ).bind fun t_1 => (if t_1 = 0 then
  (some (-2 : Int32))
  else
  ((sn_it (LX8_chorus_14 σ) 5000 ((0 : Int32), (0 : Int32))).bind fun t_4 => (BX8_chorus_48 σ t_4))))
theorem wX8_chorus_48 (C : sn_C p s m args meth c RX8 cX8_chorus 3 (some .int) D ct ad layC A) {σ : sn_S} {x1 : Int32}  {o : Int32} (hf : BX8_chorus_48 σ x1 = some o) (kr : sn_Kr p l e rmX8_chorus s m args below meth c Q D ct ad layC A cX8_chorus .ireturn (true) σ [.int o]) : sn_At p l e rmX8_chorus s m args below meth c Q D ct ad layC A 3 σ 48 [(1, .int x1)] [] := by
  intro H locs ls hw hl
  have hx := C.1
  have hb := C.2.1
  unfold BX8_chorus_48 at hf
  refine lv_iload_n hx hb dX8_chorus_48 rfl (lv_at hl 0 rfl) ?_
  cases hf
  exact kr _ _ _ _ hw rfl dX8_chorus_49
theorem wX8_chorus_14 (C : sn_C p s m args meth c RX8 cX8_chorus 3 (some .int) D ct ad layC A) {σ : sn_S} {x1 : Int32} {x2 : Int32}  {o : (Int32 × Int32) ⊕ (Int32)} (hf : BX8_chorus_14 σ x1 x2 = some o) (kc : ∀ v, o = .inl v → sn_At p l e rmX8_chorus s m args below meth c Q D ct ad layC A 3 σ 14 [(0, .ref (ad 0)), (1, .int v.1), (2, .int v.2)] []) (kx : ∀ v, o = .inr v → sn_At p l e rmX8_chorus s m args below meth c Q D ct ad layC A 3 σ 48 [(1, .int v)] []) : sn_At p l e rmX8_chorus s m args below meth c Q D ct ad layC A 3 σ 14 [(0, .ref (ad 0)), (1, .int x1), (2, .int x2)] [] := by
  intro H locs ls hw hl
  have hx := C.1
  have hb := C.2.1
  unfold BX8_chorus_14 at hf
  refine lv_iload_n hx hb dX8_chorus_14 rfl (lv_at hl 2 rfl) ?_
  refine lv_aload_n hx hb dX8_chorus_15 rfl (lv_at hl 0 rfl) ?_
  refine sn_getC (r := 27) C hw fd_RX8_44 layC_0 rfl dX8_chorus_16 ?_
  refine sn_getI C hw fd_RX8_151 (sn_look sn_isX0_27 (k := 0) rfl) rfl dX8_chorus_19 ?_
  refine lv_icmp_ge (tgt := 48) hx hb dX8_chorus_22 (by decide) (fun c_1 => ?_) (fun c_1 => ?_)
  · have hf := sn_if c_1 hf
    cases hf
    exact kx _ rfl _ _ _ hw (lv_sub hl [1] rfl)
  · have hf := sn_el c_1 hf
    refine lv_iload_n hx hb dX8_chorus_25 rfl (lv_at hl 1 rfl) ?_
    refine lv_aload_n hx hb dX8_chorus_26 rfl (lv_at hl 0 rfl) ?_
    refine sn_getC (r := 27) C hw fd_RX8_44 layC_0 rfl dX8_chorus_27 ?_
    refine sn_getC (r := (27 + 9)) C hw fd_RX8_145 (sn_look sn_isX0_27 (k := 0) rfl) rfl dX8_chorus_30 ?_
    refine lv_iload_n hx hb dX8_chorus_33 rfl (lv_at hl 2 rfl) ?_
    obtain ⟨g_2, hf⟩ := sn_gdE hf
    refine sn_iald C hw (sn_look sn_isX0_27 (k := 9) rfl) g_2 dX8_chorus_34 ?_
    obtain ⟨t_3, h_4, hf⟩ := sn_bd hf
    refine sn_callSi (rest := [.int x1]) C hw (ctJ6_bitCount_0f7a4 l  h_4) kl_RX8_165 rfl rfl rfl (Nat.le_of_ble_eq_true rfl) dX8_chorus_35 hl.1 (fun H locs hw => ?_)
    refine va_mmax hx hb (C.2.2.1.trans hl.1.symm) C.2.2.2.1 (C.2.2.2.2.1 _ km_RX8_154) (C.2.2.2.2.1 _ kst_maxI) (C.2.2.2.2.1 _ ki_Math) (C.2.2.2.2.1 _ kc_maxI) (Nat.le_of_ble_eq_true rfl) (Nat.le_of_ble_eq_true rfl) (Nat.zero_le _) (Nat.zero_le _) dX8_chorus_38 ?_
    obtain ⟨y_5, e_6, hf⟩ := sn_ltE hf
    refine lv_topi (fun y_5_ e_6_ => ?_)
    obtain rfl : y_5 = y_5_ := e_6.trans e_6_.symm
    refine lv_istore_n (lv' := [(1, .int y_5), (0, .ref (ad 0)), (2, .int x2)]) hx hb dX8_chorus_41 rfl hl (by decide) rfl (fun ls hl => ?_)
    obtain ⟨y_7, e_8, hf⟩ := sn_ltE hf
    refine lv_iinc (v := y_7) (lv' := [(2, .int y_7), (1, .int y_5), (0, .ref (ad 0))]) hx hb dX8_chorus_42 hl (k := 2) rfl (by rw [e_8]; rfl) (by decide) rfl (fun ls hl => ?_)
    refine lv_goto (tgt := 14) hx hb dX8_chorus_45 (by decide) ?_
    cases hf
    exact kc _ rfl _ _ _ hw (lv_sub hl [2, 1, 0] rfl)
theorem wX8_chorus_L14 (C : sn_C p s m args meth c RX8 cX8_chorus 3 (some .int) D ct ad layC A) {σ : sn_S}   {z : Int32 × Int32} {t : Int32} (h : sn_it (LX8_chorus_14 σ) 5000 z = some t) (kx : ∀ v, t = v → sn_At p l e rmX8_chorus s m args below meth c Q D ct ad layC A 3 σ 48 [(1, .int v)] []) : sn_At p l e rmX8_chorus s m args below meth c Q D ct ad layC A 3 σ 14 [(0, .ref (ad 0)), (1, .int z.1), (2, .int z.2)] [] :=
  sn_loop (f := LX8_chorus_14 σ) (G := fun z => sn_At p l e rmX8_chorus s m args below meth c Q D ct ad layC A 3 σ 14 [(0, .ref (ad 0)), (1, .int z.1), (2, .int z.2)] []) (E := fun t => (∀ v, t = v → sn_At p l e rmX8_chorus s m args below meth c Q D ct ad layC A 3 σ 48 [(1, .int v)] []) ∧ True) (fun z o hf k1 k2 => wX8_chorus_14 C  hf (fun v e => k1 v e) (fun v e => (k2 _ e).1 v rfl)) 5000 z t h ⟨kx, trivial⟩
theorem wX8_chorus_in (C : sn_C p s m args meth c RX8 cX8_chorus 3 (some .int) D ct ad layC A) {σ : sn_S}  {o : Int32} (hf : fX8_chorus σ = some o) (kr : sn_Kr p l e rmX8_chorus s m args below meth c Q D ct ad layC A cX8_chorus .ireturn (true) σ [.int o]) : sn_At p l e rmX8_chorus s m args below meth c Q D ct ad layC A 3 σ 0 [(0, .ref (ad 0))] [] := by
  intro H locs ls hw hl
  have hx := C.1
  have hb := C.2.1
  unfold fX8_chorus at hf
  refine lv_aload_n hx hb dX8_chorus_0 rfl (lv_at hl 0 rfl) ?_
  obtain ⟨t_1, h_2, hf⟩ := sn_bd hf
  refine sn_callVi (rest := []) C hw (ctX8_isHouse l  h_2) kl_RX8_137 layC_0 rfl rfl rfl rfl (Nat.le_of_ble_eq_true rfl) dX8_chorus_1 hl.1 (fun H locs hw => ?_)
  refine lv_if_ne (tgt := 10) hx hb dX8_chorus_4 (by decide) (fun c_3 => ?_) (fun c_3 => ?_)
  · have hf := sn_el c_3 hf
    refine lv_iconst (v := 0) hx hb dX8_chorus_10 rfl ?_
    refine lv_istore_n (lv' := [(1, .int (0 : Int32)), (0, .ref (ad 0))]) hx hb dX8_chorus_11 rfl hl (by decide) rfl (fun ls hl => ?_)
    refine lv_iconst (v := 0) hx hb dX8_chorus_12 rfl ?_
    refine lv_istore_n (lv' := [(2, .int (0 : Int32)), (1, .int (0 : Int32)), (0, .ref (ad 0))]) hx hb dX8_chorus_13 rfl hl (by decide) rfl (fun ls hl => ?_)
    obtain ⟨t_4, h_5, hf⟩ := sn_bd hf
    exact wX8_chorus_L14 C  h_5 (fun v e => by cases e; exact wX8_chorus_48 C  hf kr) _ _ _ hw (lv_sub hl [2, 1, 0] rfl)
  · have hf := sn_if c_3 hf
    refine lv_bipush (v := (-2)) hx hb dX8_chorus_7 (by decide) ?_
    cases hf
    exact kr _ _ _ _ hw rfl dX8_chorus_9
theorem ctX8_chorus (l : Launch) {σ : sn_S}  {o : Int32} (hf : fX8_chorus σ = some o) : sn_M l yX8_chorus cX8_chorus 3 (some .int) rmX8_chorus layC (fun ad => [.ref (ad 0)]) σ (some (fun _ => .int o)) σ :=
  sn_met (by decide) (fun _ => Nat.le_of_ble_eq_true rfl) (fun p e s m args below meth c ls D ct ad A C hw hl => wX8_chorus_in C  hf (fun H locs ls pc hw ok hd => sn_iret C hw hd) _ _ _ hw hl)
-- X8_calm
abbrev rmX8_calm : Room := { frames := 1, cells := 0, slots := 0, locals := 32 }
def BX8_calm_59 (σ : sn_S) (x1 : Int32) : Option (Int32) :=
  (some x1)
def BX8_calm_46 (σ : sn_S) (x1 : Int32) (x2 : Int32) (x3 : Int32) (t0 : Int32) : Option ((Int32 × Int32 × Int32) ⊕ (Int32)) :=
  (sn_lt (if x1 < t0 then t0 else x1) fun y_1 => (sn_lt (x3 + 1) fun y_3 => (some (.inl (y_1, t0, y_3)))))
def BX8_calm_16 (σ : sn_S) (x1 : Int32) (x2 : Int32) (x3 : Int32) : Option ((Int32 × Int32 × Int32) ⊕ (Int32)) :=
  (if (sn_I σ 27 0) ≤ x3 then
  (some (.inr (x1)))
  else
  (sn_gd (sn_in x3 30) (if (sn_I σ (27 + 9) x3.toNatClampNeg) = 0 then
  (BX8_calm_46 σ x1 x2 x3 (x2 + (1 : Int32)))
  else
  (BX8_calm_46 σ x1 x2 x3 (0 : Int32)))))
def LX8_calm_16 (σ : sn_S) (s : Int32 × Int32 × Int32) : Option ((Int32 × Int32 × Int32) ⊕ (Int32)) := BX8_calm_16 σ s.1 s.2.1 s.2.2
def fX8_calm (σ : sn_S) : Option Int32 :=
  ((fX8_isHouse σ).bind fun t_1 => (if t_1 = 0 then
  (some (-2 : Int32))
  else
  ((sn_it (LX8_calm_16 σ) 5000 ((0 : Int32), (0 : Int32), (0 : Int32))).bind fun t_4 => (BX8_calm_59 σ t_4))))
theorem wX8_calm_59 (C : sn_C p s m args meth c RX8 cX8_calm 4 (some .int) D ct ad layC A) {σ : sn_S} {x1 : Int32}  {o : Int32} (hf : BX8_calm_59 σ x1 = some o) (kr : sn_Kr p l e rmX8_calm s m args below meth c Q D ct ad layC A cX8_calm .ireturn (true) σ [.int o]) : sn_At p l e rmX8_calm s m args below meth c Q D ct ad layC A 4 σ 59 [(1, .int x1)] [] := by
  intro H locs ls hw hl
  have hx := C.1
  have hb := C.2.1
  unfold BX8_calm_59 at hf
  refine lv_iload_n hx hb dX8_calm_59 rfl (lv_at hl 0 rfl) ?_
  cases hf
  exact kr _ _ _ _ hw rfl dX8_calm_60
theorem wX8_calm_46 (C : sn_C p s m args meth c RX8 cX8_calm 4 (some .int) D ct ad layC A) {σ : sn_S} {x1 : Int32} {x2 : Int32} {x3 : Int32} {t0 : Int32}  {o : (Int32 × Int32 × Int32) ⊕ (Int32)} (hf : BX8_calm_46 σ x1 x2 x3 t0 = some o) (kc : ∀ v, o = .inl v → sn_At p l e rmX8_calm s m args below meth c Q D ct ad layC A 4 σ 16 [(0, .ref (ad 0)), (1, .int v.1), (2, .int v.2.1), (3, .int v.2.2)] []) (kx : ∀ v, o = .inr v → sn_At p l e rmX8_calm s m args below meth c Q D ct ad layC A 4 σ 59 [(1, .int v)] []) : sn_At p l e rmX8_calm s m args below meth c Q D ct ad layC A 4 σ 46 [(0, .ref (ad 0)), (1, .int x1), (2, .int x2), (3, .int x3)] [.int t0] := by
  intro H locs ls hw hl
  have hx := C.1
  have hb := C.2.1
  unfold BX8_calm_46 at hf
  refine lv_istore_n (lv' := [(2, .int t0), (0, .ref (ad 0)), (1, .int x1), (3, .int x3)]) hx hb dX8_calm_46 rfl hl (by decide) rfl (fun ls hl => ?_)
  refine lv_iload_n hx hb dX8_calm_47 rfl (lv_at hl 2 rfl) ?_
  refine lv_iload_n hx hb dX8_calm_48 rfl (lv_at hl 0 rfl) ?_
  refine va_mmax hx hb (C.2.2.1.trans hl.1.symm) C.2.2.2.1 (C.2.2.2.2.1 _ km_RX8_154) (C.2.2.2.2.1 _ kst_maxI) (C.2.2.2.2.1 _ ki_Math) (C.2.2.2.2.1 _ kc_maxI) (Nat.le_of_ble_eq_true rfl) (Nat.le_of_ble_eq_true rfl) (Nat.zero_le _) (Nat.zero_le _) dX8_calm_49 ?_
  obtain ⟨y_1, e_2, hf⟩ := sn_ltE hf
  refine lv_topi (fun y_1_ e_2_ => ?_)
  obtain rfl : y_1 = y_1_ := e_2.trans e_2_.symm
  refine lv_istore_n (lv' := [(1, .int y_1), (2, .int t0), (0, .ref (ad 0)), (3, .int x3)]) hx hb dX8_calm_52 rfl hl (by decide) rfl (fun ls hl => ?_)
  obtain ⟨y_3, e_4, hf⟩ := sn_ltE hf
  refine lv_iinc (v := y_3) (lv' := [(3, .int y_3), (1, .int y_1), (2, .int t0), (0, .ref (ad 0))]) hx hb dX8_calm_53 hl (k := 3) rfl (by rw [e_4]; rfl) (by decide) rfl (fun ls hl => ?_)
  refine lv_goto (tgt := 16) hx hb dX8_calm_56 (by decide) ?_
  cases hf
  exact kc _ rfl _ _ _ hw (lv_sub hl [3, 1, 2, 0] rfl)
theorem wX8_calm_16 (C : sn_C p s m args meth c RX8 cX8_calm 4 (some .int) D ct ad layC A) {σ : sn_S} {x1 : Int32} {x2 : Int32} {x3 : Int32}  {o : (Int32 × Int32 × Int32) ⊕ (Int32)} (hf : BX8_calm_16 σ x1 x2 x3 = some o) (kc : ∀ v, o = .inl v → sn_At p l e rmX8_calm s m args below meth c Q D ct ad layC A 4 σ 16 [(0, .ref (ad 0)), (1, .int v.1), (2, .int v.2.1), (3, .int v.2.2)] []) (kx : ∀ v, o = .inr v → sn_At p l e rmX8_calm s m args below meth c Q D ct ad layC A 4 σ 59 [(1, .int v)] []) : sn_At p l e rmX8_calm s m args below meth c Q D ct ad layC A 4 σ 16 [(0, .ref (ad 0)), (1, .int x1), (2, .int x2), (3, .int x3)] [] := by
  intro H locs ls hw hl
  have hx := C.1
  have hb := C.2.1
  unfold BX8_calm_16 at hf
  refine lv_iload_n hx hb dX8_calm_16 rfl (lv_at hl 3 rfl) ?_
  refine lv_aload_n hx hb dX8_calm_17 rfl (lv_at hl 0 rfl) ?_
  refine sn_getC (r := 27) C hw fd_RX8_44 layC_0 rfl dX8_calm_18 ?_
  refine sn_getI C hw fd_RX8_151 (sn_look sn_isX0_27 (k := 0) rfl) rfl dX8_calm_21 ?_
  refine lv_icmp_ge (tgt := 59) hx hb dX8_calm_24 (by decide) (fun c_1 => ?_) (fun c_1 => ?_)
  · have hf := sn_if c_1 hf
    cases hf
    exact kx _ rfl _ _ _ hw (lv_sub hl [1] rfl)
  · have hf := sn_el c_1 hf
    refine lv_aload_n hx hb dX8_calm_27 rfl (lv_at hl 0 rfl) ?_
    refine sn_getC (r := 27) C hw fd_RX8_44 layC_0 rfl dX8_calm_28 ?_
    refine sn_getC (r := (27 + 9)) C hw fd_RX8_145 (sn_look sn_isX0_27 (k := 0) rfl) rfl dX8_calm_31 ?_
    refine lv_iload_n hx hb dX8_calm_34 rfl (lv_at hl 3 rfl) ?_
    obtain ⟨g_2, hf⟩ := sn_gdE hf
    refine sn_iald C hw (sn_look sn_isX0_27 (k := 9) rfl) g_2 dX8_calm_35 ?_
    refine lv_if_ne (tgt := 45) hx hb dX8_calm_36 (by decide) (fun c_3 => ?_) (fun c_3 => ?_)
    · have hf := sn_el c_3 hf
      refine lv_iconst (v := 0) hx hb dX8_calm_45 rfl ?_
      exact wX8_calm_46 C  hf kc kx _ _ _ hw (lv_sub hl [0, 1, 2, 3] rfl)
    · have hf := sn_if c_3 hf
      refine lv_iload_n hx hb dX8_calm_39 rfl (lv_at hl 2 rfl) ?_
      refine lv_iconst (v := 1) hx hb dX8_calm_40 rfl ?_
      refine lv_iadd hx hb dX8_calm_41 ?_
      refine lv_goto (tgt := 46) hx hb dX8_calm_42 (by decide) ?_
      exact wX8_calm_46 C  hf kc kx _ _ _ hw (lv_sub hl [0, 1, 2, 3] rfl)
theorem wX8_calm_L16 (C : sn_C p s m args meth c RX8 cX8_calm 4 (some .int) D ct ad layC A) {σ : sn_S}   {z : Int32 × Int32 × Int32} {t : Int32} (h : sn_it (LX8_calm_16 σ) 5000 z = some t) (kx : ∀ v, t = v → sn_At p l e rmX8_calm s m args below meth c Q D ct ad layC A 4 σ 59 [(1, .int v)] []) : sn_At p l e rmX8_calm s m args below meth c Q D ct ad layC A 4 σ 16 [(0, .ref (ad 0)), (1, .int z.1), (2, .int z.2.1), (3, .int z.2.2)] [] :=
  sn_loop (f := LX8_calm_16 σ) (G := fun z => sn_At p l e rmX8_calm s m args below meth c Q D ct ad layC A 4 σ 16 [(0, .ref (ad 0)), (1, .int z.1), (2, .int z.2.1), (3, .int z.2.2)] []) (E := fun t => (∀ v, t = v → sn_At p l e rmX8_calm s m args below meth c Q D ct ad layC A 4 σ 59 [(1, .int v)] []) ∧ True) (fun z o hf k1 k2 => wX8_calm_16 C  hf (fun v e => k1 v e) (fun v e => (k2 _ e).1 v rfl)) 5000 z t h ⟨kx, trivial⟩
theorem wX8_calm_in (C : sn_C p s m args meth c RX8 cX8_calm 4 (some .int) D ct ad layC A) {σ : sn_S}  {o : Int32} (hf : fX8_calm σ = some o) (kr : sn_Kr p l e rmX8_calm s m args below meth c Q D ct ad layC A cX8_calm .ireturn (true) σ [.int o]) : sn_At p l e rmX8_calm s m args below meth c Q D ct ad layC A 4 σ 0 [(0, .ref (ad 0))] [] := by
  intro H locs ls hw hl
  have hx := C.1
  have hb := C.2.1
  unfold fX8_calm at hf
  refine lv_aload_n hx hb dX8_calm_0 rfl (lv_at hl 0 rfl) ?_
  obtain ⟨t_1, h_2, hf⟩ := sn_bd hf
  refine sn_callVi (rest := []) C hw (ctX8_isHouse l  h_2) kl_RX8_137 layC_0 rfl rfl rfl rfl (Nat.le_of_ble_eq_true rfl) dX8_calm_1 hl.1 (fun H locs hw => ?_)
  refine lv_if_ne (tgt := 10) hx hb dX8_calm_4 (by decide) (fun c_3 => ?_) (fun c_3 => ?_)
  · have hf := sn_el c_3 hf
    refine lv_iconst (v := 0) hx hb dX8_calm_10 rfl ?_
    refine lv_istore_n (lv' := [(1, .int (0 : Int32)), (0, .ref (ad 0))]) hx hb dX8_calm_11 rfl hl (by decide) rfl (fun ls hl => ?_)
    refine lv_iconst (v := 0) hx hb dX8_calm_12 rfl ?_
    refine lv_istore_n (lv' := [(2, .int (0 : Int32)), (1, .int (0 : Int32)), (0, .ref (ad 0))]) hx hb dX8_calm_13 rfl hl (by decide) rfl (fun ls hl => ?_)
    refine lv_iconst (v := 0) hx hb dX8_calm_14 rfl ?_
    refine lv_istore_n (lv' := [(3, .int (0 : Int32)), (2, .int (0 : Int32)), (1, .int (0 : Int32)), (0, .ref (ad 0))]) hx hb dX8_calm_15 rfl hl (by decide) rfl (fun ls hl => ?_)
    obtain ⟨t_4, h_5, hf⟩ := sn_bd hf
    exact wX8_calm_L16 C  h_5 (fun v e => by cases e; exact wX8_calm_59 C  hf kr) _ _ _ hw (lv_sub hl [3, 2, 1, 0] rfl)
  · have hf := sn_if c_3 hf
    refine lv_bipush (v := (-2)) hx hb dX8_calm_7 (by decide) ?_
    cases hf
    exact kr _ _ _ _ hw rfl dX8_calm_9
theorem ctX8_calm (l : Launch) {σ : sn_S}  {o : Int32} (hf : fX8_calm σ = some o) : sn_M l yX8_calm cX8_calm 4 (some .int) rmX8_calm layC (fun ad => [.ref (ad 0)]) σ (some (fun _ => .int o)) σ :=
  sn_met (by decide) (fun _ => Nat.le_of_ble_eq_true rfl) (fun p e s m args below meth c ls D ct ad A C hw hl => wX8_calm_in C  hf (fun H locs ls pc hw ok hd => sn_iret C hw hd) _ _ _ hw hl)
-- X8_pause
abbrev rmX8_pause : Room := { frames := 1, cells := 0, slots := 0, locals := 21 }
def BX8_pause_79 (σ : sn_S) (x2 : Int32) : Option (Int32) :=
  (some x2)
def BX8_pause_73 (σ : sn_S) (x1 : Int32) (x2 : Int32) (x3 : Int32) (x4 : Int32) : Option ((Int32 × Int32 × Int32) ⊕ (Int32)) :=
  (sn_lt (x4 + 1) fun y_1 => (some (.inl (x2, x3, y_1))))
def BX8_pause_70 (σ : sn_S) (x1 : Int32) (x2 : Int32) (x3 : Int32) (x4 : Int32) : Option ((Int32 × Int32 × Int32) ⊕ (Int32)) :=
  (BX8_pause_73 σ x1 x2 x4 x4)
def BX8_pause_65 (σ : sn_S) (x1 : Int32) (x2 : Int32) (x3 : Int32) (x4 : Int32) : Option ((Int32 × Int32 × Int32) ⊕ (Int32)) :=
  (sn_lt (x4 - x3) fun y_1 => (BX8_pause_70 σ x1 y_1 x3 x4))
def BX8_pause_18 (σ : sn_S) (x1 : Int32) (x2 : Int32) (x3 : Int32) (x4 : Int32) : Option ((Int32 × Int32 × Int32) ⊕ (Int32)) :=
  (if (sn_I σ 27 0) ≤ x4 then
  (some (.inr (x2)))
  else
  (sn_gd (sn_in x1 6) ((fX8_hasBit (sn_I σ (27 + 10) x1.toNatClampNeg) x4).bind fun t_3 => (if t_3 = 0 then
  (BX8_pause_73 σ x1 x2 x3 x4)
  else
  (if x3 = (-1 : Int32) then
  (BX8_pause_70 σ x1 x2 x3 x4)
  else
  (if x2 = (-1 : Int32) then
  (BX8_pause_65 σ x1 x2 x3 x4)
  else
  (if x2 ≤ (x4 - x3) then
  (BX8_pause_70 σ x1 x2 x3 x4)
  else
  (BX8_pause_65 σ x1 x2 x3 x4))))))))
def LX8_pause_18 (σ : sn_S) (x1 : Int32) (s : Int32 × Int32 × Int32) : Option ((Int32 × Int32 × Int32) ⊕ (Int32)) := BX8_pause_18 σ x1 s.1 s.2.1 s.2.2
def fX8_pause (σ : sn_S) (x1 : Int32) : Option Int32 :=
  ((fX8_isPerson σ x1).bind fun t_1 => (if t_1 = 0 then
  (some (-2 : Int32))
  else
  ((sn_it (LX8_pause_18 σ x1) 5000 ((-1 : Int32), (-1 : Int32), (0 : Int32))).bind fun t_4 => (BX8_pause_79 σ t_4))))
theorem wX8_pause_79 (C : sn_C p s m args meth c RX8 cX8_pause 5 (some .int) D ct ad layC A) {σ : sn_S} {x2 : Int32}  {o : Int32} (hf : BX8_pause_79 σ x2 = some o) (kr : sn_Kr p l e rmX8_pause s m args below meth c Q D ct ad layC A cX8_pause .ireturn (true) σ [.int o]) : sn_At p l e rmX8_pause s m args below meth c Q D ct ad layC A 5 σ 79 [(2, .int x2)] [] := by
  intro H locs ls hw hl
  have hx := C.1
  have hb := C.2.1
  unfold BX8_pause_79 at hf
  refine lv_iload_n hx hb dX8_pause_79 rfl (lv_at hl 0 rfl) ?_
  cases hf
  exact kr _ _ _ _ hw rfl dX8_pause_80
theorem wX8_pause_73 (C : sn_C p s m args meth c RX8 cX8_pause 5 (some .int) D ct ad layC A) {σ : sn_S} {x1 : Int32} {x2 : Int32} {x3 : Int32} {x4 : Int32}  {o : (Int32 × Int32 × Int32) ⊕ (Int32)} (hf : BX8_pause_73 σ x1 x2 x3 x4 = some o) (kc : ∀ v, o = .inl v → sn_At p l e rmX8_pause s m args below meth c Q D ct ad layC A 5 σ 18 [(0, .ref (ad 0)), (1, .int x1), (2, .int v.1), (3, .int v.2.1), (4, .int v.2.2)] []) (kx : ∀ v, o = .inr v → sn_At p l e rmX8_pause s m args below meth c Q D ct ad layC A 5 σ 79 [(2, .int v)] []) : sn_At p l e rmX8_pause s m args below meth c Q D ct ad layC A 5 σ 73 [(0, .ref (ad 0)), (1, .int x1), (2, .int x2), (3, .int x3), (4, .int x4)] [] := by
  intro H locs ls hw hl
  have hx := C.1
  have hb := C.2.1
  unfold BX8_pause_73 at hf
  obtain ⟨y_1, e_2, hf⟩ := sn_ltE hf
  refine lv_iinc (v := y_1) (lv' := [(4, .int y_1), (0, .ref (ad 0)), (1, .int x1), (2, .int x2), (3, .int x3)]) hx hb dX8_pause_73 hl (k := 4) rfl (by rw [e_2]; rfl) (by decide) rfl (fun ls hl => ?_)
  refine lv_goto (tgt := 18) hx hb dX8_pause_76 (by decide) ?_
  cases hf
  exact kc _ rfl _ _ _ hw (lv_sub hl [1, 2, 3, 4, 0] rfl)
theorem wX8_pause_70 (C : sn_C p s m args meth c RX8 cX8_pause 5 (some .int) D ct ad layC A) {σ : sn_S} {x1 : Int32} {x2 : Int32} {x3 : Int32} {x4 : Int32}  {o : (Int32 × Int32 × Int32) ⊕ (Int32)} (hf : BX8_pause_70 σ x1 x2 x3 x4 = some o) (kc : ∀ v, o = .inl v → sn_At p l e rmX8_pause s m args below meth c Q D ct ad layC A 5 σ 18 [(0, .ref (ad 0)), (1, .int x1), (2, .int v.1), (3, .int v.2.1), (4, .int v.2.2)] []) (kx : ∀ v, o = .inr v → sn_At p l e rmX8_pause s m args below meth c Q D ct ad layC A 5 σ 79 [(2, .int v)] []) : sn_At p l e rmX8_pause s m args below meth c Q D ct ad layC A 5 σ 70 [(0, .ref (ad 0)), (1, .int x1), (2, .int x2), (3, .int x3), (4, .int x4)] [] := by
  intro H locs ls hw hl
  have hx := C.1
  have hb := C.2.1
  unfold BX8_pause_70 at hf
  refine lv_iload hx hb dX8_pause_70 (lv_at hl 4 rfl) ?_
  refine lv_istore_n (lv' := [(3, .int x4), (0, .ref (ad 0)), (1, .int x1), (2, .int x2), (4, .int x4)]) hx hb dX8_pause_72 rfl hl (by decide) rfl (fun ls hl => ?_)
  exact wX8_pause_73 C  hf kc kx _ _ _ hw (lv_sub hl [1, 2, 3, 0, 4] rfl)
theorem wX8_pause_65 (C : sn_C p s m args meth c RX8 cX8_pause 5 (some .int) D ct ad layC A) {σ : sn_S} {x1 : Int32} {x2 : Int32} {x3 : Int32} {x4 : Int32}  {o : (Int32 × Int32 × Int32) ⊕ (Int32)} (hf : BX8_pause_65 σ x1 x2 x3 x4 = some o) (kc : ∀ v, o = .inl v → sn_At p l e rmX8_pause s m args below meth c Q D ct ad layC A 5 σ 18 [(0, .ref (ad 0)), (1, .int x1), (2, .int v.1), (3, .int v.2.1), (4, .int v.2.2)] []) (kx : ∀ v, o = .inr v → sn_At p l e rmX8_pause s m args below meth c Q D ct ad layC A 5 σ 79 [(2, .int v)] []) : sn_At p l e rmX8_pause s m args below meth c Q D ct ad layC A 5 σ 65 [(0, .ref (ad 0)), (1, .int x1), (2, .int x2), (3, .int x3), (4, .int x4)] [] := by
  intro H locs ls hw hl
  have hx := C.1
  have hb := C.2.1
  unfold BX8_pause_65 at hf
  refine lv_iload hx hb dX8_pause_65 (lv_at hl 4 rfl) ?_
  refine lv_iload_n hx hb dX8_pause_67 rfl (lv_at hl 3 rfl) ?_
  refine lv_isub hx hb dX8_pause_68 ?_
  obtain ⟨y_1, e_2, hf⟩ := sn_ltE hf
  refine lv_topi (fun y_1_ e_2_ => ?_)
  obtain rfl : y_1 = y_1_ := e_2.trans e_2_.symm
  refine lv_istore_n (lv' := [(2, .int y_1), (0, .ref (ad 0)), (1, .int x1), (3, .int x3), (4, .int x4)]) hx hb dX8_pause_69 rfl hl (by decide) rfl (fun ls hl => ?_)
  exact wX8_pause_70 C  hf kc kx _ _ _ hw (lv_sub hl [1, 2, 0, 3, 4] rfl)
theorem wX8_pause_18 (C : sn_C p s m args meth c RX8 cX8_pause 5 (some .int) D ct ad layC A) {σ : sn_S} {x1 : Int32} {x2 : Int32} {x3 : Int32} {x4 : Int32}  {o : (Int32 × Int32 × Int32) ⊕ (Int32)} (hf : BX8_pause_18 σ x1 x2 x3 x4 = some o) (kc : ∀ v, o = .inl v → sn_At p l e rmX8_pause s m args below meth c Q D ct ad layC A 5 σ 18 [(0, .ref (ad 0)), (1, .int x1), (2, .int v.1), (3, .int v.2.1), (4, .int v.2.2)] []) (kx : ∀ v, o = .inr v → sn_At p l e rmX8_pause s m args below meth c Q D ct ad layC A 5 σ 79 [(2, .int v)] []) : sn_At p l e rmX8_pause s m args below meth c Q D ct ad layC A 5 σ 18 [(0, .ref (ad 0)), (1, .int x1), (2, .int x2), (3, .int x3), (4, .int x4)] [] := by
  intro H locs ls hw hl
  have hx := C.1
  have hb := C.2.1
  unfold BX8_pause_18 at hf
  refine lv_iload hx hb dX8_pause_18 (lv_at hl 4 rfl) ?_
  refine lv_aload_n hx hb dX8_pause_20 rfl (lv_at hl 0 rfl) ?_
  refine sn_getC (r := 27) C hw fd_RX8_44 layC_0 rfl dX8_pause_21 ?_
  refine sn_getI C hw fd_RX8_151 (sn_look sn_isX0_27 (k := 0) rfl) rfl dX8_pause_24 ?_
  refine lv_icmp_ge (tgt := 79) hx hb dX8_pause_27 (by decide) (fun c_1 => ?_) (fun c_1 => ?_)
  · have hf := sn_if c_1 hf
    cases hf
    exact kx _ rfl _ _ _ hw (lv_sub hl [2] rfl)
  · have hf := sn_el c_1 hf
    refine lv_aload_n hx hb dX8_pause_30 rfl (lv_at hl 0 rfl) ?_
    refine sn_getC (r := 27) C hw fd_RX8_44 layC_0 rfl dX8_pause_31 ?_
    refine sn_getC (r := (27 + 10)) C hw fd_RX8_131 (sn_look sn_isX0_27 (k := 0) rfl) rfl dX8_pause_34 ?_
    refine lv_iload_n hx hb dX8_pause_37 rfl (lv_at hl 1 rfl) ?_
    obtain ⟨g_2, hf⟩ := sn_gdE hf
    refine sn_iald C hw (sn_look sn_isX0_27 (k := 10) rfl) g_2 dX8_pause_38 ?_
    refine lv_iload hx hb dX8_pause_39 (lv_at hl 4 rfl) ?_
    obtain ⟨t_3, h_4, hf⟩ := sn_bd hf
    refine sn_callSi (rest := []) C hw (ctX8_hasBit l  h_4) kl_RX8_170 rfl rfl rfl (Nat.le_of_ble_eq_true rfl) dX8_pause_41 hl.1 (fun H locs hw => ?_)
    refine lv_if_eq (tgt := 73) hx hb dX8_pause_44 (by decide) (fun c_5 => ?_) (fun c_5 => ?_)
    · have hf := sn_if c_5 hf
      exact wX8_pause_73 C  hf kc kx _ _ _ hw (lv_sub hl [0, 1, 2, 3, 4] rfl)
    · have hf := sn_el c_5 hf
      refine lv_iload_n hx hb dX8_pause_47 rfl (lv_at hl 3 rfl) ?_
      refine lv_iconst (v := (-1)) hx hb dX8_pause_48 rfl ?_
      refine lv_icmp_eq (tgt := 70) hx hb dX8_pause_49 (by decide) (fun c_6 => ?_) (fun c_6 => ?_)
      · have hf := sn_if c_6 hf
        exact wX8_pause_70 C  hf kc kx _ _ _ hw (lv_sub hl [0, 1, 2, 3, 4] rfl)
      · have hf := sn_el c_6 hf
        refine lv_iload_n hx hb dX8_pause_52 rfl (lv_at hl 2 rfl) ?_
        refine lv_iconst (v := (-1)) hx hb dX8_pause_53 rfl ?_
        refine lv_icmp_eq (tgt := 65) hx hb dX8_pause_54 (by decide) (fun c_7 => ?_) (fun c_7 => ?_)
        · have hf := sn_if c_7 hf
          exact wX8_pause_65 C  hf kc kx _ _ _ hw (lv_sub hl [0, 1, 2, 3, 4] rfl)
        · have hf := sn_el c_7 hf
          refine lv_iload hx hb dX8_pause_57 (lv_at hl 4 rfl) ?_
          refine lv_iload_n hx hb dX8_pause_59 rfl (lv_at hl 3 rfl) ?_
          refine lv_isub hx hb dX8_pause_60 ?_
          refine lv_iload_n hx hb dX8_pause_61 rfl (lv_at hl 2 rfl) ?_
          refine lv_icmp_ge (tgt := 70) hx hb dX8_pause_62 (by decide) (fun c_8 => ?_) (fun c_8 => ?_)
          · have hf := sn_if c_8 hf
            exact wX8_pause_70 C  hf kc kx _ _ _ hw (lv_sub hl [0, 1, 2, 3, 4] rfl)
          · have hf := sn_el c_8 hf
            exact wX8_pause_65 C  hf kc kx _ _ _ hw (lv_sub hl [0, 1, 2, 3, 4] rfl)
theorem wX8_pause_L18 (C : sn_C p s m args meth c RX8 cX8_pause 5 (some .int) D ct ad layC A) {σ : sn_S} {x1 : Int32}   {z : Int32 × Int32 × Int32} {t : Int32} (h : sn_it (LX8_pause_18 σ x1) 5000 z = some t) (kx : ∀ v, t = v → sn_At p l e rmX8_pause s m args below meth c Q D ct ad layC A 5 σ 79 [(2, .int v)] []) : sn_At p l e rmX8_pause s m args below meth c Q D ct ad layC A 5 σ 18 [(0, .ref (ad 0)), (1, .int x1), (2, .int z.1), (3, .int z.2.1), (4, .int z.2.2)] [] :=
  sn_loop (f := LX8_pause_18 σ x1) (G := fun z => sn_At p l e rmX8_pause s m args below meth c Q D ct ad layC A 5 σ 18 [(0, .ref (ad 0)), (1, .int x1), (2, .int z.1), (3, .int z.2.1), (4, .int z.2.2)] []) (E := fun t => (∀ v, t = v → sn_At p l e rmX8_pause s m args below meth c Q D ct ad layC A 5 σ 79 [(2, .int v)] []) ∧ True) (fun z o hf k1 k2 => wX8_pause_18 C  hf (fun v e => k1 v e) (fun v e => (k2 _ e).1 v rfl)) 5000 z t h ⟨kx, trivial⟩
theorem wX8_pause_in (C : sn_C p s m args meth c RX8 cX8_pause 5 (some .int) D ct ad layC A) {σ : sn_S} {x1 : Int32}  {o : Int32} (hf : fX8_pause σ x1 = some o) (kr : sn_Kr p l e rmX8_pause s m args below meth c Q D ct ad layC A cX8_pause .ireturn (true) σ [.int o]) : sn_At p l e rmX8_pause s m args below meth c Q D ct ad layC A 5 σ 0 [(0, .ref (ad 0)), (1, .int x1)] [] := by
  intro H locs ls hw hl
  have hx := C.1
  have hb := C.2.1
  unfold fX8_pause at hf
  refine lv_aload_n hx hb dX8_pause_0 rfl (lv_at hl 0 rfl) ?_
  refine lv_iload_n hx hb dX8_pause_1 rfl (lv_at hl 1 rfl) ?_
  obtain ⟨t_1, h_2, hf⟩ := sn_bd hf
  refine sn_callVi (rest := []) C hw (ctX8_isPerson l  h_2) kl_RX8_107 layC_0 rfl rfl rfl rfl (Nat.le_of_ble_eq_true rfl) dX8_pause_2 hl.1 (fun H locs hw => ?_)
  refine lv_if_ne (tgt := 11) hx hb dX8_pause_5 (by decide) (fun c_3 => ?_) (fun c_3 => ?_)
  · have hf := sn_el c_3 hf
    refine lv_iconst (v := (-1)) hx hb dX8_pause_11 rfl ?_
    refine lv_istore_n (lv' := [(2, .int (-1 : Int32)), (0, .ref (ad 0)), (1, .int x1)]) hx hb dX8_pause_12 rfl hl (by decide) rfl (fun ls hl => ?_)
    refine lv_iconst (v := (-1)) hx hb dX8_pause_13 rfl ?_
    refine lv_istore_n (lv' := [(3, .int (-1 : Int32)), (2, .int (-1 : Int32)), (0, .ref (ad 0)), (1, .int x1)]) hx hb dX8_pause_14 rfl hl (by decide) rfl (fun ls hl => ?_)
    refine lv_iconst (v := 0) hx hb dX8_pause_15 rfl ?_
    refine lv_istore (lv' := [(4, .int (0 : Int32)), (3, .int (-1 : Int32)), (2, .int (-1 : Int32)), (0, .ref (ad 0)), (1, .int x1)]) hx hb dX8_pause_16 hl (by decide) rfl (fun ls hl => ?_)
    obtain ⟨t_4, h_5, hf⟩ := sn_bd hf
    exact wX8_pause_L18 C  h_5 (fun v e => by cases e; exact wX8_pause_79 C  hf kr) _ _ _ hw (lv_sub hl [3, 4, 2, 1, 0] rfl)
  · have hf := sn_if c_3 hf
    refine lv_bipush (v := (-2)) hx hb dX8_pause_8 (by decide) ?_
    cases hf
    exact kr _ _ _ _ hw rfl dX8_pause_10
theorem ctX8_pause (l : Launch) {σ : sn_S} {x1 : Int32}  {o : Int32} (hf : fX8_pause σ x1 = some o) : sn_M l yX8_pause cX8_pause 5 (some .int) rmX8_pause layC (fun ad => [.ref (ad 0), .int x1]) σ (some (fun _ => .int o)) σ :=
  sn_met (by decide) (fun _ => Nat.le_of_ble_eq_true rfl) (fun p e s m args below meth c ls D ct ad A C hw hl => wX8_pause_in C  hf (fun H locs ls pc hw ok hd => sn_iret C hw hd) _ _ _ hw hl)
-- X8_later
abbrev rmX8_later : Room := { frames := 2, cells := 0, slots := 0, locals := 40 }
def fX8_later (σ : sn_S) (x1 : Int32) (x2 : Int32) : Option Int32 :=
  ((fX8_isPerson σ x1).bind fun t_1 => (if t_1 = 0 then
  (some (-2 : Int32))
  else
  ((fX8_isMinute σ x2).bind fun t_4 => (if t_4 = 0 then
  (some (-2 : Int32))
  else
  (sn_gd (sn_in x1 6) ((fX8_firstMinutes x2).bind fun t_8 => ((fX8_lowestBit ((sn_I σ (27 + 10) x1.toNatClampNeg) &&& (t_8 ^^^ (-1 : Int32)))).bind fun t_10 => (some t_10))))))))
theorem wX8_later_in (C : sn_C p s m args meth c RX8 cX8_later 3 (some .int) D ct ad layC A) {σ : sn_S} {x1 : Int32} {x2 : Int32}  {o : Int32} (hf : fX8_later σ x1 x2 = some o) (kr : sn_Kr p l e rmX8_later s m args below meth c Q D ct ad layC A cX8_later .ireturn (true) σ [.int o]) : sn_At p l e rmX8_later s m args below meth c Q D ct ad layC A 3 σ 0 [(0, .ref (ad 0)), (1, .int x1), (2, .int x2)] [] := by
  intro H locs ls hw hl
  have hx := C.1
  have hb := C.2.1
  unfold fX8_later at hf
  refine lv_aload_n hx hb dX8_later_0 rfl (lv_at hl 0 rfl) ?_
  refine lv_iload_n hx hb dX8_later_1 rfl (lv_at hl 1 rfl) ?_
  obtain ⟨t_1, h_2, hf⟩ := sn_bd hf
  refine sn_callVi (rest := []) C hw (ctX8_isPerson l  h_2) kl_RX8_107 layC_0 rfl rfl rfl rfl (Nat.le_of_ble_eq_true rfl) dX8_later_2 hl.1 (fun H locs hw => ?_)
  refine lv_if_eq (tgt := 16) hx hb dX8_later_5 (by decide) (fun c_3 => ?_) (fun c_3 => ?_)
  · have hf := sn_if c_3 hf
    refine lv_bipush (v := (-2)) hx hb dX8_later_16 (by decide) ?_
    cases hf
    exact kr _ _ _ _ hw rfl dX8_later_18
  · have hf := sn_el c_3 hf
    refine lv_aload_n hx hb dX8_later_8 rfl (lv_at hl 0 rfl) ?_
    refine lv_iload_n hx hb dX8_later_9 rfl (lv_at hl 2 rfl) ?_
    obtain ⟨t_4, h_5, hf⟩ := sn_bd hf
    refine sn_callVi (rest := []) C hw (ctX8_isMinute l  h_5) kl_RX8_125 layC_0 rfl rfl rfl rfl (Nat.le_of_ble_eq_true rfl) dX8_later_10 hl.1 (fun H locs hw => ?_)
    refine lv_if_ne (tgt := 19) hx hb dX8_later_13 (by decide) (fun c_6 => ?_) (fun c_6 => ?_)
    · have hf := sn_el c_6 hf
      refine lv_aload_n hx hb dX8_later_19 rfl (lv_at hl 0 rfl) ?_
      refine sn_getC (r := 27) C hw fd_RX8_44 layC_0 rfl dX8_later_20 ?_
      refine sn_getC (r := (27 + 10)) C hw fd_RX8_131 (sn_look sn_isX0_27 (k := 0) rfl) rfl dX8_later_23 ?_
      refine lv_iload_n hx hb dX8_later_26 rfl (lv_at hl 1 rfl) ?_
      obtain ⟨g_7, hf⟩ := sn_gdE hf
      refine sn_iald C hw (sn_look sn_isX0_27 (k := 10) rfl) g_7 dX8_later_27 ?_
      refine lv_iload_n hx hb dX8_later_28 rfl (lv_at hl 2 rfl) ?_
      obtain ⟨t_8, h_9, hf⟩ := sn_bd hf
      refine sn_callSi (rest := [.int (sn_I σ (27 + 10) x1.toNatClampNeg)]) C hw (ctX8_firstMinutes l  h_9) kl_RX8_174 rfl rfl rfl (Nat.le_of_ble_eq_true rfl) dX8_later_29 hl.1 (fun H locs hw => ?_)
      refine lv_iconst (v := (-1)) hx hb dX8_later_32 rfl ?_
      refine lv_ixor hx hb dX8_later_33 ?_
      refine lv_iand hx hb dX8_later_34 ?_
      obtain ⟨t_10, h_11, hf⟩ := sn_bd hf
      refine sn_callSi (rest := []) C hw (ctX8_lowestBit l  h_11) kl_RX8_134 rfl rfl rfl (Nat.le_of_ble_eq_true rfl) dX8_later_35 hl.1 (fun H locs hw => ?_)
      cases hf
      exact kr _ _ _ _ hw rfl dX8_later_38
    · have hf := sn_if c_6 hf
      refine lv_bipush (v := (-2)) hx hb dX8_later_16 (by decide) ?_
      cases hf
      exact kr _ _ _ _ hw rfl dX8_later_18
theorem ctX8_later (l : Launch) {σ : sn_S} {x1 : Int32} {x2 : Int32}  {o : Int32} (hf : fX8_later σ x1 x2 = some o) : sn_M l yX8_later cX8_later 3 (some .int) rmX8_later layC (fun ad => [.ref (ad 0), .int x1, .int x2]) σ (some (fun _ => .int o)) σ :=
  sn_met (by decide) (fun _ => Nat.le_of_ble_eq_true rfl) (fun p e s m args below meth c ls D ct ad A C hw hl => wX8_later_in C  hf (fun H locs ls pc hw ok hd => sn_iret C hw hd) _ _ _ hw hl)
-- X8_minutesCovered
abbrev rmX8_minutesCovered : Room := { frames := 1, cells := 0, slots := 0, locals := 22 }
def BX8_minutesCovered_48 (σ : sn_S) (x2 : Int32) : Option (Int32) :=
  (sn_gd (sn_in (0 : Int32) 11) ((fX8_firstMinutes (sn_I σ (1 + 1) (0 : Int32).toNatClampNeg)).bind fun t_2 => (some (x2 &&& t_2))))
def BX8_minutesCovered_42 (σ : sn_S) (x1 : Int32) (x2 : Int32) (x3 : Int32) : Option ((Int32 × Int32) ⊕ (Int32)) :=
  (sn_lt (x3 + 1) fun y_1 => (some (.inl (x2, y_1))))
def BX8_minutesCovered_4 (σ : sn_S) (x1 : Int32) (x2 : Int32) (x3 : Int32) : Option ((Int32 × Int32) ⊕ (Int32)) :=
  (sn_gd (sn_in (8 : Int32) 11) (if (sn_I σ (1 + 1) (8 : Int32).toNatClampNeg) ≤ x3 then
  (some (.inr (x2)))
  else
  ((fX2_ofPolicy σ 1 x3 (0 : Int32)).bind fun t_3 => (if t_3 = x1 then
  ((fX2_window σ 1 x3).bind fun t_6 => (sn_lt (x2 ||| t_6) fun y_8 => (BX8_minutesCovered_42 σ x1 y_8 x3)))
  else
  (BX8_minutesCovered_42 σ x1 x2 x3)))))
def LX8_minutesCovered_4 (σ : sn_S) (x1 : Int32) (s : Int32 × Int32) : Option ((Int32 × Int32) ⊕ (Int32)) := BX8_minutesCovered_4 σ x1 s.1 s.2
def fX8_minutesCovered (σ : sn_S) (x1 : Int32) : Option Int32 :=
  ((sn_it (LX8_minutesCovered_4 σ x1) 5000 ((0 : Int32), (0 : Int32))).bind fun t_1 => (BX8_minutesCovered_48 σ t_1))
theorem wX8_minutesCovered_48 (C : sn_C p s m args meth c RX8 cX8_minutesCovered 4 (some .int) D ct ad layC A) {σ : sn_S} {x2 : Int32}  {o : Int32} (hf : BX8_minutesCovered_48 σ x2 = some o) (kr : sn_Kr p l e rmX8_minutesCovered s m args below meth c Q D ct ad layC A cX8_minutesCovered .ireturn (true) σ [.int o]) : sn_At p l e rmX8_minutesCovered s m args below meth c Q D ct ad layC A 4 σ 48 [(0, .ref (ad 0)), (2, .int x2)] [] := by
  intro H locs ls hw hl
  have hx := C.1
  have hb := C.2.1
  unfold BX8_minutesCovered_48 at hf
  refine lv_iload_n hx hb dX8_minutesCovered_48 rfl (lv_at hl 1 rfl) ?_
  refine lv_aload_n hx hb dX8_minutesCovered_49 rfl (lv_at hl 0 rfl) ?_
  refine sn_getC (r := 1) C hw fd_RX8_10 layC_0 rfl dX8_minutesCovered_50 ?_
  refine sn_getC (r := (1 + 1)) C hw fd_RX8_100 (sn_look sn_isX2_1 (k := 0) rfl) rfl dX8_minutesCovered_53 ?_
  refine lv_iconst (v := 0) hx hb dX8_minutesCovered_56 rfl ?_
  obtain ⟨g_1, hf⟩ := sn_gdE hf
  refine sn_iald C hw (sn_look sn_isX2_1 (k := 1) rfl) g_1 dX8_minutesCovered_57 ?_
  obtain ⟨t_2, h_3, hf⟩ := sn_bd hf
  refine sn_callSi (rest := [.int x2]) C hw (ctX8_firstMinutes l  h_3) kl_RX8_174 rfl rfl rfl (Nat.le_of_ble_eq_true rfl) dX8_minutesCovered_58 hl.1 (fun H locs hw => ?_)
  refine lv_iand hx hb dX8_minutesCovered_61 ?_
  cases hf
  exact kr _ _ _ _ hw rfl dX8_minutesCovered_62
theorem wX8_minutesCovered_42 (C : sn_C p s m args meth c RX8 cX8_minutesCovered 4 (some .int) D ct ad layC A) {σ : sn_S} {x1 : Int32} {x2 : Int32} {x3 : Int32}  {o : (Int32 × Int32) ⊕ (Int32)} (hf : BX8_minutesCovered_42 σ x1 x2 x3 = some o) (kc : ∀ v, o = .inl v → sn_At p l e rmX8_minutesCovered s m args below meth c Q D ct ad layC A 4 σ 4 [(0, .ref (ad 0)), (1, .int x1), (2, .int v.1), (3, .int v.2)] []) (kx : ∀ v, o = .inr v → sn_At p l e rmX8_minutesCovered s m args below meth c Q D ct ad layC A 4 σ 48 [(0, .ref (ad 0)), (2, .int v)] []) : sn_At p l e rmX8_minutesCovered s m args below meth c Q D ct ad layC A 4 σ 42 [(0, .ref (ad 0)), (1, .int x1), (2, .int x2), (3, .int x3)] [] := by
  intro H locs ls hw hl
  have hx := C.1
  have hb := C.2.1
  unfold BX8_minutesCovered_42 at hf
  obtain ⟨y_1, e_2, hf⟩ := sn_ltE hf
  refine lv_iinc (v := y_1) (lv' := [(3, .int y_1), (0, .ref (ad 0)), (1, .int x1), (2, .int x2)]) hx hb dX8_minutesCovered_42 hl (k := 3) rfl (by rw [e_2]; rfl) (by decide) rfl (fun ls hl => ?_)
  refine lv_goto (tgt := 4) hx hb dX8_minutesCovered_45 (by decide) ?_
  cases hf
  exact kc _ rfl _ _ _ hw (lv_sub hl [1, 2, 3, 0] rfl)
theorem wX8_minutesCovered_4 (C : sn_C p s m args meth c RX8 cX8_minutesCovered 4 (some .int) D ct ad layC A) {σ : sn_S} {x1 : Int32} {x2 : Int32} {x3 : Int32}  {o : (Int32 × Int32) ⊕ (Int32)} (hf : BX8_minutesCovered_4 σ x1 x2 x3 = some o) (kc : ∀ v, o = .inl v → sn_At p l e rmX8_minutesCovered s m args below meth c Q D ct ad layC A 4 σ 4 [(0, .ref (ad 0)), (1, .int x1), (2, .int v.1), (3, .int v.2)] []) (kx : ∀ v, o = .inr v → sn_At p l e rmX8_minutesCovered s m args below meth c Q D ct ad layC A 4 σ 48 [(0, .ref (ad 0)), (2, .int v)] []) : sn_At p l e rmX8_minutesCovered s m args below meth c Q D ct ad layC A 4 σ 4 [(0, .ref (ad 0)), (1, .int x1), (2, .int x2), (3, .int x3)] [] := by
  intro H locs ls hw hl
  have hx := C.1
  have hb := C.2.1
  unfold BX8_minutesCovered_4 at hf
  refine lv_iload_n hx hb dX8_minutesCovered_4 rfl (lv_at hl 3 rfl) ?_
  refine lv_aload_n hx hb dX8_minutesCovered_5 rfl (lv_at hl 0 rfl) ?_
  refine sn_getC (r := 1) C hw fd_RX8_10 layC_0 rfl dX8_minutesCovered_6 ?_
  refine sn_getC (r := (1 + 1)) C hw fd_RX8_100 (sn_look sn_isX2_1 (k := 0) rfl) rfl dX8_minutesCovered_9 ?_
  refine lv_bipush (v := 8) hx hb dX8_minutesCovered_12 (by decide) ?_
  obtain ⟨g_1, hf⟩ := sn_gdE hf
  refine sn_iald C hw (sn_look sn_isX2_1 (k := 1) rfl) g_1 dX8_minutesCovered_14 ?_
  refine lv_icmp_ge (tgt := 48) hx hb dX8_minutesCovered_15 (by decide) (fun c_2 => ?_) (fun c_2 => ?_)
  · have hf := sn_if c_2 hf
    cases hf
    exact kx _ rfl _ _ _ hw (lv_sub hl [0, 2] rfl)
  · have hf := sn_el c_2 hf
    refine lv_aload_n hx hb dX8_minutesCovered_18 rfl (lv_at hl 0 rfl) ?_
    refine sn_getC (r := 1) C hw fd_RX8_10 layC_0 rfl dX8_minutesCovered_19 ?_
    refine lv_iload_n hx hb dX8_minutesCovered_22 rfl (lv_at hl 3 rfl) ?_
    refine lv_iconst (v := 0) hx hb dX8_minutesCovered_23 rfl ?_
    obtain ⟨t_3, h_4, hf⟩ := sn_bd hf
    refine sn_callVi (rest := []) C hw (ctX2_ofPolicy l sn_isX2_1 h_4) kl_RX8_117 (sn_look sn_isX2_1 (k := 0) rfl) rfl rfl rfl rfl (Nat.le_of_ble_eq_true rfl) dX8_minutesCovered_24 hl.1 (fun H locs hw => ?_)
    refine lv_iload_n hx hb dX8_minutesCovered_27 rfl (lv_at hl 1 rfl) ?_
    refine lv_icmp_ne (tgt := 42) hx hb dX8_minutesCovered_28 (by decide) (fun c_5 => ?_) (fun c_5 => ?_)
    · have hf := sn_el c_5 hf
      exact wX8_minutesCovered_42 C  hf kc kx _ _ _ hw (lv_sub hl [0, 1, 2, 3] rfl)
    · have hf := sn_if c_5 hf
      refine lv_iload_n hx hb dX8_minutesCovered_31 rfl (lv_at hl 2 rfl) ?_
      refine lv_aload_n hx hb dX8_minutesCovered_32 rfl (lv_at hl 0 rfl) ?_
      refine sn_getC (r := 1) C hw fd_RX8_10 layC_0 rfl dX8_minutesCovered_33 ?_
      refine lv_iload_n hx hb dX8_minutesCovered_36 rfl (lv_at hl 3 rfl) ?_
      obtain ⟨t_6, h_7, hf⟩ := sn_bd hf
      refine sn_callVi (rest := [.int x2]) C hw (ctX2_window l sn_isX2_1 h_7) kl_RX8_180 (sn_look sn_isX2_1 (k := 0) rfl) rfl rfl rfl rfl (Nat.le_of_ble_eq_true rfl) dX8_minutesCovered_37 hl.1 (fun H locs hw => ?_)
      refine lv_ior hx hb dX8_minutesCovered_40 ?_
      obtain ⟨y_8, e_9, hf⟩ := sn_ltE hf
      refine lv_topi (fun y_8_ e_9_ => ?_)
      obtain rfl : y_8 = y_8_ := e_9.trans e_9_.symm
      refine lv_istore_n (lv' := [(2, .int y_8), (0, .ref (ad 0)), (1, .int x1), (3, .int x3)]) hx hb dX8_minutesCovered_41 rfl hl (by decide) rfl (fun ls hl => ?_)
      exact wX8_minutesCovered_42 C  hf kc kx _ _ _ hw (lv_sub hl [1, 2, 0, 3] rfl)
theorem wX8_minutesCovered_L4 (C : sn_C p s m args meth c RX8 cX8_minutesCovered 4 (some .int) D ct ad layC A) {σ : sn_S} {x1 : Int32}   {z : Int32 × Int32} {t : Int32} (h : sn_it (LX8_minutesCovered_4 σ x1) 5000 z = some t) (kx : ∀ v, t = v → sn_At p l e rmX8_minutesCovered s m args below meth c Q D ct ad layC A 4 σ 48 [(0, .ref (ad 0)), (2, .int v)] []) : sn_At p l e rmX8_minutesCovered s m args below meth c Q D ct ad layC A 4 σ 4 [(0, .ref (ad 0)), (1, .int x1), (2, .int z.1), (3, .int z.2)] [] :=
  sn_loop (f := LX8_minutesCovered_4 σ x1) (G := fun z => sn_At p l e rmX8_minutesCovered s m args below meth c Q D ct ad layC A 4 σ 4 [(0, .ref (ad 0)), (1, .int x1), (2, .int z.1), (3, .int z.2)] []) (E := fun t => (∀ v, t = v → sn_At p l e rmX8_minutesCovered s m args below meth c Q D ct ad layC A 4 σ 48 [(0, .ref (ad 0)), (2, .int v)] []) ∧ True) (fun z o hf k1 k2 => wX8_minutesCovered_4 C  hf (fun v e => k1 v e) (fun v e => (k2 _ e).1 v rfl)) 5000 z t h ⟨kx, trivial⟩
theorem wX8_minutesCovered_in (C : sn_C p s m args meth c RX8 cX8_minutesCovered 4 (some .int) D ct ad layC A) {σ : sn_S} {x1 : Int32}  {o : Int32} (hf : fX8_minutesCovered σ x1 = some o) (kr : sn_Kr p l e rmX8_minutesCovered s m args below meth c Q D ct ad layC A cX8_minutesCovered .ireturn (true) σ [.int o]) : sn_At p l e rmX8_minutesCovered s m args below meth c Q D ct ad layC A 4 σ 0 [(0, .ref (ad 0)), (1, .int x1)] [] := by
  intro H locs ls hw hl
  have hx := C.1
  have hb := C.2.1
  unfold fX8_minutesCovered at hf
  refine lv_iconst (v := 0) hx hb dX8_minutesCovered_0 rfl ?_
  refine lv_istore_n (lv' := [(2, .int (0 : Int32)), (0, .ref (ad 0)), (1, .int x1)]) hx hb dX8_minutesCovered_1 rfl hl (by decide) rfl (fun ls hl => ?_)
  refine lv_iconst (v := 0) hx hb dX8_minutesCovered_2 rfl ?_
  refine lv_istore_n (lv' := [(3, .int (0 : Int32)), (2, .int (0 : Int32)), (0, .ref (ad 0)), (1, .int x1)]) hx hb dX8_minutesCovered_3 rfl hl (by decide) rfl (fun ls hl => ?_)
  obtain ⟨t_1, h_2, hf⟩ := sn_bd hf
  exact wX8_minutesCovered_L4 C  h_2 (fun v e => by cases e; exact wX8_minutesCovered_48 C  hf kr) _ _ _ hw (lv_sub hl [2, 3, 1, 0] rfl)
theorem ctX8_minutesCovered (l : Launch) {σ : sn_S} {x1 : Int32}  {o : Int32} (hf : fX8_minutesCovered σ x1 = some o) : sn_M l yX8_minutesCovered cX8_minutesCovered 4 (some .int) rmX8_minutesCovered layC (fun ad => [.ref (ad 0), .int x1]) σ (some (fun _ => .int o)) σ :=
  sn_met (by decide) (fun _ => Nat.le_of_ble_eq_true rfl) (fun p e s m args below meth c ls D ct ad A C hw hl => wX8_minutesCovered_in C  hf (fun H locs ls pc hw ok hd => sn_iret C hw hd) _ _ _ hw hl)
-- X8_covered
abbrev rmX8_covered : Room := { frames := 2, cells := 0, slots := 0, locals := 45 }
def fX8_covered (σ : sn_S) (x1 : Int32) : Option Int32 :=
  ((fX8_isPerson σ x1).bind fun t_1 => (if t_1 = 0 then
  (some (-2 : Int32))
  else
  ((fX8_minutesCovered σ x1).bind fun t_4 => (some t_4))))
theorem wX8_covered_in (C : sn_C p s m args meth c RX8 cX8_covered 2 (some .int) D ct ad layC A) {σ : sn_S} {x1 : Int32}  {o : Int32} (hf : fX8_covered σ x1 = some o) (kr : sn_Kr p l e rmX8_covered s m args below meth c Q D ct ad layC A cX8_covered .ireturn (true) σ [.int o]) : sn_At p l e rmX8_covered s m args below meth c Q D ct ad layC A 2 σ 0 [(0, .ref (ad 0)), (1, .int x1)] [] := by
  intro H locs ls hw hl
  have hx := C.1
  have hb := C.2.1
  unfold fX8_covered at hf
  refine lv_aload_n hx hb dX8_covered_0 rfl (lv_at hl 0 rfl) ?_
  refine lv_iload_n hx hb dX8_covered_1 rfl (lv_at hl 1 rfl) ?_
  obtain ⟨t_1, h_2, hf⟩ := sn_bd hf
  refine sn_callVi (rest := []) C hw (ctX8_isPerson l  h_2) kl_RX8_107 layC_0 rfl rfl rfl rfl (Nat.le_of_ble_eq_true rfl) dX8_covered_2 hl.1 (fun H locs hw => ?_)
  refine lv_if_eq (tgt := 16) hx hb dX8_covered_5 (by decide) (fun c_3 => ?_) (fun c_3 => ?_)
  · have hf := sn_if c_3 hf
    refine lv_bipush (v := (-2)) hx hb dX8_covered_16 (by decide) ?_
    cases hf
    exact kr _ _ _ _ hw rfl dX8_covered_18
  · have hf := sn_el c_3 hf
    refine lv_aload_n hx hb dX8_covered_8 rfl (lv_at hl 0 rfl) ?_
    refine lv_iload_n hx hb dX8_covered_9 rfl (lv_at hl 1 rfl) ?_
    obtain ⟨t_4, h_5, hf⟩ := sn_bd hf
    refine sn_callVi (rest := []) C hw (ctX8_minutesCovered l  h_5) kl_RX8_177 layC_0 rfl rfl rfl rfl (Nat.le_of_ble_eq_true rfl) dX8_covered_10 hl.1 (fun H locs hw => ?_)
    refine lv_goto (tgt := 18) hx hb dX8_covered_13 (by decide) ?_
    cases hf
    exact kr _ _ _ _ hw rfl dX8_covered_18
theorem ctX8_covered (l : Launch) {σ : sn_S} {x1 : Int32}  {o : Int32} (hf : fX8_covered σ x1 = some o) : sn_M l yX8_covered cX8_covered 2 (some .int) rmX8_covered layC (fun ad => [.ref (ad 0), .int x1]) σ (some (fun _ => .int o)) σ :=
  sn_met (by decide) (fun _ => Nat.le_of_ble_eq_true rfl) (fun p e s m args below meth c ls D ct ad A C hw hl => wX8_covered_in C  hf (fun H locs ls pc hw ok hd => sn_iret C hw hd) _ _ _ hw hl)
-- X8_naked
abbrev rmX8_naked : Room := { frames := 2, cells := 0, slots := 0, locals := 45 }
def BX8_naked_57 (σ : sn_S) (x1 : Int32) : Option (Int32) :=
  (some x1)
def BX8_naked_51 (σ : sn_S) (x1 : Int32) (x2 : Int32) : Option ((Int32 × Int32) ⊕ (Int32)) :=
  (sn_lt (x2 + 1) fun y_1 => (some (.inl (x1, y_1))))
def BX8_naked_14 (σ : sn_S) (x1 : Int32) (x2 : Int32) : Option ((Int32 × Int32) ⊕ (Int32)) :=
  (if (sn_I σ 27 1) ≤ x2 then
  (some (.inr (x1)))
  else
  (sn_gd (sn_in x2 6) ((fX8_minutesCovered σ x2).bind fun t_3 => (if ((sn_I σ (27 + 10) x2.toNatClampNeg) &&& (t_3 ^^^ (-1 : Int32))) = 0 then
  (BX8_naked_51 σ x1 x2)
  else
  (sn_lt (x1 ||| ((1 : Int32) <<< (x2 &&& 31))) fun y_6 => (BX8_naked_51 σ y_6 x2))))))
def LX8_naked_14 (σ : sn_S) (s : Int32 × Int32) : Option ((Int32 × Int32) ⊕ (Int32)) := BX8_naked_14 σ s.1 s.2
def fX8_naked (σ : sn_S) : Option Int32 :=
  ((fX8_isHouse σ).bind fun t_1 => (if t_1 = 0 then
  (some (-2 : Int32))
  else
  ((sn_it (LX8_naked_14 σ) 5000 ((0 : Int32), (0 : Int32))).bind fun t_4 => (BX8_naked_57 σ t_4))))
theorem wX8_naked_57 (C : sn_C p s m args meth c RX8 cX8_naked 3 (some .int) D ct ad layC A) {σ : sn_S} {x1 : Int32}  {o : Int32} (hf : BX8_naked_57 σ x1 = some o) (kr : sn_Kr p l e rmX8_naked s m args below meth c Q D ct ad layC A cX8_naked .ireturn (true) σ [.int o]) : sn_At p l e rmX8_naked s m args below meth c Q D ct ad layC A 3 σ 57 [(1, .int x1)] [] := by
  intro H locs ls hw hl
  have hx := C.1
  have hb := C.2.1
  unfold BX8_naked_57 at hf
  refine lv_iload_n hx hb dX8_naked_57 rfl (lv_at hl 0 rfl) ?_
  cases hf
  exact kr _ _ _ _ hw rfl dX8_naked_58
theorem wX8_naked_51 (C : sn_C p s m args meth c RX8 cX8_naked 3 (some .int) D ct ad layC A) {σ : sn_S} {x1 : Int32} {x2 : Int32}  {o : (Int32 × Int32) ⊕ (Int32)} (hf : BX8_naked_51 σ x1 x2 = some o) (kc : ∀ v, o = .inl v → sn_At p l e rmX8_naked s m args below meth c Q D ct ad layC A 3 σ 14 [(0, .ref (ad 0)), (1, .int v.1), (2, .int v.2)] []) (kx : ∀ v, o = .inr v → sn_At p l e rmX8_naked s m args below meth c Q D ct ad layC A 3 σ 57 [(1, .int v)] []) : sn_At p l e rmX8_naked s m args below meth c Q D ct ad layC A 3 σ 51 [(0, .ref (ad 0)), (1, .int x1), (2, .int x2)] [] := by
  intro H locs ls hw hl
  have hx := C.1
  have hb := C.2.1
  unfold BX8_naked_51 at hf
  obtain ⟨y_1, e_2, hf⟩ := sn_ltE hf
  refine lv_iinc (v := y_1) (lv' := [(2, .int y_1), (0, .ref (ad 0)), (1, .int x1)]) hx hb dX8_naked_51 hl (k := 2) rfl (by rw [e_2]; rfl) (by decide) rfl (fun ls hl => ?_)
  refine lv_goto (tgt := 14) hx hb dX8_naked_54 (by decide) ?_
  cases hf
  exact kc _ rfl _ _ _ hw (lv_sub hl [1, 2, 0] rfl)
theorem wX8_naked_14 (C : sn_C p s m args meth c RX8 cX8_naked 3 (some .int) D ct ad layC A) {σ : sn_S} {x1 : Int32} {x2 : Int32}  {o : (Int32 × Int32) ⊕ (Int32)} (hf : BX8_naked_14 σ x1 x2 = some o) (kc : ∀ v, o = .inl v → sn_At p l e rmX8_naked s m args below meth c Q D ct ad layC A 3 σ 14 [(0, .ref (ad 0)), (1, .int v.1), (2, .int v.2)] []) (kx : ∀ v, o = .inr v → sn_At p l e rmX8_naked s m args below meth c Q D ct ad layC A 3 σ 57 [(1, .int v)] []) : sn_At p l e rmX8_naked s m args below meth c Q D ct ad layC A 3 σ 14 [(0, .ref (ad 0)), (1, .int x1), (2, .int x2)] [] := by
  intro H locs ls hw hl
  have hx := C.1
  have hb := C.2.1
  unfold BX8_naked_14 at hf
  refine lv_iload_n hx hb dX8_naked_14 rfl (lv_at hl 2 rfl) ?_
  refine lv_aload_n hx hb dX8_naked_15 rfl (lv_at hl 0 rfl) ?_
  refine sn_getC (r := 27) C hw fd_RX8_44 layC_0 rfl dX8_naked_16 ?_
  refine sn_getI C hw fd_RX8_162 (sn_look sn_isX0_27 (k := 0) rfl) rfl dX8_naked_19 ?_
  refine lv_icmp_ge (tgt := 57) hx hb dX8_naked_22 (by decide) (fun c_1 => ?_) (fun c_1 => ?_)
  · have hf := sn_if c_1 hf
    cases hf
    exact kx _ rfl _ _ _ hw (lv_sub hl [1] rfl)
  · have hf := sn_el c_1 hf
    refine lv_aload_n hx hb dX8_naked_25 rfl (lv_at hl 0 rfl) ?_
    refine sn_getC (r := 27) C hw fd_RX8_44 layC_0 rfl dX8_naked_26 ?_
    refine sn_getC (r := (27 + 10)) C hw fd_RX8_131 (sn_look sn_isX0_27 (k := 0) rfl) rfl dX8_naked_29 ?_
    refine lv_iload_n hx hb dX8_naked_32 rfl (lv_at hl 2 rfl) ?_
    obtain ⟨g_2, hf⟩ := sn_gdE hf
    refine sn_iald C hw (sn_look sn_isX0_27 (k := 10) rfl) g_2 dX8_naked_33 ?_
    refine lv_aload_n hx hb dX8_naked_34 rfl (lv_at hl 0 rfl) ?_
    refine lv_iload_n hx hb dX8_naked_35 rfl (lv_at hl 2 rfl) ?_
    obtain ⟨t_3, h_4, hf⟩ := sn_bd hf
    refine sn_callVi (rest := [.int (sn_I σ (27 + 10) x2.toNatClampNeg)]) C hw (ctX8_minutesCovered l  h_4) kl_RX8_177 layC_0 rfl rfl rfl rfl (Nat.le_of_ble_eq_true rfl) dX8_naked_36 hl.1 (fun H locs hw => ?_)
    refine lv_iconst (v := (-1)) hx hb dX8_naked_39 rfl ?_
    refine lv_ixor hx hb dX8_naked_40 ?_
    refine lv_iand hx hb dX8_naked_41 ?_
    refine lv_if_eq (tgt := 51) hx hb dX8_naked_42 (by decide) (fun c_5 => ?_) (fun c_5 => ?_)
    · have hf := sn_if c_5 hf
      exact wX8_naked_51 C  hf kc kx _ _ _ hw (lv_sub hl [0, 1, 2] rfl)
    · have hf := sn_el c_5 hf
      refine lv_iload_n hx hb dX8_naked_45 rfl (lv_at hl 1 rfl) ?_
      refine lv_iconst (v := 1) hx hb dX8_naked_46 rfl ?_
      refine lv_iload_n hx hb dX8_naked_47 rfl (lv_at hl 2 rfl) ?_
      refine lv_ishl hx hb dX8_naked_48 ?_
      refine lv_ior hx hb dX8_naked_49 ?_
      obtain ⟨y_6, e_7, hf⟩ := sn_ltE hf
      refine lv_topi (fun y_6_ e_7_ => ?_)
      obtain rfl : y_6 = y_6_ := e_7.trans e_7_.symm
      refine lv_istore_n (lv' := [(1, .int y_6), (0, .ref (ad 0)), (2, .int x2)]) hx hb dX8_naked_50 rfl hl (by decide) rfl (fun ls hl => ?_)
      exact wX8_naked_51 C  hf kc kx _ _ _ hw (lv_sub hl [1, 0, 2] rfl)
theorem wX8_naked_L14 (C : sn_C p s m args meth c RX8 cX8_naked 3 (some .int) D ct ad layC A) {σ : sn_S}   {z : Int32 × Int32} {t : Int32} (h : sn_it (LX8_naked_14 σ) 5000 z = some t) (kx : ∀ v, t = v → sn_At p l e rmX8_naked s m args below meth c Q D ct ad layC A 3 σ 57 [(1, .int v)] []) : sn_At p l e rmX8_naked s m args below meth c Q D ct ad layC A 3 σ 14 [(0, .ref (ad 0)), (1, .int z.1), (2, .int z.2)] [] :=
  sn_loop (f := LX8_naked_14 σ) (G := fun z => sn_At p l e rmX8_naked s m args below meth c Q D ct ad layC A 3 σ 14 [(0, .ref (ad 0)), (1, .int z.1), (2, .int z.2)] []) (E := fun t => (∀ v, t = v → sn_At p l e rmX8_naked s m args below meth c Q D ct ad layC A 3 σ 57 [(1, .int v)] []) ∧ True) (fun z o hf k1 k2 => wX8_naked_14 C  hf (fun v e => k1 v e) (fun v e => (k2 _ e).1 v rfl)) 5000 z t h ⟨kx, trivial⟩
theorem wX8_naked_in (C : sn_C p s m args meth c RX8 cX8_naked 3 (some .int) D ct ad layC A) {σ : sn_S}  {o : Int32} (hf : fX8_naked σ = some o) (kr : sn_Kr p l e rmX8_naked s m args below meth c Q D ct ad layC A cX8_naked .ireturn (true) σ [.int o]) : sn_At p l e rmX8_naked s m args below meth c Q D ct ad layC A 3 σ 0 [(0, .ref (ad 0))] [] := by
  intro H locs ls hw hl
  have hx := C.1
  have hb := C.2.1
  unfold fX8_naked at hf
  refine lv_aload_n hx hb dX8_naked_0 rfl (lv_at hl 0 rfl) ?_
  obtain ⟨t_1, h_2, hf⟩ := sn_bd hf
  refine sn_callVi (rest := []) C hw (ctX8_isHouse l  h_2) kl_RX8_137 layC_0 rfl rfl rfl rfl (Nat.le_of_ble_eq_true rfl) dX8_naked_1 hl.1 (fun H locs hw => ?_)
  refine lv_if_ne (tgt := 10) hx hb dX8_naked_4 (by decide) (fun c_3 => ?_) (fun c_3 => ?_)
  · have hf := sn_el c_3 hf
    refine lv_iconst (v := 0) hx hb dX8_naked_10 rfl ?_
    refine lv_istore_n (lv' := [(1, .int (0 : Int32)), (0, .ref (ad 0))]) hx hb dX8_naked_11 rfl hl (by decide) rfl (fun ls hl => ?_)
    refine lv_iconst (v := 0) hx hb dX8_naked_12 rfl ?_
    refine lv_istore_n (lv' := [(2, .int (0 : Int32)), (1, .int (0 : Int32)), (0, .ref (ad 0))]) hx hb dX8_naked_13 rfl hl (by decide) rfl (fun ls hl => ?_)
    obtain ⟨t_4, h_5, hf⟩ := sn_bd hf
    exact wX8_naked_L14 C  h_5 (fun v e => by cases e; exact wX8_naked_57 C  hf kr) _ _ _ hw (lv_sub hl [2, 1, 0] rfl)
  · have hf := sn_if c_3 hf
    refine lv_bipush (v := (-2)) hx hb dX8_naked_7 (by decide) ?_
    cases hf
    exact kr _ _ _ _ hw rfl dX8_naked_9
theorem ctX8_naked (l : Launch) {σ : sn_S}  {o : Int32} (hf : fX8_naked σ = some o) : sn_M l yX8_naked cX8_naked 3 (some .int) rmX8_naked layC (fun ad => [.ref (ad 0)]) σ (some (fun _ => .int o)) σ :=
  sn_met (by decide) (fun _ => Nat.le_of_ble_eq_true rfl) (fun p e s m args below meth c ls D ct ad A C hw hl => wX8_naked_in C  hf (fun H locs ls pc hw ok hd => sn_iret C hw hd) _ _ _ hw hl)
-- X8_covers
abbrev rmX8_covers : Room := { frames := 1, cells := 0, slots := 0, locals := 22 }
def BX8_covers_56 (σ : sn_S) (x2 : Int32) : Option (Int32) :=
  (some x2)
def BX8_covers_50 (σ : sn_S) (x1 : Int32) (x2 : Int32) (x3 : Int32) : Option ((Int32 × Int32) ⊕ (Int32)) :=
  (sn_lt (x3 + 1) fun y_1 => (some (.inl (x2, y_1))))
def BX8_covers_15 (σ : sn_S) (x1 : Int32) (x2 : Int32) (x3 : Int32) : Option ((Int32 × Int32) ⊕ (Int32)) :=
  (sn_gd (sn_in (8 : Int32) 11) (if (sn_I σ (1 + 1) (8 : Int32).toNatClampNeg) ≤ x3 then
  (some (.inr (x2)))
  else
  ((fX2_window σ 1 x3).bind fun t_3 => ((fX8_hasBit t_3 x1).bind fun t_5 => (if t_5 = 0 then
  (BX8_covers_50 σ x1 x2 x3)
  else
  (sn_lt (x2 ||| ((1 : Int32) <<< (x3 &&& 31))) fun y_8 => (BX8_covers_50 σ x1 y_8 x3)))))))
def LX8_covers_15 (σ : sn_S) (x1 : Int32) (s : Int32 × Int32) : Option ((Int32 × Int32) ⊕ (Int32)) := BX8_covers_15 σ x1 s.1 s.2
def fX8_covers (σ : sn_S) (x1 : Int32) : Option Int32 :=
  ((fX8_isMinute σ x1).bind fun t_1 => (if t_1 = 0 then
  (some (-2 : Int32))
  else
  ((sn_it (LX8_covers_15 σ x1) 5000 ((0 : Int32), (0 : Int32))).bind fun t_4 => (BX8_covers_56 σ t_4))))
theorem wX8_covers_56 (C : sn_C p s m args meth c RX8 cX8_covers 4 (some .int) D ct ad layC A) {σ : sn_S} {x2 : Int32}  {o : Int32} (hf : BX8_covers_56 σ x2 = some o) (kr : sn_Kr p l e rmX8_covers s m args below meth c Q D ct ad layC A cX8_covers .ireturn (true) σ [.int o]) : sn_At p l e rmX8_covers s m args below meth c Q D ct ad layC A 4 σ 56 [(2, .int x2)] [] := by
  intro H locs ls hw hl
  have hx := C.1
  have hb := C.2.1
  unfold BX8_covers_56 at hf
  refine lv_iload_n hx hb dX8_covers_56 rfl (lv_at hl 0 rfl) ?_
  cases hf
  exact kr _ _ _ _ hw rfl dX8_covers_57
theorem wX8_covers_50 (C : sn_C p s m args meth c RX8 cX8_covers 4 (some .int) D ct ad layC A) {σ : sn_S} {x1 : Int32} {x2 : Int32} {x3 : Int32}  {o : (Int32 × Int32) ⊕ (Int32)} (hf : BX8_covers_50 σ x1 x2 x3 = some o) (kc : ∀ v, o = .inl v → sn_At p l e rmX8_covers s m args below meth c Q D ct ad layC A 4 σ 15 [(0, .ref (ad 0)), (1, .int x1), (2, .int v.1), (3, .int v.2)] []) (kx : ∀ v, o = .inr v → sn_At p l e rmX8_covers s m args below meth c Q D ct ad layC A 4 σ 56 [(2, .int v)] []) : sn_At p l e rmX8_covers s m args below meth c Q D ct ad layC A 4 σ 50 [(0, .ref (ad 0)), (1, .int x1), (2, .int x2), (3, .int x3)] [] := by
  intro H locs ls hw hl
  have hx := C.1
  have hb := C.2.1
  unfold BX8_covers_50 at hf
  obtain ⟨y_1, e_2, hf⟩ := sn_ltE hf
  refine lv_iinc (v := y_1) (lv' := [(3, .int y_1), (0, .ref (ad 0)), (1, .int x1), (2, .int x2)]) hx hb dX8_covers_50 hl (k := 3) rfl (by rw [e_2]; rfl) (by decide) rfl (fun ls hl => ?_)
  refine lv_goto (tgt := 15) hx hb dX8_covers_53 (by decide) ?_
  cases hf
  exact kc _ rfl _ _ _ hw (lv_sub hl [1, 2, 3, 0] rfl)
theorem wX8_covers_15 (C : sn_C p s m args meth c RX8 cX8_covers 4 (some .int) D ct ad layC A) {σ : sn_S} {x1 : Int32} {x2 : Int32} {x3 : Int32}  {o : (Int32 × Int32) ⊕ (Int32)} (hf : BX8_covers_15 σ x1 x2 x3 = some o) (kc : ∀ v, o = .inl v → sn_At p l e rmX8_covers s m args below meth c Q D ct ad layC A 4 σ 15 [(0, .ref (ad 0)), (1, .int x1), (2, .int v.1), (3, .int v.2)] []) (kx : ∀ v, o = .inr v → sn_At p l e rmX8_covers s m args below meth c Q D ct ad layC A 4 σ 56 [(2, .int v)] []) : sn_At p l e rmX8_covers s m args below meth c Q D ct ad layC A 4 σ 15 [(0, .ref (ad 0)), (1, .int x1), (2, .int x2), (3, .int x3)] [] := by
  intro H locs ls hw hl
  have hx := C.1
  have hb := C.2.1
  unfold BX8_covers_15 at hf
  refine lv_iload_n hx hb dX8_covers_15 rfl (lv_at hl 3 rfl) ?_
  refine lv_aload_n hx hb dX8_covers_16 rfl (lv_at hl 0 rfl) ?_
  refine sn_getC (r := 1) C hw fd_RX8_10 layC_0 rfl dX8_covers_17 ?_
  refine sn_getC (r := (1 + 1)) C hw fd_RX8_100 (sn_look sn_isX2_1 (k := 0) rfl) rfl dX8_covers_20 ?_
  refine lv_bipush (v := 8) hx hb dX8_covers_23 (by decide) ?_
  obtain ⟨g_1, hf⟩ := sn_gdE hf
  refine sn_iald C hw (sn_look sn_isX2_1 (k := 1) rfl) g_1 dX8_covers_25 ?_
  refine lv_icmp_ge (tgt := 56) hx hb dX8_covers_26 (by decide) (fun c_2 => ?_) (fun c_2 => ?_)
  · have hf := sn_if c_2 hf
    cases hf
    exact kx _ rfl _ _ _ hw (lv_sub hl [2] rfl)
  · have hf := sn_el c_2 hf
    refine lv_aload_n hx hb dX8_covers_29 rfl (lv_at hl 0 rfl) ?_
    refine sn_getC (r := 1) C hw fd_RX8_10 layC_0 rfl dX8_covers_30 ?_
    refine lv_iload_n hx hb dX8_covers_33 rfl (lv_at hl 3 rfl) ?_
    obtain ⟨t_3, h_4, hf⟩ := sn_bd hf
    refine sn_callVi (rest := []) C hw (ctX2_window l sn_isX2_1 h_4) kl_RX8_180 (sn_look sn_isX2_1 (k := 0) rfl) rfl rfl rfl rfl (Nat.le_of_ble_eq_true rfl) dX8_covers_34 hl.1 (fun H locs hw => ?_)
    refine lv_iload_n hx hb dX8_covers_37 rfl (lv_at hl 1 rfl) ?_
    obtain ⟨t_5, h_6, hf⟩ := sn_bd hf
    refine sn_callSi (rest := []) C hw (ctX8_hasBit l  h_6) kl_RX8_170 rfl rfl rfl (Nat.le_of_ble_eq_true rfl) dX8_covers_38 hl.1 (fun H locs hw => ?_)
    refine lv_if_eq (tgt := 50) hx hb dX8_covers_41 (by decide) (fun c_7 => ?_) (fun c_7 => ?_)
    · have hf := sn_if c_7 hf
      exact wX8_covers_50 C  hf kc kx _ _ _ hw (lv_sub hl [0, 1, 2, 3] rfl)
    · have hf := sn_el c_7 hf
      refine lv_iload_n hx hb dX8_covers_44 rfl (lv_at hl 2 rfl) ?_
      refine lv_iconst (v := 1) hx hb dX8_covers_45 rfl ?_
      refine lv_iload_n hx hb dX8_covers_46 rfl (lv_at hl 3 rfl) ?_
      refine lv_ishl hx hb dX8_covers_47 ?_
      refine lv_ior hx hb dX8_covers_48 ?_
      obtain ⟨y_8, e_9, hf⟩ := sn_ltE hf
      refine lv_topi (fun y_8_ e_9_ => ?_)
      obtain rfl : y_8 = y_8_ := e_9.trans e_9_.symm
      refine lv_istore_n (lv' := [(2, .int y_8), (0, .ref (ad 0)), (1, .int x1), (3, .int x3)]) hx hb dX8_covers_49 rfl hl (by decide) rfl (fun ls hl => ?_)
      exact wX8_covers_50 C  hf kc kx _ _ _ hw (lv_sub hl [1, 2, 0, 3] rfl)
theorem wX8_covers_L15 (C : sn_C p s m args meth c RX8 cX8_covers 4 (some .int) D ct ad layC A) {σ : sn_S} {x1 : Int32}   {z : Int32 × Int32} {t : Int32} (h : sn_it (LX8_covers_15 σ x1) 5000 z = some t) (kx : ∀ v, t = v → sn_At p l e rmX8_covers s m args below meth c Q D ct ad layC A 4 σ 56 [(2, .int v)] []) : sn_At p l e rmX8_covers s m args below meth c Q D ct ad layC A 4 σ 15 [(0, .ref (ad 0)), (1, .int x1), (2, .int z.1), (3, .int z.2)] [] :=
  sn_loop (f := LX8_covers_15 σ x1) (G := fun z => sn_At p l e rmX8_covers s m args below meth c Q D ct ad layC A 4 σ 15 [(0, .ref (ad 0)), (1, .int x1), (2, .int z.1), (3, .int z.2)] []) (E := fun t => (∀ v, t = v → sn_At p l e rmX8_covers s m args below meth c Q D ct ad layC A 4 σ 56 [(2, .int v)] []) ∧ True) (fun z o hf k1 k2 => wX8_covers_15 C  hf (fun v e => k1 v e) (fun v e => (k2 _ e).1 v rfl)) 5000 z t h ⟨kx, trivial⟩
theorem wX8_covers_in (C : sn_C p s m args meth c RX8 cX8_covers 4 (some .int) D ct ad layC A) {σ : sn_S} {x1 : Int32}  {o : Int32} (hf : fX8_covers σ x1 = some o) (kr : sn_Kr p l e rmX8_covers s m args below meth c Q D ct ad layC A cX8_covers .ireturn (true) σ [.int o]) : sn_At p l e rmX8_covers s m args below meth c Q D ct ad layC A 4 σ 0 [(0, .ref (ad 0)), (1, .int x1)] [] := by
  intro H locs ls hw hl
  have hx := C.1
  have hb := C.2.1
  unfold fX8_covers at hf
  refine lv_aload_n hx hb dX8_covers_0 rfl (lv_at hl 0 rfl) ?_
  refine lv_iload_n hx hb dX8_covers_1 rfl (lv_at hl 1 rfl) ?_
  obtain ⟨t_1, h_2, hf⟩ := sn_bd hf
  refine sn_callVi (rest := []) C hw (ctX8_isMinute l  h_2) kl_RX8_125 layC_0 rfl rfl rfl rfl (Nat.le_of_ble_eq_true rfl) dX8_covers_2 hl.1 (fun H locs hw => ?_)
  refine lv_if_ne (tgt := 11) hx hb dX8_covers_5 (by decide) (fun c_3 => ?_) (fun c_3 => ?_)
  · have hf := sn_el c_3 hf
    refine lv_iconst (v := 0) hx hb dX8_covers_11 rfl ?_
    refine lv_istore_n (lv' := [(2, .int (0 : Int32)), (0, .ref (ad 0)), (1, .int x1)]) hx hb dX8_covers_12 rfl hl (by decide) rfl (fun ls hl => ?_)
    refine lv_iconst (v := 0) hx hb dX8_covers_13 rfl ?_
    refine lv_istore_n (lv' := [(3, .int (0 : Int32)), (2, .int (0 : Int32)), (0, .ref (ad 0)), (1, .int x1)]) hx hb dX8_covers_14 rfl hl (by decide) rfl (fun ls hl => ?_)
    obtain ⟨t_4, h_5, hf⟩ := sn_bd hf
    exact wX8_covers_L15 C  h_5 (fun v e => by cases e; exact wX8_covers_56 C  hf kr) _ _ _ hw (lv_sub hl [2, 3, 1, 0] rfl)
  · have hf := sn_if c_3 hf
    refine lv_bipush (v := (-2)) hx hb dX8_covers_8 (by decide) ?_
    cases hf
    exact kr _ _ _ _ hw rfl dX8_covers_10
theorem ctX8_covers (l : Launch) {σ : sn_S} {x1 : Int32}  {o : Int32} (hf : fX8_covers σ x1 = some o) : sn_M l yX8_covers cX8_covers 4 (some .int) rmX8_covers layC (fun ad => [.ref (ad 0), .int x1]) σ (some (fun _ => .int o)) σ :=
  sn_met (by decide) (fun _ => Nat.le_of_ble_eq_true rfl) (fun p e s m args below meth c ls D ct ad A C hw hl => wX8_covers_in C  hf (fun H locs ls pc hw ok hd => sn_iret C hw hd) _ _ _ hw hl)
-- X8_dull
abbrev rmX8_dull : Room := { frames := 5, cells := 0, slots := 0, locals := 113 }
def BX8_dull_66 (σ : sn_S) : Option ((Int32 × sn_S)) :=
  (some ((-1 : Int32), σ))
def BX8_dull_25 (σ : sn_S) (x1 : Int32) (x2 : Int32) : Option ((sn_S × Int32) ⊕ ((sn_S) ⊕ (Int32 × sn_S))) :=
  (if x2 < 0 then
  (some (.inr (.inl (σ))))
  else
  (sn_gd (sn_in x1 6) (sn_lt (sn_pI σ (38 + 2) x1.toNatClampNeg x2) fun σ_3 => ((fX0_liveWhole σ_3 38).bind fun t_5 => (sn_gd (sn_in x1 6) (if (sn_I t_5 (38 + 10) x1.toNatClampNeg) = 0 then
  (some (.inr (.inr (x2, t_5))))
  else
  (sn_lt (x2 + (-1)) fun y_9 => (some (.inl (t_5, y_9))))))))))
def LX8_dull_25 (x1 : Int32) (s : sn_S × Int32) : Option ((sn_S × Int32) ⊕ ((sn_S) ⊕ (Int32 × sn_S))) := BX8_dull_25 s.1 x1 s.2
def fX8_dull (σ : sn_S) (x1 : Int32) : Option (Int32 × sn_S) :=
  ((fX8_isPerson σ x1).bind fun t_1 => (if t_1 = 0 then
  (some ((-2 : Int32), σ))
  else
  ((fX0_copyFrom σ 38 27).bind fun t_4 => ((sn_it (LX8_dull_25 x1) 5000 (t_4, (9 : Int32))).bind fun t_6 => Sum.elim (fun v_8 => (BX8_dull_66 v_8)) (fun r_9 => (some r_9)) t_6))))
theorem wX8_dull_66 (C : sn_C p s m args meth c RX8 cX8_dull 3 (some .int) D ct ad layC A) {σ : sn_S}  {o : (Int32 × sn_S)} (hf : BX8_dull_66 σ = some o) (kr : sn_Kr p l e rmX8_dull s m args below meth c Q D ct ad layC A cX8_dull .ireturn (true) o.2 [.int o.1]) : sn_At p l e rmX8_dull s m args below meth c Q D ct ad layC A 3 σ 66 [] [] := by
  intro H locs ls hw hl
  have hx := C.1
  have hb := C.2.1
  unfold BX8_dull_66 at hf
  refine lv_iconst (v := (-1)) hx hb dX8_dull_66 rfl ?_
  cases hf
  exact kr _ _ _ _ hw rfl dX8_dull_67
theorem wX8_dull_25 (C : sn_C p s m args meth c RX8 cX8_dull 3 (some .int) D ct ad layC A) {σ : sn_S} {x1 : Int32} {x2 : Int32}  {o : (sn_S × Int32) ⊕ ((sn_S) ⊕ (Int32 × sn_S))} (hf : BX8_dull_25 σ x1 x2 = some o) (kc : ∀ v, o = .inl v → sn_At p l e rmX8_dull s m args below meth c Q D ct ad layC A 3 v.1 25 [(0, .ref (ad 0)), (1, .int x1), (2, .int v.2)] []) (kx : ∀ v, o = .inr (.inl v) → sn_At p l e rmX8_dull s m args below meth c Q D ct ad layC A 3 v 66 [] []) (kr : ∀ r, o = .inr (.inr r) → sn_Kr p l e rmX8_dull s m args below meth c Q D ct ad layC A cX8_dull .ireturn (true) r.2 [.int r.1]) : sn_At p l e rmX8_dull s m args below meth c Q D ct ad layC A 3 σ 25 [(0, .ref (ad 0)), (1, .int x1), (2, .int x2)] [] := by
  intro H locs ls hw hl
  have hx := C.1
  have hb := C.2.1
  unfold BX8_dull_25 at hf
  refine lv_iload_n hx hb dX8_dull_25 rfl (lv_at hl 2 rfl) ?_
  refine lv_if_lt (tgt := 66) hx hb dX8_dull_26 (by decide) (fun c_1 => ?_) (fun c_1 => ?_)
  · have hf := sn_if c_1 hf
    cases hf
    exact kx _ rfl _ _ _ hw (lv_sub hl [] rfl)
  · have hf := sn_el c_1 hf
    refine lv_aload_n hx hb dX8_dull_29 rfl (lv_at hl 0 rfl) ?_
    refine sn_getC (r := 38) C hw fd_RX8_48 layC_0 rfl dX8_dull_30 ?_
    refine sn_getC (r := (38 + 2)) C hw fd_RX8_186 (sn_look sn_isX0_38 (k := 0) rfl) rfl dX8_dull_33 ?_
    refine lv_iload_n hx hb dX8_dull_36 rfl (lv_at hl 1 rfl) ?_
    refine lv_iload_n hx hb dX8_dull_37 rfl (lv_at hl 2 rfl) ?_
    obtain ⟨g_2, hf⟩ := sn_gdE hf
    refine sn_iast C hw (sn_look sn_isX0_38 (k := 2) rfl) g_2 dX8_dull_38 (fun H locs hw => ?_)
    obtain ⟨σ_3, e_4, hf⟩ := sn_ltE hf
    rw [← e_4] at hw
    refine lv_aload_n hx hb dX8_dull_39 rfl (lv_at hl 0 rfl) ?_
    refine sn_getC (r := 38) C hw fd_RX8_48 layC_0 rfl dX8_dull_40 ?_
    obtain ⟨t_5, h_6, hf⟩ := sn_bd hf
    refine sn_callVv (rest := []) C hw (ctX0_liveWhole l sn_isX0_38 h_6) kl_RX8_189 (sn_look sn_isX0_38 (k := 0) rfl) rfl rfl rfl rfl (Nat.le_of_ble_eq_true rfl) dX8_dull_43 hl.1 (fun H locs hw => ?_)
    refine lv_aload_n hx hb dX8_dull_46 rfl (lv_at hl 0 rfl) ?_
    refine sn_getC (r := 38) C hw fd_RX8_48 layC_0 rfl dX8_dull_47 ?_
    refine sn_getC (r := (38 + 10)) C hw fd_RX8_131 (sn_look sn_isX0_38 (k := 0) rfl) rfl dX8_dull_50 ?_
    refine lv_iload_n hx hb dX8_dull_53 rfl (lv_at hl 1 rfl) ?_
    obtain ⟨g_7, hf⟩ := sn_gdE hf
    refine sn_iald C hw (sn_look sn_isX0_38 (k := 10) rfl) g_7 dX8_dull_54 ?_
    refine lv_if_ne (tgt := 60) hx hb dX8_dull_55 (by decide) (fun c_8 => ?_) (fun c_8 => ?_)
    · have hf := sn_el c_8 hf
      obtain ⟨y_9, e_10, hf⟩ := sn_ltE hf
      refine lv_iinc (v := y_9) (lv' := [(2, .int y_9), (0, .ref (ad 0)), (1, .int x1)]) hx hb dX8_dull_60 hl (k := 2) rfl (by rw [e_10]; rfl) (by decide) rfl (fun ls hl => ?_)
      refine lv_goto (tgt := 25) hx hb dX8_dull_63 (by decide) ?_
      cases hf
      exact kc _ rfl _ _ _ hw (lv_sub hl [1, 2, 0] rfl)
    · have hf := sn_if c_8 hf
      refine lv_iload_n hx hb dX8_dull_58 rfl (lv_at hl 2 rfl) ?_
      cases hf
      exact kr _ rfl _ _ _ _ hw rfl dX8_dull_59
theorem wX8_dull_L25 (C : sn_C p s m args meth c RX8 cX8_dull 3 (some .int) D ct ad layC A) {x1 : Int32}   {z : sn_S × Int32} {t : (sn_S) ⊕ (Int32 × sn_S)} (h : sn_it (LX8_dull_25 x1) 5000 z = some t) (kx : ∀ v, t = .inl v → sn_At p l e rmX8_dull s m args below meth c Q D ct ad layC A 3 v 66 [] []) (kr : ∀ r, t = .inr r → sn_Kr p l e rmX8_dull s m args below meth c Q D ct ad layC A cX8_dull .ireturn (true) r.2 [.int r.1]) : sn_At p l e rmX8_dull s m args below meth c Q D ct ad layC A 3 z.1 25 [(0, .ref (ad 0)), (1, .int x1), (2, .int z.2)] [] :=
  sn_loop (f := LX8_dull_25 x1) (G := fun z => sn_At p l e rmX8_dull s m args below meth c Q D ct ad layC A 3 z.1 25 [(0, .ref (ad 0)), (1, .int x1), (2, .int z.2)] []) (E := fun t => (∀ v, t = .inl v → sn_At p l e rmX8_dull s m args below meth c Q D ct ad layC A 3 v 66 [] []) ∧ (∀ r, t = .inr r → sn_Kr p l e rmX8_dull s m args below meth c Q D ct ad layC A cX8_dull .ireturn (true) r.2 [.int r.1])) (fun z o hf k1 k2 => wX8_dull_25 C  hf (fun v e => k1 v e) (fun v e => (k2 _ e).1 v rfl) (fun r e => (k2 _ e).2 r rfl)) 5000 z t h ⟨kx, kr⟩
theorem wX8_dull_in (C : sn_C p s m args meth c RX8 cX8_dull 3 (some .int) D ct ad layC A) {σ : sn_S} {x1 : Int32}  {o : (Int32 × sn_S)} (hf : fX8_dull σ x1 = some o) (kr : sn_Kr p l e rmX8_dull s m args below meth c Q D ct ad layC A cX8_dull .ireturn (true) o.2 [.int o.1]) : sn_At p l e rmX8_dull s m args below meth c Q D ct ad layC A 3 σ 0 [(0, .ref (ad 0)), (1, .int x1)] [] := by
  intro H locs ls hw hl
  have hx := C.1
  have hb := C.2.1
  unfold fX8_dull at hf
  refine lv_aload_n hx hb dX8_dull_0 rfl (lv_at hl 0 rfl) ?_
  refine lv_iload_n hx hb dX8_dull_1 rfl (lv_at hl 1 rfl) ?_
  obtain ⟨t_1, h_2, hf⟩ := sn_bd hf
  refine sn_callVi (rest := []) C hw (ctX8_isPerson l  h_2) kl_RX8_107 layC_0 rfl rfl rfl rfl (Nat.le_of_ble_eq_true rfl) dX8_dull_2 hl.1 (fun H locs hw => ?_)
  refine lv_if_ne (tgt := 11) hx hb dX8_dull_5 (by decide) (fun c_3 => ?_) (fun c_3 => ?_)
  · have hf := sn_el c_3 hf
    refine lv_aload_n hx hb dX8_dull_11 rfl (lv_at hl 0 rfl) ?_
    refine sn_getC (r := 38) C hw fd_RX8_48 layC_0 rfl dX8_dull_12 ?_
    refine lv_aload_n hx hb dX8_dull_15 rfl (lv_at hl 0 rfl) ?_
    refine sn_getC (r := 27) C hw fd_RX8_44 layC_0 rfl dX8_dull_16 ?_
    obtain ⟨t_4, h_5, hf⟩ := sn_bd hf
    refine sn_callVv (rest := []) C hw (ctX0_copyFrom l sn_isX0_38 sn_isX0_27 h_5) kl_RX8_183 (sn_look sn_isX0_38 (k := 0) rfl) rfl rfl rfl rfl (Nat.le_of_ble_eq_true rfl) dX8_dull_19 hl.1 (fun H locs hw => ?_)
    refine lv_bipush (v := 9) hx hb dX8_dull_22 (by decide) ?_
    refine lv_istore_n (lv' := [(2, .int (9 : Int32)), (0, .ref (ad 0)), (1, .int x1)]) hx hb dX8_dull_24 rfl hl (by decide) rfl (fun ls hl => ?_)
    obtain ⟨t_6, h_7, hf⟩ := sn_bd hf
    rcases t_6 with v_8 | r_9
    · rw [Sum.elim_inl] at hf
      exact wX8_dull_L25 C  h_7 (fun v e => by cases e; exact wX8_dull_66 C  hf kr) (fun r e => by cases e) _ _ _ hw (lv_sub hl [1, 2, 0] rfl)
    · rw [Sum.elim_inr] at hf
      cases hf
      exact wX8_dull_L25 C  h_7 (fun v e => by cases e) (fun r e => by cases e; exact kr) _ _ _ hw (lv_sub hl [1, 2, 0] rfl)
  · have hf := sn_if c_3 hf
    refine lv_bipush (v := (-2)) hx hb dX8_dull_8 (by decide) ?_
    cases hf
    exact kr _ _ _ _ hw rfl dX8_dull_10
theorem ctX8_dull (l : Launch) {σ : sn_S} {x1 : Int32}  {o : (Int32 × sn_S)} (hf : fX8_dull σ x1 = some o) : sn_M l yX8_dull cX8_dull 3 (some .int) rmX8_dull layC (fun ad => [.ref (ad 0), .int x1]) σ (some (fun _ => .int o.1)) o.2 :=
  sn_met (by decide) (fun _ => Nat.le_of_ble_eq_true rfl) (fun p e s m args below meth c ls D ct ad A C hw hl => wX8_dull_in C  hf (fun H locs ls pc hw ok hd => sn_iret C hw hd) _ _ _ hw hl)
-- X8_bears
abbrev rmX8_bears : Room := { frames := 5, cells := 0, slots := 0, locals := 113 }
def BX8_bears_93 (σ : sn_S) (x2 : Int32) : Option ((Int32 × sn_S)) :=
  (if x2 ≤ (99 : Int32) then
  (some (x2, σ))
  else
  (some ((-1 : Int32), σ)))
def BX8_bears_87 (σ : sn_S) (x1 : Int32) (x2 : Int32) (x3 : Int32) : Option ((Int32 × Int32) ⊕ (Int32)) :=
  (sn_lt (x3 + 1) fun y_1 => (some (.inl (x2, y_1))))
def BX8_bears_44 (σ : sn_S) (x1 : Int32) (x2 : Int32) (x3 : Int32) : Option ((Int32 × Int32) ⊕ (Int32)) :=
  (if (sn_I σ 38 0) ≤ x3 then
  (some (.inr (x2)))
  else
  (sn_gd (sn_in x1 6) ((fX8_hasBit (sn_I σ (38 + 4) x1.toNatClampNeg) x3).bind fun t_3 => (if t_3 = 0 then
  ((fX0_tickleAt σ 38 x1 x3).bind fun t_6 => (sn_lt (if x2 < (t_6 + (1 : Int32)) then (t_6 + (1 : Int32)) else x2) fun y_8 => (BX8_bears_87 σ x1 y_8 x3)))
  else
  (BX8_bears_87 σ x1 x2 x3)))))
def LX8_bears_44 (σ : sn_S) (x1 : Int32) (s : Int32 × Int32) : Option ((Int32 × Int32) ⊕ (Int32)) := BX8_bears_44 σ x1 s.1 s.2
def fX8_bears (σ : sn_S) (x1 : Int32) : Option (Int32 × sn_S) :=
  ((fX8_isPerson σ x1).bind fun t_1 => (if t_1 = 0 then
  (some ((-2 : Int32), σ))
  else
  ((fX0_copyFrom σ 38 27).bind fun t_4 => (sn_gd (sn_in x1 6) (sn_lt (sn_pI t_4 (38 + 3) x1.toNatClampNeg (1000000 : Int32)) fun σ_7 => ((fX0_liveWhole σ_7 38).bind fun t_9 => ((sn_it (LX8_bears_44 t_9 x1) 5000 ((1 : Int32), (0 : Int32))).bind fun t_11 => (BX8_bears_93 t_9 t_11))))))))
theorem wX8_bears_93 (C : sn_C p s m args meth c RX8 cX8_bears 4 (some .int) D ct ad layC A) {σ : sn_S} {x2 : Int32}  {o : (Int32 × sn_S)} (hf : BX8_bears_93 σ x2 = some o) (kr : sn_Kr p l e rmX8_bears s m args below meth c Q D ct ad layC A cX8_bears .ireturn (true) o.2 [.int o.1]) : sn_At p l e rmX8_bears s m args below meth c Q D ct ad layC A 4 σ 93 [(2, .int x2)] [] := by
  intro H locs ls hw hl
  have hx := C.1
  have hb := C.2.1
  unfold BX8_bears_93 at hf
  refine lv_iload_n hx hb dX8_bears_93 rfl (lv_at hl 0 rfl) ?_
  refine lv_bipush (v := 99) hx hb dX8_bears_94 (by decide) ?_
  refine lv_icmp_le (tgt := 103) hx hb dX8_bears_96 (by decide) (fun c_1 => ?_) (fun c_1 => ?_)
  · have hf := sn_if c_1 hf
    refine lv_iload_n hx hb dX8_bears_103 rfl (lv_at hl 0 rfl) ?_
    cases hf
    exact kr _ _ _ _ hw rfl dX8_bears_104
  · have hf := sn_el c_1 hf
    refine lv_iconst (v := (-1)) hx hb dX8_bears_99 rfl ?_
    refine lv_goto (tgt := 104) hx hb dX8_bears_100 (by decide) ?_
    cases hf
    exact kr _ _ _ _ hw rfl dX8_bears_104
theorem wX8_bears_87 (C : sn_C p s m args meth c RX8 cX8_bears 4 (some .int) D ct ad layC A) {σ : sn_S} {x1 : Int32} {x2 : Int32} {x3 : Int32}  {o : (Int32 × Int32) ⊕ (Int32)} (hf : BX8_bears_87 σ x1 x2 x3 = some o) (kc : ∀ v, o = .inl v → sn_At p l e rmX8_bears s m args below meth c Q D ct ad layC A 4 σ 44 [(0, .ref (ad 0)), (1, .int x1), (2, .int v.1), (3, .int v.2)] []) (kx : ∀ v, o = .inr v → sn_At p l e rmX8_bears s m args below meth c Q D ct ad layC A 4 σ 93 [(2, .int v)] []) : sn_At p l e rmX8_bears s m args below meth c Q D ct ad layC A 4 σ 87 [(0, .ref (ad 0)), (1, .int x1), (2, .int x2), (3, .int x3)] [] := by
  intro H locs ls hw hl
  have hx := C.1
  have hb := C.2.1
  unfold BX8_bears_87 at hf
  obtain ⟨y_1, e_2, hf⟩ := sn_ltE hf
  refine lv_iinc (v := y_1) (lv' := [(3, .int y_1), (0, .ref (ad 0)), (1, .int x1), (2, .int x2)]) hx hb dX8_bears_87 hl (k := 3) rfl (by rw [e_2]; rfl) (by decide) rfl (fun ls hl => ?_)
  refine lv_goto (tgt := 44) hx hb dX8_bears_90 (by decide) ?_
  cases hf
  exact kc _ rfl _ _ _ hw (lv_sub hl [1, 2, 3, 0] rfl)
theorem wX8_bears_44 (C : sn_C p s m args meth c RX8 cX8_bears 4 (some .int) D ct ad layC A) {σ : sn_S} {x1 : Int32} {x2 : Int32} {x3 : Int32}  {o : (Int32 × Int32) ⊕ (Int32)} (hf : BX8_bears_44 σ x1 x2 x3 = some o) (kc : ∀ v, o = .inl v → sn_At p l e rmX8_bears s m args below meth c Q D ct ad layC A 4 σ 44 [(0, .ref (ad 0)), (1, .int x1), (2, .int v.1), (3, .int v.2)] []) (kx : ∀ v, o = .inr v → sn_At p l e rmX8_bears s m args below meth c Q D ct ad layC A 4 σ 93 [(2, .int v)] []) : sn_At p l e rmX8_bears s m args below meth c Q D ct ad layC A 4 σ 44 [(0, .ref (ad 0)), (1, .int x1), (2, .int x2), (3, .int x3)] [] := by
  intro H locs ls hw hl
  have hx := C.1
  have hb := C.2.1
  unfold BX8_bears_44 at hf
  refine lv_iload_n hx hb dX8_bears_44 rfl (lv_at hl 3 rfl) ?_
  refine lv_aload_n hx hb dX8_bears_45 rfl (lv_at hl 0 rfl) ?_
  refine sn_getC (r := 38) C hw fd_RX8_48 layC_0 rfl dX8_bears_46 ?_
  refine sn_getI C hw fd_RX8_151 (sn_look sn_isX0_38 (k := 0) rfl) rfl dX8_bears_49 ?_
  refine lv_icmp_ge (tgt := 93) hx hb dX8_bears_52 (by decide) (fun c_1 => ?_) (fun c_1 => ?_)
  · have hf := sn_if c_1 hf
    cases hf
    exact kx _ rfl _ _ _ hw (lv_sub hl [2] rfl)
  · have hf := sn_el c_1 hf
    refine lv_aload_n hx hb dX8_bears_55 rfl (lv_at hl 0 rfl) ?_
    refine sn_getC (r := 38) C hw fd_RX8_48 layC_0 rfl dX8_bears_56 ?_
    refine sn_getC (r := (38 + 4)) C hw fd_RX8_196 (sn_look sn_isX0_38 (k := 0) rfl) rfl dX8_bears_59 ?_
    refine lv_iload_n hx hb dX8_bears_62 rfl (lv_at hl 1 rfl) ?_
    obtain ⟨g_2, hf⟩ := sn_gdE hf
    refine sn_iald C hw (sn_look sn_isX0_38 (k := 4) rfl) g_2 dX8_bears_63 ?_
    refine lv_iload_n hx hb dX8_bears_64 rfl (lv_at hl 3 rfl) ?_
    obtain ⟨t_3, h_4, hf⟩ := sn_bd hf
    refine sn_callSi (rest := []) C hw (ctX8_hasBit l  h_4) kl_RX8_170 rfl rfl rfl (Nat.le_of_ble_eq_true rfl) dX8_bears_65 hl.1 (fun H locs hw => ?_)
    refine lv_if_ne (tgt := 87) hx hb dX8_bears_68 (by decide) (fun c_5 => ?_) (fun c_5 => ?_)
    · have hf := sn_el c_5 hf
      exact wX8_bears_87 C  hf kc kx _ _ _ hw (lv_sub hl [0, 1, 2, 3] rfl)
    · have hf := sn_if c_5 hf
      refine lv_iload_n hx hb dX8_bears_71 rfl (lv_at hl 2 rfl) ?_
      refine lv_aload_n hx hb dX8_bears_72 rfl (lv_at hl 0 rfl) ?_
      refine sn_getC (r := 38) C hw fd_RX8_48 layC_0 rfl dX8_bears_73 ?_
      refine lv_iload_n hx hb dX8_bears_76 rfl (lv_at hl 1 rfl) ?_
      refine lv_iload_n hx hb dX8_bears_77 rfl (lv_at hl 3 rfl) ?_
      obtain ⟨t_6, h_7, hf⟩ := sn_bd hf
      refine sn_callVi (rest := [.int x2]) C hw (ctX0_tickleAt l sn_isX0_38 h_7) kl_RX8_148 (sn_look sn_isX0_38 (k := 0) rfl) rfl rfl rfl rfl (Nat.le_of_ble_eq_true rfl) dX8_bears_78 hl.1 (fun H locs hw => ?_)
      refine lv_iconst (v := 1) hx hb dX8_bears_81 rfl ?_
      refine lv_iadd hx hb dX8_bears_82 ?_
      refine va_mmax hx hb (C.2.2.1.trans hl.1.symm) C.2.2.2.1 (C.2.2.2.2.1 _ km_RX8_154) (C.2.2.2.2.1 _ kst_maxI) (C.2.2.2.2.1 _ ki_Math) (C.2.2.2.2.1 _ kc_maxI) (Nat.le_of_ble_eq_true rfl) (Nat.le_of_ble_eq_true rfl) (Nat.zero_le _) (Nat.zero_le _) dX8_bears_83 ?_
      obtain ⟨y_8, e_9, hf⟩ := sn_ltE hf
      refine lv_topi (fun y_8_ e_9_ => ?_)
      obtain rfl : y_8 = y_8_ := e_9.trans e_9_.symm
      refine lv_istore_n (lv' := [(2, .int y_8), (0, .ref (ad 0)), (1, .int x1), (3, .int x3)]) hx hb dX8_bears_86 rfl hl (by decide) rfl (fun ls hl => ?_)
      exact wX8_bears_87 C  hf kc kx _ _ _ hw (lv_sub hl [1, 2, 0, 3] rfl)
theorem wX8_bears_L44 (C : sn_C p s m args meth c RX8 cX8_bears 4 (some .int) D ct ad layC A) {σ : sn_S} {x1 : Int32}   {z : Int32 × Int32} {t : Int32} (h : sn_it (LX8_bears_44 σ x1) 5000 z = some t) (kx : ∀ v, t = v → sn_At p l e rmX8_bears s m args below meth c Q D ct ad layC A 4 σ 93 [(2, .int v)] []) : sn_At p l e rmX8_bears s m args below meth c Q D ct ad layC A 4 σ 44 [(0, .ref (ad 0)), (1, .int x1), (2, .int z.1), (3, .int z.2)] [] :=
  sn_loop (f := LX8_bears_44 σ x1) (G := fun z => sn_At p l e rmX8_bears s m args below meth c Q D ct ad layC A 4 σ 44 [(0, .ref (ad 0)), (1, .int x1), (2, .int z.1), (3, .int z.2)] []) (E := fun t => (∀ v, t = v → sn_At p l e rmX8_bears s m args below meth c Q D ct ad layC A 4 σ 93 [(2, .int v)] []) ∧ True) (fun z o hf k1 k2 => wX8_bears_44 C  hf (fun v e => k1 v e) (fun v e => (k2 _ e).1 v rfl)) 5000 z t h ⟨kx, trivial⟩
theorem wX8_bears_in (C : sn_C p s m args meth c RX8 cX8_bears 4 (some .int) D ct ad layC A) {σ : sn_S} {x1 : Int32}  {o : (Int32 × sn_S)} (hf : fX8_bears σ x1 = some o) (kr : sn_Kr p l e rmX8_bears s m args below meth c Q D ct ad layC A cX8_bears .ireturn (true) o.2 [.int o.1]) : sn_At p l e rmX8_bears s m args below meth c Q D ct ad layC A 4 σ 0 [(0, .ref (ad 0)), (1, .int x1)] [] := by
  intro H locs ls hw hl
  have hx := C.1
  have hb := C.2.1
  unfold fX8_bears at hf
  refine lv_aload_n hx hb dX8_bears_0 rfl (lv_at hl 0 rfl) ?_
  refine lv_iload_n hx hb dX8_bears_1 rfl (lv_at hl 1 rfl) ?_
  obtain ⟨t_1, h_2, hf⟩ := sn_bd hf
  refine sn_callVi (rest := []) C hw (ctX8_isPerson l  h_2) kl_RX8_107 layC_0 rfl rfl rfl rfl (Nat.le_of_ble_eq_true rfl) dX8_bears_2 hl.1 (fun H locs hw => ?_)
  refine lv_if_ne (tgt := 11) hx hb dX8_bears_5 (by decide) (fun c_3 => ?_) (fun c_3 => ?_)
  · have hf := sn_el c_3 hf
    refine lv_aload_n hx hb dX8_bears_11 rfl (lv_at hl 0 rfl) ?_
    refine sn_getC (r := 38) C hw fd_RX8_48 layC_0 rfl dX8_bears_12 ?_
    refine lv_aload_n hx hb dX8_bears_15 rfl (lv_at hl 0 rfl) ?_
    refine sn_getC (r := 27) C hw fd_RX8_44 layC_0 rfl dX8_bears_16 ?_
    obtain ⟨t_4, h_5, hf⟩ := sn_bd hf
    refine sn_callVv (rest := []) C hw (ctX0_copyFrom l sn_isX0_38 sn_isX0_27 h_5) kl_RX8_183 (sn_look sn_isX0_38 (k := 0) rfl) rfl rfl rfl rfl (Nat.le_of_ble_eq_true rfl) dX8_bears_19 hl.1 (fun H locs hw => ?_)
    refine lv_aload_n hx hb dX8_bears_22 rfl (lv_at hl 0 rfl) ?_
    refine sn_getC (r := 38) C hw fd_RX8_48 layC_0 rfl dX8_bears_23 ?_
    refine sn_getC (r := (38 + 3)) C hw fd_RX8_192 (sn_look sn_isX0_38 (k := 0) rfl) rfl dX8_bears_26 ?_
    refine lv_iload_n hx hb dX8_bears_29 rfl (lv_at hl 1 rfl) ?_
    refine lv_ldc hx hb C.2.2.2.1 (C.2.2.2.2.1 _ kk_RX8_195) dX8_bears_30 ?_
    obtain ⟨g_6, hf⟩ := sn_gdE hf
    refine sn_iast C hw (sn_look sn_isX0_38 (k := 3) rfl) g_6 dX8_bears_32 (fun H locs hw => ?_)
    obtain ⟨σ_7, e_8, hf⟩ := sn_ltE hf
    rw [← e_8] at hw
    refine lv_aload_n hx hb dX8_bears_33 rfl (lv_at hl 0 rfl) ?_
    refine sn_getC (r := 38) C hw fd_RX8_48 layC_0 rfl dX8_bears_34 ?_
    obtain ⟨t_9, h_10, hf⟩ := sn_bd hf
    refine sn_callVv (rest := []) C hw (ctX0_liveWhole l sn_isX0_38 h_10) kl_RX8_189 (sn_look sn_isX0_38 (k := 0) rfl) rfl rfl rfl rfl (Nat.le_of_ble_eq_true rfl) dX8_bears_37 hl.1 (fun H locs hw => ?_)
    refine lv_iconst (v := 1) hx hb dX8_bears_40 rfl ?_
    refine lv_istore_n (lv' := [(2, .int (1 : Int32)), (0, .ref (ad 0)), (1, .int x1)]) hx hb dX8_bears_41 rfl hl (by decide) rfl (fun ls hl => ?_)
    refine lv_iconst (v := 0) hx hb dX8_bears_42 rfl ?_
    refine lv_istore_n (lv' := [(3, .int (0 : Int32)), (2, .int (1 : Int32)), (0, .ref (ad 0)), (1, .int x1)]) hx hb dX8_bears_43 rfl hl (by decide) rfl (fun ls hl => ?_)
    obtain ⟨t_11, h_12, hf⟩ := sn_bd hf
    exact wX8_bears_L44 C  h_12 (fun v e => by cases e; exact wX8_bears_93 C  hf kr) _ _ _ hw (lv_sub hl [2, 3, 1, 0] rfl)
  · have hf := sn_if c_3 hf
    refine lv_bipush (v := (-2)) hx hb dX8_bears_8 (by decide) ?_
    cases hf
    exact kr _ _ _ _ hw rfl dX8_bears_10
theorem ctX8_bears (l : Launch) {σ : sn_S} {x1 : Int32}  {o : (Int32 × sn_S)} (hf : fX8_bears σ x1 = some o) : sn_M l yX8_bears cX8_bears 4 (some .int) rmX8_bears layC (fun ad => [.ref (ad 0), .int x1]) σ (some (fun _ => .int o.1)) o.2 :=
  sn_met (by decide) (fun _ => Nat.le_of_ble_eq_true rfl) (fun p e s m args below meth c ls D ct ad A C hw hl => wX8_bears_in C  hf (fun H locs ls pc hw ok hd => sn_iret C hw hd) _ _ _ hw hl)
end
