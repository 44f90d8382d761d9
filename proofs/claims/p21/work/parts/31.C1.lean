section
variable {p : Program} {l : Launch} {e : Env} {s : State} {m : MethodId} {args : Array Value} {below : List Frame} {meth : Method} {c : Code} {Q : State → Prop} {D : va_G} {ct : Nat → ClassId} {ad : Nat → Nat} {A : Nat → Prop} {lay : List sn_E}
-- X0_liveWhole
abbrev rmX0_liveWhole : Room := { frames := 4, cells := 0, slots := 0, locals := 93 }
def fX0_liveWhole (σ : sn_S) (q0 : Nat) : Option sn_S :=
  ((fX0_live σ q0 (0 : Int32) (sn_I σ q0 0)).bind fun t_1 => (some t_1))
theorem wX0_liveWhole_in (C : sn_C p s m args meth c RX0 cX0_liveWhole 1 none D ct ad layC A) {σ : sn_S} {q0 : Nat} (h0 : sn_isX0 q0) {o : sn_S} (hf : fX0_liveWhole σ q0 = some o) (kr : sn_Kr p l e rmX0_liveWhole s m args below meth c Q D ct ad layC A cX0_liveWhole .return_ (true) o []) : sn_At p l e rmX0_liveWhole s m args below meth c Q D ct ad layC A 1 σ 0 [(0, .ref (ad q0))] [] := by
  intro H locs ls hw hl
  have hx := C.1
  have hb := C.2.1
  unfold fX0_liveWhole at hf
  refine lv_aload_n hx hb dX0_liveWhole_0 rfl (lv_at hl 0 rfl) ?_
  refine lv_iconst (v := 0) hx hb dX0_liveWhole_1 rfl ?_
  refine lv_aload_n hx hb dX0_liveWhole_2 rfl (lv_at hl 0 rfl) ?_
  refine sn_getI C hw fd_RX0_51 (sn_look h0 (k := 0) rfl) rfl dX0_liveWhole_3 ?_
  obtain ⟨t_1, h_2, hf⟩ := sn_bd hf
  refine sn_callVv (rest := []) C hw (ctX0_live l h0 h_2) kl_RX0_83 (sn_look h0 (k := 0) rfl) rfl rfl rfl rfl (Nat.le_of_ble_eq_true rfl) dX0_liveWhole_6 hl.1 (fun H locs hw => ?_)
  cases hf
  exact kr _ _ _ _ hw rfl dX0_liveWhole_9
theorem ctX0_liveWhole (l : Launch) {σ : sn_S} {q0 : Nat} (h0 : sn_isX0 q0) {o : sn_S} (hf : fX0_liveWhole σ q0 = some o) : sn_M l yX0_liveWhole cX0_liveWhole 1 none rmX0_liveWhole layC (fun ad => [.ref (ad q0)]) σ none o :=
  sn_met (by decide) (fun _ => Nat.le_of_ble_eq_true rfl) (fun p e s m args below meth c ls D ct ad A C hw hl => wX0_liveWhole_in C h0 hf (fun H locs ls pc hw ok hd => sn_vret C hw hd) _ _ _ hw hl)
-- X0_tickleAt
abbrev rmX0_tickleAt : Room := { frames := 0, cells := 0, slots := 0, locals := 0 }
def fX0_tickleAt (σ : sn_S) (q0 : Nat) (x1 : Int32) (x2 : Int32) : Option Int32 :=
  (sn_gd (sn_in (((6 : Int32) * x2) + x1) 180) (some (sn_I σ (q0 + 7) (((6 : Int32) * x2) + x1).toNatClampNeg)))
theorem wX0_tickleAt_in (C : sn_C p s m args meth c RX0 cX0_tickleAt 3 (some .int) D ct ad layC A) {σ : sn_S} {q0 : Nat} {x1 : Int32} {x2 : Int32} (h0 : sn_isX0 q0) {o : Int32} (hf : fX0_tickleAt σ q0 x1 x2 = some o) (kr : sn_Kr p l e rmX0_tickleAt s m args below meth c Q D ct ad layC A cX0_tickleAt .ireturn (true) σ [.int o]) : sn_At p l e rmX0_tickleAt s m args below meth c Q D ct ad layC A 3 σ 0 [(0, .ref (ad q0)), (1, .int x1), (2, .int x2)] [] := by
  intro H locs ls hw hl
  have hx := C.1
  have hb := C.2.1
  unfold fX0_tickleAt at hf
  refine lv_aload_n hx hb dX0_tickleAt_0 rfl (lv_at hl 0 rfl) ?_
  refine sn_getC (r := (q0 + 7)) C hw fd_RX0_34 (sn_look h0 (k := 0) rfl) rfl dX0_tickleAt_1 ?_
  refine lv_bipush (v := 6) hx hb dX0_tickleAt_4 (by decide) ?_
  refine lv_iload_n hx hb dX0_tickleAt_6 rfl (lv_at hl 2 rfl) ?_
  refine lv_imul hx hb dX0_tickleAt_7 ?_
  refine lv_iload_n hx hb dX0_tickleAt_8 rfl (lv_at hl 1 rfl) ?_
  refine lv_iadd hx hb dX0_tickleAt_9 ?_
  obtain ⟨g_1, hf⟩ := sn_gdE hf
  refine sn_iald C hw (sn_look h0 (k := 7) rfl) g_1 dX0_tickleAt_10 ?_
  cases hf
  exact kr _ _ _ _ hw rfl dX0_tickleAt_11
theorem ctX0_tickleAt (l : Launch) {σ : sn_S} {q0 : Nat} {x1 : Int32} {x2 : Int32} (h0 : sn_isX0 q0) {o : Int32} (hf : fX0_tickleAt σ q0 x1 x2 = some o) : sn_M l yX0_tickleAt cX0_tickleAt 3 (some .int) rmX0_tickleAt layC (fun ad => [.ref (ad q0), .int x1, .int x2]) σ (some (fun _ => .int o)) σ :=
  sn_met (by decide) (fun _ => Nat.le_of_ble_eq_true rfl) (fun p e s m args below meth c ls D ct ad A C hw hl => wX0_tickleAt_in C h0 hf (fun H locs ls pc hw ok hd => sn_iret C hw hd) _ _ _ hw hl)
-- J6_bitCount_0f7a4
abbrev rmJ6_bitCount_0f7a4 : Room := { frames := 0, cells := 0, slots := 0, locals := 0 }
def fJ6_bitCount_0f7a4 (x0 : Int32) : Option Int32 :=
  (sn_lt (x0 - (((x0.toUInt32 >>> ((1 : Int32).toUInt32 &&& Int32.toUInt32 31)).toInt32) &&& (1431655765 : Int32))) fun y_1 => (sn_lt ((y_1 &&& (858993459 : Int32)) + (((y_1.toUInt32 >>> ((2 : Int32).toUInt32 &&& Int32.toUInt32 31)).toInt32) &&& (858993459 : Int32))) fun y_3 => (sn_lt ((y_3 + ((y_3.toUInt32 >>> ((4 : Int32).toUInt32 &&& Int32.toUInt32 31)).toInt32)) &&& (252645135 : Int32)) fun y_5 => (sn_lt (y_5 + ((y_5.toUInt32 >>> ((8 : Int32).toUInt32 &&& Int32.toUInt32 31)).toInt32)) fun y_7 => (sn_lt (y_7 + ((y_7.toUInt32 >>> ((16 : Int32).toUInt32 &&& Int32.toUInt32 31)).toInt32)) fun y_9 => (some (y_9 &&& (63 : Int32))))))))
theorem wJ6_bitCount_0f7a4_in (C : sn_C p s m args meth c RJ6 cJ6_bitCount_0f7a4 1 (some .int) D ct ad lay A) {σ : sn_S} {x0 : Int32}  {o : Int32} (hf : fJ6_bitCount_0f7a4 x0 = some o) (kr : sn_Kr p l e rmJ6_bitCount_0f7a4 s m args below meth c Q D ct ad lay A cJ6_bitCount_0f7a4 .ireturn (true) σ [.int o]) : sn_At p l e rmJ6_bitCount_0f7a4 s m args below meth c Q D ct ad lay A 1 σ 0 [(0, .int x0)] [] := by
  intro H locs ls hw hl
  have hx := C.1
  have hb := C.2.1
  unfold fJ6_bitCount_0f7a4 at hf
  refine lv_iload_n hx hb dJ6_bitCount_0f7a4_0 rfl (lv_at hl 0 rfl) ?_
  refine lv_iload_n hx hb dJ6_bitCount_0f7a4_1 rfl (lv_at hl 0 rfl) ?_
  refine lv_iconst (v := 1) hx hb dJ6_bitCount_0f7a4_2 rfl ?_
  refine lv_iushr hx hb dJ6_bitCount_0f7a4_3 rfl ?_
  refine lv_ldcw hx hb C.2.2.2.1 (C.2.2.2.2.1 _ kk_RJ6_265) dJ6_bitCount_0f7a4_4 ?_
  refine lv_iand hx hb dJ6_bitCount_0f7a4_7 ?_
  refine lv_isub hx hb dJ6_bitCount_0f7a4_8 ?_
  obtain ⟨y_1, e_2, hf⟩ := sn_ltE hf
  refine lv_topi (fun y_1_ e_2_ => ?_)
  obtain rfl : y_1 = y_1_ := e_2.trans e_2_.symm
  refine lv_istore_n (lv' := [(0, .int y_1)]) hx hb dJ6_bitCount_0f7a4_9 rfl hl (by decide) rfl (fun ls hl => ?_)
  refine lv_iload_n hx hb dJ6_bitCount_0f7a4_10 rfl (lv_at hl 0 rfl) ?_
  refine lv_ldcw hx hb C.2.2.2.1 (C.2.2.2.2.1 _ kk_RJ6_266) dJ6_bitCount_0f7a4_11 ?_
  refine lv_iand hx hb dJ6_bitCount_0f7a4_14 ?_
  refine lv_iload_n hx hb dJ6_bitCount_0f7a4_15 rfl (lv_at hl 0 rfl) ?_
  refine lv_iconst (v := 2) hx hb dJ6_bitCount_0f7a4_16 rfl ?_
  refine lv_iushr hx hb dJ6_bitCount_0f7a4_17 rfl ?_
  refine lv_ldcw hx hb C.2.2.2.1 (C.2.2.2.2.1 _ kk_RJ6_266) dJ6_bitCount_0f7a4_18 ?_
  refine lv_iand hx hb dJ6_bitCount_0f7a4_21 ?_
  refine lv_iadd hx hb dJ6_bitCount_0f7a4_22 ?_
  obtain ⟨y_3, e_4, hf⟩ := sn_ltE hf
  refine lv_topi (fun y_3_ e_4_ => ?_)
  obtain rfl : y_3 = y_3_ := e_4.trans e_4_.symm
  refine lv_istore_n (lv' := [(0, .int y_3)]) hx hb dJ6_bitCount_0f7a4_23 rfl hl (by decide) rfl (fun ls hl => ?_)
  refine lv_iload_n hx hb dJ6_bitCount_0f7a4_24 rfl (lv_at hl 0 rfl) ?_
  refine lv_iload_n hx hb dJ6_bitCount_0f7a4_25 rfl (lv_at hl 0 rfl) ?_
  refine lv_iconst (v := 4) hx hb dJ6_bitCount_0f7a4_26 rfl ?_
  refine lv_iushr hx hb dJ6_bitCount_0f7a4_27 rfl ?_
  refine lv_iadd hx hb dJ6_bitCount_0f7a4_28 ?_
  refine lv_ldcw hx hb C.2.2.2.1 (C.2.2.2.2.1 _ kk_RJ6_267) dJ6_bitCount_0f7a4_29 ?_
  refine lv_iand hx hb dJ6_bitCount_0f7a4_32 ?_
  obtain ⟨y_5, e_6, hf⟩ := sn_ltE hf
  refine lv_topi (fun y_5_ e_6_ => ?_)
  obtain rfl : y_5 = y_5_ := e_6.trans e_6_.symm
  refine lv_istore_n (lv' := [(0, .int y_5)]) hx hb dJ6_bitCount_0f7a4_33 rfl hl (by decide) rfl (fun ls hl => ?_)
  refine lv_iload_n hx hb dJ6_bitCount_0f7a4_34 rfl (lv_at hl 0 rfl) ?_
  refine lv_iload_n hx hb dJ6_bitCount_0f7a4_35 rfl (lv_at hl 0 rfl) ?_
  refine lv_bipush (v := 8) hx hb dJ6_bitCount_0f7a4_36 (by decide) ?_
  refine lv_iushr hx hb dJ6_bitCount_0f7a4_38 rfl ?_
  refine lv_iadd hx hb dJ6_bitCount_0f7a4_39 ?_
  obtain ⟨y_7, e_8, hf⟩ := sn_ltE hf
  refine lv_topi (fun y_7_ e_8_ => ?_)
  obtain rfl : y_7 = y_7_ := e_8.trans e_8_.symm
  refine lv_istore_n (lv' := [(0, .int y_7)]) hx hb dJ6_bitCount_0f7a4_40 rfl hl (by decide) rfl (fun ls hl => ?_)
  refine lv_iload_n hx hb dJ6_bitCount_0f7a4_41 rfl (lv_at hl 0 rfl) ?_
  refine lv_iload_n hx hb dJ6_bitCount_0f7a4_42 rfl (lv_at hl 0 rfl) ?_
  refine lv_bipush (v := 16) hx hb dJ6_bitCount_0f7a4_43 (by decide) ?_
  refine lv_iushr hx hb dJ6_bitCount_0f7a4_45 rfl ?_
  refine lv_iadd hx hb dJ6_bitCount_0f7a4_46 ?_
  obtain ⟨y_9, e_10, hf⟩ := sn_ltE hf
  refine lv_topi (fun y_9_ e_10_ => ?_)
  obtain rfl : y_9 = y_9_ := e_10.trans e_10_.symm
  refine lv_istore_n (lv' := [(0, .int y_9)]) hx hb dJ6_bitCount_0f7a4_47 rfl hl (by decide) rfl (fun ls hl => ?_)
  refine lv_iload_n hx hb dJ6_bitCount_0f7a4_48 rfl (lv_at hl 0 rfl) ?_
  refine lv_bipush (v := 63) hx hb dJ6_bitCount_0f7a4_49 (by decide) ?_
  refine lv_iand hx hb dJ6_bitCount_0f7a4_51 ?_
  cases hf
  exact kr _ _ _ _ hw rfl dJ6_bitCount_0f7a4_52
theorem ctJ6_bitCount_0f7a4 (l : Launch) {σ : sn_S} {x0 : Int32}  {o : Int32} (hf : fJ6_bitCount_0f7a4 x0 = some o) : sn_M l yJ6_bitCount_0f7a4 cJ6_bitCount_0f7a4 1 (some .int) rmJ6_bitCount_0f7a4 lay (fun ad => [.int x0]) σ (some (fun _ => .int o)) σ :=
  sn_met (by decide) (fun _ => Nat.le_of_ble_eq_true rfl) (fun p e s m args below meth c ls D ct ad A C hw hl => wJ6_bitCount_0f7a4_in C  hf (fun H locs ls pc hw ok hd => sn_iret C hw hd) _ _ _ hw hl)
-- X0_total
abbrev rmX0_total : Room := { frames := 1, cells := 0, slots := 0, locals := 20 }
def BX0_total_30 (σ : sn_S) (q0 : Nat) (x1 : Int32) : Option (Int32) :=
  (some x1)
def BX0_total_4 (σ : sn_S) (q0 : Nat) (x1 : Int32) (x2 : Int32) : Option ((Int32 × Int32) ⊕ (Int32)) :=
  (if (sn_I σ q0 1) ≤ x2 then
  (some (.inr (x1)))
  else
  (sn_gd (sn_in x2 6) ((fJ6_bitCount_0f7a4 (sn_I σ (q0 + 10) x2.toNatClampNeg)).bind fun t_3 => (sn_lt (x1 + t_3) fun y_5 => (sn_lt (x2 + 1) fun y_7 => (some (.inl (y_5, y_7))))))))
def LX0_total_4 (σ : sn_S) (q0 : Nat) (s : Int32 × Int32) : Option ((Int32 × Int32) ⊕ (Int32)) := BX0_total_4 σ q0 s.1 s.2
def fX0_total (σ : sn_S) (q0 : Nat) : Option Int32 :=
  ((sn_it (LX0_total_4 σ q0) 5000 ((0 : Int32), (0 : Int32))).bind fun t_1 => (BX0_total_30 σ q0 t_1))
theorem wX0_total_30 (C : sn_C p s m args meth c RX0 cX0_total 3 (some .int) D ct ad layC A) {σ : sn_S} {q0 : Nat} {x1 : Int32} (h0 : sn_isX0 q0) {o : Int32} (hf : BX0_total_30 σ q0 x1 = some o) (kr : sn_Kr p l e rmX0_total s m args below meth c Q D ct ad layC A cX0_total .ireturn (true) σ [.int o]) : sn_At p l e rmX0_total s m args below meth c Q D ct ad layC A 3 σ 30 [(1, .int x1)] [] := by
  intro H locs ls hw hl
  have hx := C.1
  have hb := C.2.1
  unfold BX0_total_30 at hf
  refine lv_iload_n hx hb dX0_total_30 rfl (lv_at hl 0 rfl) ?_
  cases hf
  exact kr _ _ _ _ hw rfl dX0_total_31
theorem wX0_total_4 (C : sn_C p s m args meth c RX0 cX0_total 3 (some .int) D ct ad layC A) {σ : sn_S} {q0 : Nat} {x1 : Int32} {x2 : Int32} (h0 : sn_isX0 q0) {o : (Int32 × Int32) ⊕ (Int32)} (hf : BX0_total_4 σ q0 x1 x2 = some o) (kc : ∀ v, o = .inl v → sn_At p l e rmX0_total s m args below meth c Q D ct ad layC A 3 σ 4 [(0, .ref (ad q0)), (1, .int v.1), (2, .int v.2)] []) (kx : ∀ v, o = .inr v → sn_At p l e rmX0_total s m args below meth c Q D ct ad layC A 3 σ 30 [(1, .int v)] []) : sn_At p l e rmX0_total s m args below meth c Q D ct ad layC A 3 σ 4 [(0, .ref (ad q0)), (1, .int x1), (2, .int x2)] [] := by
  intro H locs ls hw hl
  have hx := C.1
  have hb := C.2.1
  unfold BX0_total_4 at hf
  refine lv_iload_n hx hb dX0_total_4 rfl (lv_at hl 2 rfl) ?_
  refine lv_aload_n hx hb dX0_total_5 rfl (lv_at hl 0 rfl) ?_
  refine sn_getI C hw fd_RX0_54 (sn_look h0 (k := 0) rfl) rfl dX0_total_6 ?_
  refine lv_icmp_ge (tgt := 30) hx hb dX0_total_9 (by decide) (fun c_1 => ?_) (fun c_1 => ?_)
  · have hf := sn_if c_1 hf
    cases hf
    exact kx _ rfl _ _ _ hw (lv_sub hl [1] rfl)
  · have hf := sn_el c_1 hf
    refine lv_iload_n hx hb dX0_total_12 rfl (lv_at hl 1 rfl) ?_
    refine lv_aload_n hx hb dX0_total_13 rfl (lv_at hl 0 rfl) ?_
    refine sn_getC (r := (q0 + 10)) C hw fd_RX0_43 (sn_look h0 (k := 0) rfl) rfl dX0_total_14 ?_
    refine lv_iload_n hx hb dX0_total_17 rfl (lv_at hl 2 rfl) ?_
    obtain ⟨g_2, hf⟩ := sn_gdE hf
    refine sn_iald C hw (sn_look h0 (k := 10) rfl) g_2 dX0_total_18 ?_
    obtain ⟨t_3, h_4, hf⟩ := sn_bd hf
    refine sn_callSi (rest := [.int x1]) C hw (ctJ6_bitCount_0f7a4 l  h_4) kl_RX0_108 rfl rfl rfl (Nat.le_of_ble_eq_true rfl) dX0_total_19 hl.1 (fun H locs hw => ?_)
    refine lv_iadd hx hb dX0_total_22 ?_
    obtain ⟨y_5, e_6, hf⟩ := sn_ltE hf
    refine lv_topi (fun y_5_ e_6_ => ?_)
    obtain rfl : y_5 = y_5_ := e_6.trans e_6_.symm
    refine lv_istore_n (lv' := [(1, .int y_5), (0, .ref (ad q0)), (2, .int x2)]) hx hb dX0_total_23 rfl hl (by decide) rfl (fun ls hl => ?_)
    obtain ⟨y_7, e_8, hf⟩ := sn_ltE hf
    refine lv_iinc (v := y_7) (lv' := [(2, .int y_7), (1, .int y_5), (0, .ref (ad q0))]) hx hb dX0_total_24 hl (k := 2) rfl (by rw [e_8]; rfl) (by decide) rfl (fun ls hl => ?_)
    refine lv_goto (tgt := 4) hx hb dX0_total_27 (by decide) ?_
    cases hf
    exact kc _ rfl _ _ _ hw (lv_sub hl [2, 1, 0] rfl)
theorem wX0_total_L4 (C : sn_C p s m args meth c RX0 cX0_total 3 (some .int) D ct ad layC A) {σ : sn_S} {q0 : Nat}  (h0 : sn_isX0 q0) {z : Int32 × Int32} {t : Int32} (h : sn_it (LX0_total_4 σ q0) 5000 z = some t) (kx : ∀ v, t = v → sn_At p l e rmX0_total s m args below meth c Q D ct ad layC A 3 σ 30 [(1, .int v)] []) : sn_At p l e rmX0_total s m args below meth c Q D ct ad layC A 3 σ 4 [(0, .ref (ad q0)), (1, .int z.1), (2, .int z.2)] [] :=
  sn_loop (f := LX0_total_4 σ q0) (G := fun z => sn_At p l e rmX0_total s m args below meth c Q D ct ad layC A 3 σ 4 [(0, .ref (ad q0)), (1, .int z.1), (2, .int z.2)] []) (E := fun t => (∀ v, t = v → sn_At p l e rmX0_total s m args below meth c Q D ct ad layC A 3 σ 30 [(1, .int v)] []) ∧ True) (fun z o hf k1 k2 => wX0_total_4 C h0 hf (fun v e => k1 v e) (fun v e => (k2 _ e).1 v rfl)) 5000 z t h ⟨kx, trivial⟩
theorem wX0_total_in (C : sn_C p s m args meth c RX0 cX0_total 3 (some .int) D ct ad layC A) {σ : sn_S} {q0 : Nat} (h0 : sn_isX0 q0) {o : Int32} (hf : fX0_total σ q0 = some o) (kr : sn_Kr p l e rmX0_total s m args below meth c Q D ct ad layC A cX0_total .ireturn (true) σ [.int o]) : sn_At p l e rmX0_total s m args below meth c Q D ct ad layC A 3 σ 0 [(0, .ref (ad q0))] [] := by
  intro H locs ls hw hl
  have hx := C.1
  have hb := C.2.1
  unfold fX0_total at hf
  refine lv_iconst (v := 0) hx hb dX0_total_0 rfl ?_
  refine lv_istore_n (lv' := [(1, .int (0 : Int32)), (0, .ref (ad q0))]) hx hb dX0_total_1 rfl hl (by decide) rfl (fun ls hl => ?_)
  refine lv_iconst (v := 0) hx hb dX0_total_2 rfl ?_
  refine lv_istore_n (lv' := [(2, .int (0 : Int32)), (1, .int (0 : Int32)), (0, .ref (ad q0))]) hx hb dX0_total_3 rfl hl (by decide) rfl (fun ls hl => ?_)
  obtain ⟨t_1, h_2, hf⟩ := sn_bd hf
  exact wX0_total_L4 C h0 h_2 (fun v e => by cases e; exact wX0_total_30 C h0 hf kr) _ _ _ hw (lv_sub hl [2, 1, 0] rfl)
theorem ctX0_total (l : Launch) {σ : sn_S} {q0 : Nat} (h0 : sn_isX0 q0) {o : Int32} (hf : fX0_total σ q0 = some o) : sn_M l yX0_total cX0_total 3 (some .int) rmX0_total layC (fun ad => [.ref (ad q0)]) σ (some (fun _ => .int o)) σ :=
  sn_met (by decide) (fun _ => Nat.le_of_ble_eq_true rfl) (fun p e s m args below meth c ls D ct ad A C hw hl => wX0_total_in C h0 hf (fun H locs ls pc hw ok hd => sn_iret C hw hd) _ _ _ hw hl)
-- X2_ofPolicy
abbrev rmX2_ofPolicy : Room := { frames := 0, cells := 0, slots := 0, locals := 0 }
def fX2_ofPolicy (σ : sn_S) (q0 : Nat) (x1 : Int32) (x2 : Int32) : Option Int32 :=
  (sn_gd (sn_in (((5 : Int32) * x1) + x2) 30) (some (sn_I σ (q0 + 5) (((5 : Int32) * x1) + x2).toNatClampNeg)))
theorem wX2_ofPolicy_in (C : sn_C p s m args meth c RX2 cX2_ofPolicy 3 (some .int) D ct ad layC A) {σ : sn_S} {q0 : Nat} {x1 : Int32} {x2 : Int32} (h0 : sn_isX2 q0) {o : Int32} (hf : fX2_ofPolicy σ q0 x1 x2 = some o) (kr : sn_Kr p l e rmX2_ofPolicy s m args below meth c Q D ct ad layC A cX2_ofPolicy .ireturn (true) σ [.int o]) : sn_At p l e rmX2_ofPolicy s m args below meth c Q D ct ad layC A 3 σ 0 [(0, .ref (ad q0)), (1, .int x1), (2, .int x2)] [] := by
  intro H locs ls hw hl
  have hx := C.1
  have hb := C.2.1
  unfold fX2_ofPolicy at hf
  refine lv_aload_n hx hb dX2_ofPolicy_0 rfl (lv_at hl 0 rfl) ?_
  refine sn_getC (r := (q0 + 5)) C hw fd_RX2_24 (sn_look h0 (k := 0) rfl) rfl dX2_ofPolicy_1 ?_
  refine lv_iconst (v := 5) hx hb dX2_ofPolicy_4 rfl ?_
  refine lv_iload_n hx hb dX2_ofPolicy_5 rfl (lv_at hl 1 rfl) ?_
  refine lv_imul hx hb dX2_ofPolicy_6 ?_
  refine lv_iload_n hx hb dX2_ofPolicy_7 rfl (lv_at hl 2 rfl) ?_
  refine lv_iadd hx hb dX2_ofPolicy_8 ?_
  obtain ⟨g_1, hf⟩ := sn_gdE hf
  refine sn_iald C hw (sn_look h0 (k := 5) rfl) g_1 dX2_ofPolicy_9 ?_
  cases hf
  exact kr _ _ _ _ hw rfl dX2_ofPolicy_10
theorem ctX2_ofPolicy (l : Launch) {σ : sn_S} {q0 : Nat} {x1 : Int32} {x2 : Int32} (h0 : sn_isX2 q0) {o : Int32} (hf : fX2_ofPolicy σ q0 x1 x2 = some o) : sn_M l yX2_ofPolicy cX2_ofPolicy 3 (some .int) rmX2_ofPolicy layC (fun ad => [.ref (ad q0), .int x1, .int x2]) σ (some (fun _ => .int o)) σ :=
  sn_met (by decide) (fun _ => Nat.le_of_ble_eq_true rfl) (fun p e s m args below meth c ls D ct ad A C hw hl => wX2_ofPolicy_in C h0 hf (fun H locs ls pc hw ok hd => sn_iret C hw hd) _ _ _ hw hl)
-- J7_fill_d0a16
abbrev rmJ7_fill_d0a16 : Room := { frames := 0, cells := 0, slots := 0, locals := 0 }
def BJ7_fill_d0a16_22 (σ : sn_S) (q0 : Nat) (n0 : Nat) : Option (sn_S) :=
  (some σ)
def BJ7_fill_d0a16_6 (σ : sn_S) (q0 : Nat) (n0 : Nat) (x1 : Int64) (x3 : Int32) (x4 : Int32) : Option ((sn_S × Int32) ⊕ (sn_S)) :=
  (if x4 ≤ x3 then
  (some (.inr (σ)))
  else
  (sn_gd (sn_in x3 n0) (sn_lt (sn_pL σ q0 x3.toNatClampNeg x1) fun σ_3 => (sn_lt (x3 + 1) fun y_5 => (some (.inl (σ_3, y_5)))))))
def LJ7_fill_d0a16_6 (q0 : Nat) (n0 : Nat) (x1 : Int64) (x4 : Int32) (s : sn_S × Int32) : Option ((sn_S × Int32) ⊕ (sn_S)) := BJ7_fill_d0a16_6 s.1 q0 n0 x1 s.2 x4
def fJ7_fill_d0a16 (σ : sn_S) (q0 : Nat) (n0 : Nat) (x1 : Int64) : Option sn_S :=
  (sn_lt (Int32.ofNat n0) fun y_1 => ((sn_it (LJ7_fill_d0a16_6 q0 n0 x1 y_1) 5000 (σ, (0 : Int32))).bind fun t_3 => (BJ7_fill_d0a16_22 t_3 q0 n0)))
theorem wJ7_fill_d0a16_22 (C : sn_C p s m args meth c RJ7 cJ7_fill_d0a16 5 none D ct ad lay A) {σ : sn_S} {q0 : Nat} {n0 : Nat} (h0 : lay[q0]? = some (.inl (3, n0, 1, []))) {o : sn_S} (hf : BJ7_fill_d0a16_22 σ q0 n0 = some o) (kr : sn_Kr p l e rmJ7_fill_d0a16 s m args below meth c Q D ct ad lay A cJ7_fill_d0a16 .return_ (true) o []) : sn_At p l e rmJ7_fill_d0a16 s m args below meth c Q D ct ad lay A 5 σ 22 [] [] := by
  intro H locs ls hw hl
  have hx := C.1
  have hb := C.2.1
  unfold BJ7_fill_d0a16_22 at hf
  cases hf
  exact kr _ _ _ _ hw rfl dJ7_fill_d0a16_22
theorem wJ7_fill_d0a16_6 (C : sn_C p s m args meth c RJ7 cJ7_fill_d0a16 5 none D ct ad lay A) {σ : sn_S} {q0 : Nat} {n0 : Nat} {x1 : Int64} {x3 : Int32} {x4 : Int32} (h0 : lay[q0]? = some (.inl (3, n0, 1, []))) {o : (sn_S × Int32) ⊕ (sn_S)} (hf : BJ7_fill_d0a16_6 σ q0 n0 x1 x3 x4 = some o) (kc : ∀ v, o = .inl v → sn_At p l e rmJ7_fill_d0a16 s m args below meth c Q D ct ad lay A 5 v.1 6 [(0, .ref (ad q0)), (1, .long x1), (3, .int v.2), (4, .int x4)] []) (kx : ∀ v, o = .inr v → sn_At p l e rmJ7_fill_d0a16 s m args below meth c Q D ct ad lay A 5 v 22 [] []) : sn_At p l e rmJ7_fill_d0a16 s m args below meth c Q D ct ad lay A 5 σ 6 [(0, .ref (ad q0)), (1, .long x1), (3, .int x3), (4, .int x4)] [] := by
  intro H locs ls hw hl
  have hx := C.1
  have hb := C.2.1
  unfold BJ7_fill_d0a16_6 at hf
  refine lv_iload_n hx hb dJ7_fill_d0a16_6 rfl (lv_at hl 2 rfl) ?_
  refine lv_iload hx hb dJ7_fill_d0a16_7 (lv_at hl 3 rfl) ?_
  refine lv_icmp_ge (tgt := 22) hx hb dJ7_fill_d0a16_9 (by decide) (fun c_1 => ?_) (fun c_1 => ?_)
  · have hf := sn_if c_1 hf
    cases hf
    exact kx _ rfl _ _ _ hw (lv_sub hl [] rfl)
  · have hf := sn_el c_1 hf
    refine lv_aload_n hx hb dJ7_fill_d0a16_12 rfl (lv_at hl 0 rfl) ?_
    refine lv_iload_n hx hb dJ7_fill_d0a16_13 rfl (lv_at hl 2 rfl) ?_
    refine lv_lload_n hx hb dJ7_fill_d0a16_14 rfl (lv_at hl 1 rfl) ?_
    obtain ⟨g_2, hf⟩ := sn_gdE hf
    refine sn_last C hw h0 g_2 dJ7_fill_d0a16_15 (fun H locs hw => ?_)
    obtain ⟨σ_3, e_4, hf⟩ := sn_ltE hf
    rw [← e_4] at hw
    obtain ⟨y_5, e_6, hf⟩ := sn_ltE hf
    refine lv_iinc (v := y_5) (lv' := [(3, .int y_5), (0, .ref (ad q0)), (1, .long x1), (4, .int x4)]) hx hb dJ7_fill_d0a16_16 hl (k := 2) rfl (by rw [e_6]; rfl) (by decide) rfl (fun ls hl => ?_)
    refine lv_goto (tgt := 6) hx hb dJ7_fill_d0a16_19 (by decide) ?_
    cases hf
    exact kc _ rfl _ _ _ hw (lv_sub hl [1, 2, 0, 3] rfl)
theorem wJ7_fill_d0a16_L6 (C : sn_C p s m args meth c RJ7 cJ7_fill_d0a16 5 none D ct ad lay A) {q0 : Nat} {n0 : Nat} {x1 : Int64} {x4 : Int32}  (h0 : lay[q0]? = some (.inl (3, n0, 1, []))) {z : sn_S × Int32} {t : sn_S} (h : sn_it (LJ7_fill_d0a16_6 q0 n0 x1 x4) 5000 z = some t) (kx : ∀ v, t = v → sn_At p l e rmJ7_fill_d0a16 s m args below meth c Q D ct ad lay A 5 v 22 [] []) : sn_At p l e rmJ7_fill_d0a16 s m args below meth c Q D ct ad lay A 5 z.1 6 [(0, .ref (ad q0)), (1, .long x1), (3, .int z.2), (4, .int x4)] [] :=
  sn_loop (f := LJ7_fill_d0a16_6 q0 n0 x1 x4) (G := fun z => sn_At p l e rmJ7_fill_d0a16 s m args below meth c Q D ct ad lay A 5 z.1 6 [(0, .ref (ad q0)), (1, .long x1), (3, .int z.2), (4, .int x4)] []) (E := fun t => (∀ v, t = v → sn_At p l e rmJ7_fill_d0a16 s m args below meth c Q D ct ad lay A 5 v 22 [] []) ∧ True) (fun z o hf k1 k2 => wJ7_fill_d0a16_6 C h0 hf (fun v e => k1 v e) (fun v e => (k2 _ e).1 v rfl)) 5000 z t h ⟨kx, trivial⟩
theorem wJ7_fill_d0a16_in (C : sn_C p s m args meth c RJ7 cJ7_fill_d0a16 5 none D ct ad lay A) {σ : sn_S} {q0 : Nat} {n0 : Nat} {x1 : Int64} (h0 : lay[q0]? = some (.inl (3, n0, 1, []))) {o : sn_S} (hf : fJ7_fill_d0a16 σ q0 n0 x1 = some o) (kr : sn_Kr p l e rmJ7_fill_d0a16 s m args below meth c Q D ct ad lay A cJ7_fill_d0a16 .return_ (true) o []) : sn_At p l e rmJ7_fill_d0a16 s m args below meth c Q D ct ad lay A 5 σ 0 [(0, .ref (ad q0)), (1, .long x1)] [] := by
  intro H locs ls hw hl
  have hx := C.1
  have hb := C.2.1
  unfold fJ7_fill_d0a16 at hf
  refine lv_iconst (v := 0) hx hb dJ7_fill_d0a16_0 rfl ?_
  refine lv_istore_n (lv' := [(3, .int (0 : Int32)), (0, .ref (ad q0)), (1, .long x1)]) hx hb dJ7_fill_d0a16_1 rfl hl (by decide) rfl (fun ls hl => ?_)
  refine lv_aload_n hx hb dJ7_fill_d0a16_2 rfl (lv_at hl 1 rfl) ?_
  refine sn_alen C hw h0 rfl rfl dJ7_fill_d0a16_3 ?_
  obtain ⟨y_1, e_2, hf⟩ := sn_ltE hf
  refine lv_topi (fun y_1_ e_2_ => ?_)
  obtain rfl : y_1 = y_1_ := e_2.trans e_2_.symm
  refine lv_istore (lv' := [(4, .int y_1), (3, .int (0 : Int32)), (0, .ref (ad q0)), (1, .long x1)]) hx hb dJ7_fill_d0a16_4 hl (by decide) rfl (fun ls hl => ?_)
  obtain ⟨t_3, h_4, hf⟩ := sn_bd hf
  exact wJ7_fill_d0a16_L6 C h0 h_4 (fun v e => by cases e; exact wJ7_fill_d0a16_22 C h0 hf kr) _ _ _ hw (lv_sub hl [2, 3, 1, 0] rfl)
theorem ctJ7_fill_d0a16 (l : Launch) {σ : sn_S} {q0 : Nat} {n0 : Nat} {x1 : Int64} (h0 : lay[q0]? = some (.inl (3, n0, 1, []))) {o : sn_S} (hf : fJ7_fill_d0a16 σ q0 n0 x1 = some o) : sn_M l yJ7_fill_d0a16 cJ7_fill_d0a16 5 none rmJ7_fill_d0a16 lay (fun ad => [.ref (ad q0), .long x1]) σ none o :=
  sn_met (by decide) (fun _ => Nat.le_of_ble_eq_true rfl) (fun p e s m args below meth c ls D ct ad A C hw hl => wJ7_fill_d0a16_in C h0 hf (fun H locs ls pc hw ok hd => sn_vret C hw hd) _ _ _ hw hl)
-- X1_goOn
abbrev rmX1_goOn : Room := { frames := 2, cells := 0, slots := 0, locals := 45 }
def BX1_goOn_93 (σ : sn_S) (q1 : Nat) (x6 : Int64) : Option (sn_S) :=
  (sn_lt (if x6 < (sn_L σ 52 1) then x6 else (sn_L σ 52 1)) fun y_1 => (sn_lt (sn_pL σ 52 1 y_1) fun σ_3 => (some σ_3)))
def BX1_goOn_87 (σ : sn_S) (q1 : Nat) (x2 : Int32) (x4 : Int32) (x5 : Int32) (x6 : Int64) (x8 : Int32) (x9 : Int32) : Option ((sn_S × Int64 × Int32 × Int32) ⊕ (sn_S × Int64)) :=
  (sn_lt (x9 + 1) fun y_1 => (some (.inl (σ, x6, x8, y_1))))
def BX1_goOn_74 (σ : sn_S) (q1 : Nat) (x2 : Int32) (x4 : Int32) (x5 : Int32) (x6 : Int64) (x8 : Int32) (x9 : Int32) : Option ((sn_S × Int64 × Int32 × Int32) ⊕ (sn_S × Int64)) :=
  (sn_lt (x6 + ((1073741824 : Int64) + ((1 : Int64) <<< (x9.toInt64 &&& 63)))) fun y_1 => (BX1_goOn_87 σ q1 x2 x4 x5 y_1 x8 x9))
def BX1_goOn_14 (σ : sn_S) (q1 : Nat) (x2 : Int32) (x4 : Int32) (x5 : Int32) (x6 : Int64) (x8 : Int32) (x9 : Int32) : Option ((sn_S × Int64 × Int32 × Int32) ⊕ (sn_S × Int64)) :=
  (if x5 < x9 then
  (some (.inr (σ, x6)))
  else
  ((fX0_comesTo σ q1 x2 x9).bind fun t_2 => (sn_lt (x8 + t_2) fun y_4 => (sn_gd (sn_in x2 6) (if y_4 < (sn_I σ (q1 + 3) x2.toNatClampNeg) then
  (BX1_goOn_87 σ q1 x2 x4 x5 x6 y_4 x9)
  else
  (if x4 ≤ x9 then
  (BX1_goOn_74 σ q1 x2 x4 x5 x6 y_4 x9)
  else
  (sn_gd (sn_in (x9 + (1 : Int32)) 31) (sn_lt (if x6 < (sn_L σ 53 (x9 + (1 : Int32)).toNatClampNeg) then x6 else (sn_L σ 53 (x9 + (1 : Int32)).toNatClampNeg)) fun y_10 => (sn_gd (sn_in (x9 + (1 : Int32)) 31) (sn_lt (sn_pL σ 53 (x9 + (1 : Int32)).toNatClampNeg y_10) fun σ_13 => (BX1_goOn_74 σ_13 q1 x2 x4 x5 x6 y_4 x9)))))))))))
def LX1_goOn_14 (q1 : Nat) (x2 : Int32) (x4 : Int32) (x5 : Int32) (s : sn_S × Int64 × Int32 × Int32) : Option ((sn_S × Int64 × Int32 × Int32) ⊕ (sn_S × Int64)) := BX1_goOn_14 s.1 q1 x2 x4 x5 s.2.1 s.2.2.1 s.2.2.2
def fX1_goOn (σ : sn_S) (q1 : Nat) (x2 : Int32) (x3 : Int32) (x4 : Int32) (x5 : Int32) : Option sn_S :=
  (sn_gd (sn_in x3 31) (sn_lt (sn_L σ 53 x3.toNatClampNeg) fun y_2 => ((sn_it (LX1_goOn_14 q1 x2 x4 x5) 5000 (σ, y_2, (0 : Int32), x3)).bind fun t_4 => (BX1_goOn_93 t_4.1 q1 t_4.2))))
theorem wX1_goOn_93 (C : sn_C p s m args meth c RX1 cX1_goOn 10 none D ct ad layC A) {σ : sn_S} {q1 : Nat} {x6 : Int64} (h1 : sn_isX0 q1) {o : sn_S} (hf : BX1_goOn_93 σ q1 x6 = some o) (kr : sn_Kr p l e rmX1_goOn s m args below meth c Q D ct ad layC A cX1_goOn .return_ (true) o []) : sn_At p l e rmX1_goOn s m args below meth c Q D ct ad layC A 10 σ 93 [(0, .ref (ad 52)), (6, .long x6)] [] := by
  intro H locs ls hw hl
  have hx := C.1
  have hb := C.2.1
  unfold BX1_goOn_93 at hf
  refine lv_aload_n hx hb dX1_goOn_93 rfl (lv_at hl 0 rfl) ?_
  refine lv_aload_n hx hb dX1_goOn_94 rfl (lv_at hl 0 rfl) ?_
  refine sn_getL C hw fd_RX1_32 layC_52 rfl dX1_goOn_95 ?_
  refine lv_lload hx hb dX1_goOn_98 (lv_at hl 1 rfl) ?_
  refine va_mmin_long hx hb (C.2.2.1.trans hl.1.symm) C.2.2.2.1 (C.2.2.2.2.1 _ km_RX1_55) (C.2.2.2.2.1 _ kst_minL) (C.2.2.2.2.1 _ ki_Math) (C.2.2.2.2.1 _ kc_minL) (Nat.le_of_ble_eq_true rfl) (Nat.le_of_ble_eq_true rfl) (Nat.zero_le _) (Nat.zero_le _) dX1_goOn_100 ?_
  obtain ⟨y_1, e_2, hf⟩ := sn_ltE hf
  refine lv_topl (fun y_1_ e_2_ => ?_)
  obtain rfl : y_1 = y_1_ := e_2.trans e_2_.symm
  refine sn_putL C hw fp_RX1_32 layC_52 rfl dX1_goOn_103 (fun H locs hw => ?_)
  obtain ⟨σ_3, e_4, hf⟩ := sn_ltE hf
  rw [← e_4] at hw
  cases hf
  exact kr _ _ _ _ hw rfl dX1_goOn_106
theorem wX1_goOn_87 (C : sn_C p s m args meth c RX1 cX1_goOn 10 none D ct ad layC A) {σ : sn_S} {q1 : Nat} {x2 : Int32} {x4 : Int32} {x5 : Int32} {x6 : Int64} {x8 : Int32} {x9 : Int32} (h1 : sn_isX0 q1) {o : (sn_S × Int64 × Int32 × Int32) ⊕ (sn_S × Int64)} (hf : BX1_goOn_87 σ q1 x2 x4 x5 x6 x8 x9 = some o) (kc : ∀ v, o = .inl v → sn_At p l e rmX1_goOn s m args below meth c Q D ct ad layC A 10 v.1 14 [(0, .ref (ad 52)), (1, .ref (ad q1)), (2, .int x2), (4, .int x4), (5, .int x5), (6, .long v.2.1), (8, .int v.2.2.1), (9, .int v.2.2.2)] []) (kx : ∀ v, o = .inr v → sn_At p l e rmX1_goOn s m args below meth c Q D ct ad layC A 10 v.1 93 [(0, .ref (ad 52)), (6, .long v.2)] []) : sn_At p l e rmX1_goOn s m args below meth c Q D ct ad layC A 10 σ 87 [(0, .ref (ad 52)), (1, .ref (ad q1)), (2, .int x2), (4, .int x4), (5, .int x5), (6, .long x6), (8, .int x8), (9, .int x9)] [] := by
  intro H locs ls hw hl
  have hx := C.1
  have hb := C.2.1
  unfold BX1_goOn_87 at hf
  obtain ⟨y_1, e_2, hf⟩ := sn_ltE hf
  refine lv_iinc (v := y_1) (lv' := [(9, .int y_1), (0, .ref (ad 52)), (1, .ref (ad q1)), (2, .int x2), (4, .int x4), (5, .int x5), (6, .long x6), (8, .int x8)]) hx hb dX1_goOn_87 hl (k := 7) rfl (by rw [e_2]; rfl) (by decide) rfl (fun ls hl => ?_)
  refine lv_goto (tgt := 14) hx hb dX1_goOn_90 (by decide) ?_
  cases hf
  exact kc _ rfl _ _ _ hw (lv_sub hl [1, 2, 3, 4, 5, 6, 7, 0] rfl)
theorem wX1_goOn_74 (C : sn_C p s m args meth c RX1 cX1_goOn 10 none D ct ad layC A) {σ : sn_S} {q1 : Nat} {x2 : Int32} {x4 : Int32} {x5 : Int32} {x6 : Int64} {x8 : Int32} {x9 : Int32} (h1 : sn_isX0 q1) {o : (sn_S × Int64 × Int32 × Int32) ⊕ (sn_S × Int64)} (hf : BX1_goOn_74 σ q1 x2 x4 x5 x6 x8 x9 = some o) (kc : ∀ v, o = .inl v → sn_At p l e rmX1_goOn s m args below meth c Q D ct ad layC A 10 v.1 14 [(0, .ref (ad 52)), (1, .ref (ad q1)), (2, .int x2), (4, .int x4), (5, .int x5), (6, .long v.2.1), (8, .int v.2.2.1), (9, .int v.2.2.2)] []) (kx : ∀ v, o = .inr v → sn_At p l e rmX1_goOn s m args below meth c Q D ct ad layC A 10 v.1 93 [(0, .ref (ad 52)), (6, .long v.2)] []) : sn_At p l e rmX1_goOn s m args below meth c Q D ct ad layC A 10 σ 74 [(0, .ref (ad 52)), (1, .ref (ad q1)), (2, .int x2), (4, .int x4), (5, .int x5), (6, .long x6), (8, .int x8), (9, .int x9)] [] := by
  intro H locs ls hw hl
  have hx := C.1
  have hb := C.2.1
  unfold BX1_goOn_74 at hf
  refine lv_lload hx hb dX1_goOn_74 (lv_at hl 5 rfl) ?_
  refine lv_ldc2 hx hb C.2.2.2.1 (C.2.2.2.2.1 _ kk_RX1_58) dX1_goOn_76 ?_
  refine lv_lconst (v := 1) hx hb dX1_goOn_79 rfl ?_
  refine lv_iload hx hb dX1_goOn_80 (lv_at hl 7 rfl) ?_
  refine lv_lshl hx hb dX1_goOn_82 rfl ?_
  refine lv_ladd hx hb dX1_goOn_83 ?_
  refine lv_ladd hx hb dX1_goOn_84 ?_
  obtain ⟨y_1, e_2, hf⟩ := sn_ltE hf
  refine lv_topl (fun y_1_ e_2_ => ?_)
  obtain rfl : y_1 = y_1_ := e_2.trans e_2_.symm
  refine lv_lstore (lv' := [(6, .long y_1), (0, .ref (ad 52)), (1, .ref (ad q1)), (2, .int x2), (4, .int x4), (5, .int x5), (8, .int x8), (9, .int x9)]) hx hb dX1_goOn_85 hl (by decide) rfl (fun ls hl => ?_)
  exact wX1_goOn_87 C h1 hf kc kx _ _ _ hw (lv_sub hl [1, 2, 3, 4, 5, 0, 6, 7] rfl)
theorem wX1_goOn_14 (C : sn_C p s m args meth c RX1 cX1_goOn 10 none D ct ad layC A) {σ : sn_S} {q1 : Nat} {x2 : Int32} {x4 : Int32} {x5 : Int32} {x6 : Int64} {x8 : Int32} {x9 : Int32} (h1 : sn_isX0 q1) {o : (sn_S × Int64 × Int32 × Int32) ⊕ (sn_S × Int64)} (hf : BX1_goOn_14 σ q1 x2 x4 x5 x6 x8 x9 = some o) (kc : ∀ v, o = .inl v → sn_At p l e rmX1_goOn s m args below meth c Q D ct ad layC A 10 v.1 14 [(0, .ref (ad 52)), (1, .ref (ad q1)), (2, .int x2), (4, .int x4), (5, .int x5), (6, .long v.2.1), (8, .int v.2.2.1), (9, .int v.2.2.2)] []) (kx : ∀ v, o = .inr v → sn_At p l e rmX1_goOn s m args below meth c Q D ct ad layC A 10 v.1 93 [(0, .ref (ad 52)), (6, .long v.2)] []) : sn_At p l e rmX1_goOn s m args below meth c Q D ct ad layC A 10 σ 14 [(0, .ref (ad 52)), (1, .ref (ad q1)), (2, .int x2), (4, .int x4), (5, .int x5), (6, .long x6), (8, .int x8), (9, .int x9)] [] := by
  intro H locs ls hw hl
  have hx := C.1
  have hb := C.2.1
  unfold BX1_goOn_14 at hf
  refine lv_iload hx hb dX1_goOn_14 (lv_at hl 7 rfl) ?_
  refine lv_iload hx hb dX1_goOn_16 (lv_at hl 4 rfl) ?_
  refine lv_icmp_gt (tgt := 93) hx hb dX1_goOn_18 (by decide) (fun c_1 => ?_) (fun c_1 => ?_)
  · have hf := sn_if c_1 hf
    cases hf
    exact kx _ rfl _ _ _ hw (lv_sub hl [0, 5] rfl)
  · have hf := sn_el c_1 hf
    refine lv_iload hx hb dX1_goOn_21 (lv_at hl 6 rfl) ?_
    refine lv_aload_n hx hb dX1_goOn_23 rfl (lv_at hl 1 rfl) ?_
    refine lv_iload_n hx hb dX1_goOn_24 rfl (lv_at hl 2 rfl) ?_
    refine lv_iload hx hb dX1_goOn_25 (lv_at hl 7 rfl) ?_
    obtain ⟨t_2, h_3, hf⟩ := sn_bd hf
    refine sn_callVi (rest := [.int x8]) C hw (ctX0_comesTo l h1 h_3) kl_RX1_48 (sn_look h1 (k := 0) rfl) rfl rfl rfl rfl (Nat.le_of_ble_eq_true rfl) dX1_goOn_27 hl.1 (fun H locs hw => ?_)
    refine lv_iadd hx hb dX1_goOn_30 ?_
    obtain ⟨y_4, e_5, hf⟩ := sn_ltE hf
    refine lv_topi (fun y_4_ e_5_ => ?_)
    obtain rfl : y_4 = y_4_ := e_5.trans e_5_.symm
    refine lv_istore (lv' := [(8, .int y_4), (0, .ref (ad 52)), (1, .ref (ad q1)), (2, .int x2), (4, .int x4), (5, .int x5), (6, .long x6), (9, .int x9)]) hx hb dX1_goOn_31 hl (by decide) rfl (fun ls hl => ?_)
    refine lv_iload hx hb dX1_goOn_33 (lv_at hl 0 rfl) ?_
    refine lv_aload_n hx hb dX1_goOn_35 rfl (lv_at hl 2 rfl) ?_
    refine sn_getC (r := (q1 + 3)) C hw fd_RX1_51 (sn_look h1 (k := 0) rfl) rfl dX1_goOn_36 ?_
    refine lv_iload_n hx hb dX1_goOn_39 rfl (lv_at hl 3 rfl) ?_
    obtain ⟨g_6, hf⟩ := sn_gdE hf
    refine sn_iald C hw (sn_look h1 (k := 3) rfl) g_6 dX1_goOn_40 ?_
    refine lv_icmp_lt (tgt := 87) hx hb dX1_goOn_41 (by decide) (fun c_7 => ?_) (fun c_7 => ?_)
    · have hf := sn_if c_7 hf
      exact wX1_goOn_87 C h1 hf kc kx _ _ _ hw (lv_sub hl [1, 2, 3, 4, 5, 6, 0, 7] rfl)
    · have hf := sn_el c_7 hf
      refine lv_iload hx hb dX1_goOn_44 (lv_at hl 7 rfl) ?_
      refine lv_iload hx hb dX1_goOn_46 (lv_at hl 4 rfl) ?_
      refine lv_icmp_ge (tgt := 74) hx hb dX1_goOn_48 (by decide) (fun c_8 => ?_) (fun c_8 => ?_)
      · have hf := sn_if c_8 hf
        exact wX1_goOn_74 C h1 hf kc kx _ _ _ hw (lv_sub hl [1, 2, 3, 4, 5, 6, 0, 7] rfl)
      · have hf := sn_el c_8 hf
        refine lv_aload_n hx hb dX1_goOn_51 rfl (lv_at hl 1 rfl) ?_
        refine sn_getC (r := 53) C hw fd_RX1_9 layC_52 rfl dX1_goOn_52 ?_
        refine lv_iload hx hb dX1_goOn_55 (lv_at hl 7 rfl) ?_
        refine lv_iconst (v := 1) hx hb dX1_goOn_57 rfl ?_
        refine lv_iadd hx hb dX1_goOn_58 ?_
        refine lv_aload_n hx hb dX1_goOn_59 rfl (lv_at hl 1 rfl) ?_
        refine sn_getC (r := 53) C hw fd_RX1_9 layC_52 rfl dX1_goOn_60 ?_
        refine lv_iload hx hb dX1_goOn_63 (lv_at hl 7 rfl) ?_
        refine lv_iconst (v := 1) hx hb dX1_goOn_65 rfl ?_
        refine lv_iadd hx hb dX1_goOn_66 ?_
        obtain ⟨g_9, hf⟩ := sn_gdE hf
        refine sn_lald C hw layC_53 g_9 dX1_goOn_67 ?_
        refine lv_lload hx hb dX1_goOn_68 (lv_at hl 6 rfl) ?_
        refine va_mmin_long hx hb (C.2.2.1.trans hl.1.symm) C.2.2.2.1 (C.2.2.2.2.1 _ km_RX1_55) (C.2.2.2.2.1 _ kst_minL) (C.2.2.2.2.1 _ ki_Math) (C.2.2.2.2.1 _ kc_minL) (Nat.le_of_ble_eq_true rfl) (Nat.le_of_ble_eq_true rfl) (Nat.zero_le _) (Nat.zero_le _) dX1_goOn_70 ?_
        obtain ⟨y_10, e_11, hf⟩ := sn_ltE hf
        refine lv_topl (fun y_10_ e_11_ => ?_)
        obtain rfl : y_10 = y_10_ := e_11.trans e_11_.symm
        obtain ⟨g_12, hf⟩ := sn_gdE hf
        refine sn_last C hw layC_53 g_12 dX1_goOn_73 (fun H locs hw => ?_)
        obtain ⟨σ_13, e_14, hf⟩ := sn_ltE hf
        rw [← e_14] at hw
        exact wX1_goOn_74 C h1 hf kc kx _ _ _ hw (lv_sub hl [1, 2, 3, 4, 5, 6, 0, 7] rfl)
theorem wX1_goOn_L14 (C : sn_C p s m args meth c RX1 cX1_goOn 10 none D ct ad layC A) {q1 : Nat} {x2 : Int32} {x4 : Int32} {x5 : Int32}  (h1 : sn_isX0 q1) {z : sn_S × Int64 × Int32 × Int32} {t : sn_S × Int64} (h : sn_it (LX1_goOn_14 q1 x2 x4 x5) 5000 z = some t) (kx : ∀ v, t = v → sn_At p l e rmX1_goOn s m args below meth c Q D ct ad layC A 10 v.1 93 [(0, .ref (ad 52)), (6, .long v.2)] []) : sn_At p l e rmX1_goOn s m args below meth c Q D ct ad layC A 10 z.1 14 [(0, .ref (ad 52)), (1, .ref (ad q1)), (2, .int x2), (4, .int x4), (5, .int x5), (6, .long z.2.1), (8, .int z.2.2.1), (9, .int z.2.2.2)] [] :=
  sn_loop (f := LX1_goOn_14 q1 x2 x4 x5) (G := fun z => sn_At p l e rmX1_goOn s m args below meth c Q D ct ad layC A 10 z.1 14 [(0, .ref (ad 52)), (1, .ref (ad q1)), (2, .int x2), (4, .int x4), (5, .int x5), (6, .long z.2.1), (8, .int z.2.2.1), (9, .int z.2.2.2)] []) (E := fun t => (∀ v, t = v → sn_At p l e rmX1_goOn s m args below meth c Q D ct ad layC A 10 v.1 93 [(0, .ref (ad 52)), (6, .long v.2)] []) ∧ True) (fun z o hf k1 k2 => wX1_goOn_14 C h1 hf (fun v e => k1 v e) (fun v e => (k2 _ e).1 v rfl)) 5000 z t h ⟨kx, trivial⟩
theorem wX1_goOn_in (C : sn_C p s m args meth c RX1 cX1_goOn 10 none D ct ad layC A) {σ : sn_S} {q1 : Nat} {x2 : Int32} {x3 : Int32} {x4 : Int32} {x5 : Int32} (h1 : sn_isX0 q1) {o : sn_S} (hf : fX1_goOn σ q1 x2 x3 x4 x5 = some o) (kr : sn_Kr p l e rmX1_goOn s m args below meth c Q D ct ad layC A cX1_goOn .return_ (true) o []) : sn_At p l e rmX1_goOn s m args below meth c Q D ct ad layC A 10 σ 0 [(0, .ref (ad 52)), (1, .ref (ad q1)), (2, .int x2), (3, .int x3), (4, .int x4), (5, .int x5)] [] := by
  intro H locs ls hw hl
  have hx := C.1
  have hb := C.2.1
  unfold fX1_goOn at hf
  refine lv_aload_n hx hb dX1_goOn_0 rfl (lv_at hl 0 rfl) ?_
  refine sn_getC (r := 53) C hw fd_RX1_9 layC_52 rfl dX1_goOn_1 ?_
  refine lv_iload_n hx hb dX1_goOn_4 rfl (lv_at hl 3 rfl) ?_
  obtain ⟨g_1, hf⟩ := sn_gdE hf
  refine sn_lald C hw layC_53 g_1 dX1_goOn_5 ?_
  obtain ⟨y_2, e_3, hf⟩ := sn_ltE hf
  refine lv_topl (fun y_2_ e_3_ => ?_)
  obtain rfl : y_2 = y_2_ := e_3.trans e_3_.symm
  refine lv_lstore (lv' := [(6, .long y_2), (0, .ref (ad 52)), (1, .ref (ad q1)), (2, .int x2), (3, .int x3), (4, .int x4), (5, .int x5)]) hx hb dX1_goOn_6 hl (by decide) rfl (fun ls hl => ?_)
  refine lv_iconst (v := 0) hx hb dX1_goOn_8 rfl ?_
  refine lv_istore (lv' := [(8, .int (0 : Int32)), (6, .long y_2), (0, .ref (ad 52)), (1, .ref (ad q1)), (2, .int x2), (3, .int x3), (4, .int x4), (5, .int x5)]) hx hb dX1_goOn_9 hl (by decide) rfl (fun ls hl => ?_)
  refine lv_iload_n hx hb dX1_goOn_11 rfl (lv_at hl 5 rfl) ?_
  refine lv_istore (lv' := [(9, .int x3), (8, .int (0 : Int32)), (6, .long y_2), (0, .ref (ad 52)), (1, .ref (ad q1)), (2, .int x2), (3, .int x3), (4, .int x4), (5, .int x5)]) hx hb dX1_goOn_12 hl (by decide) rfl (fun ls hl => ?_)
  obtain ⟨t_4, h_5, hf⟩ := sn_bd hf
  exact wX1_goOn_L14 C h1 h_5 (fun v e => by cases e; exact wX1_goOn_93 C h1 hf kr) _ _ _ hw (lv_sub hl [3, 4, 5, 7, 8, 2, 1, 0] rfl)
theorem ctX1_goOn (l : Launch) {σ : sn_S} {q1 : Nat} {x2 : Int32} {x3 : Int32} {x4 : Int32} {x5 : Int32} (h1 : sn_isX0 q1) {o : sn_S} (hf : fX1_goOn σ q1 x2 x3 x4 x5 = some o) : sn_M l yX1_goOn cX1_goOn 10 none rmX1_goOn layC (fun ad => [.ref (ad 52), .ref (ad q1), .int x2, .int x3, .int x4, .int x5]) σ none o :=
  sn_met (by decide) (fun _ => Nat.le_of_ble_eq_true rfl) (fun p e s m args below meth c ls D ct ad A C hw hl => wX1_goOn_in C h1 hf (fun H locs ls pc hw ok hd => sn_vret C hw hd) _ _ _ hw hl)
-- X1_reckon
abbrev rmX1_reckon : Room := { frames := 3, cells := 0, slots := 0, locals := 74 }
def BX1_reckon_109 (σ : sn_S) (q1 : Nat) (q2 : Nat) : Option (sn_S) :=
  (some σ)
def BX1_reckon_103 (σ : sn_S) (q1 : Nat) (q2 : Nat) (x3 : Int32) (x4 : Int32) (x5 : Int32) (x6 : Int32) : Option ((sn_S × Int32) ⊕ (sn_S)) :=
  (sn_lt (x6 + 1) fun y_1 => (some (.inl (σ, y_1))))
def BX1_reckon_65 (σ : sn_S) (q1 : Nat) (q2 : Nat) (x3 : Int32) (x4 : Int32) (x5 : Int32) (x6 : Int32) : Option ((sn_S × Int32) ⊕ (sn_S)) :=
  (if x4 < x6 then
  (some (.inr (σ)))
  else
  (sn_gd (sn_in x6 31) (if (lg_cmp (sn_L σ 53 x6.toNatClampNeg) (4611686018427387904 : Int64)) = 0 then
  (BX1_reckon_103 σ q1 q2 x3 x4 x5 x6)
  else
  ((fX2_ofPolicy σ q1 x3 (0 : Int32)).bind fun t_4 => ((fX1_goOn σ q2 t_4 x6 x4 x5).bind fun t_6 => (BX1_reckon_103 t_6 q1 q2 x3 x4 x5 x6))))))
def LX1_reckon_65 (q1 : Nat) (q2 : Nat) (x3 : Int32) (x4 : Int32) (x5 : Int32) (s : sn_S × Int32) : Option ((sn_S × Int32) ⊕ (sn_S)) := BX1_reckon_65 s.1 q1 q2 x3 x4 x5 s.2
def fX1_reckon (σ : sn_S) (q1 : Nat) (q2 : Nat) (x3 : Int32) : Option sn_S :=
  ((fX2_ofPolicy σ q1 x3 (1 : Int32)).bind fun t_1 => ((fX2_ofPolicy σ q1 x3 (2 : Int32)).bind fun t_3 => (sn_lt (if ((sn_I σ q2 0) - (1 : Int32)) < t_3 then ((sn_I σ q2 0) - (1 : Int32)) else t_3) fun y_5 => (sn_lt (sn_pL σ 52 1 (0 : Int64)) fun σ_7 => (if t_1 ≤ y_5 then
  (sn_lt (sn_pL σ_7 52 1 (4611686018427387904 : Int64)) fun σ_10 => ((fJ7_fill_d0a16 σ_10 53 31 (4611686018427387904 : Int64)).bind fun t_12 => (sn_gd (sn_in (0 : Int32) 31) (sn_lt (sn_pL t_12 53 (0 : Int32).toNatClampNeg (0 : Int64)) fun σ_15 => ((sn_it (LX1_reckon_65 q1 q2 x3 t_1 y_5) 5000 (σ_15, (0 : Int32))).bind fun t_17 => (BX1_reckon_109 t_17 q1 q2))))))
  else
  (some σ_7))))))
theorem wX1_reckon_109 (C : sn_C p s m args meth c RX1 cX1_reckon 7 none D ct ad layC A) {σ : sn_S} {q1 : Nat} {q2 : Nat} (h1 : sn_isX2 q1) (h2 : sn_isX0 q2) {o : sn_S} (hf : BX1_reckon_109 σ q1 q2 = some o) (kr : sn_Kr p l e rmX1_reckon s m args below meth c Q D ct ad layC A cX1_reckon .return_ (true) o []) : sn_At p l e rmX1_reckon s m args below meth c Q D ct ad layC A 7 σ 109 [] [] := by
  intro H locs ls hw hl
  have hx := C.1
  have hb := C.2.1
  unfold BX1_reckon_109 at hf
  cases hf
  exact kr _ _ _ _ hw rfl dX1_reckon_109
theorem wX1_reckon_103 (C : sn_C p s m args meth c RX1 cX1_reckon 7 none D ct ad layC A) {σ : sn_S} {q1 : Nat} {q2 : Nat} {x3 : Int32} {x4 : Int32} {x5 : Int32} {x6 : Int32} (h1 : sn_isX2 q1) (h2 : sn_isX0 q2) {o : (sn_S × Int32) ⊕ (sn_S)} (hf : BX1_reckon_103 σ q1 q2 x3 x4 x5 x6 = some o) (kc : ∀ v, o = .inl v → sn_At p l e rmX1_reckon s m args below meth c Q D ct ad layC A 7 v.1 65 [(0, .ref (ad 52)), (1, .ref (ad q1)), (2, .ref (ad q2)), (3, .int x3), (4, .int x4), (5, .int x5), (6, .int v.2)] []) (kx : ∀ v, o = .inr v → sn_At p l e rmX1_reckon s m args below meth c Q D ct ad layC A 7 v 109 [] []) : sn_At p l e rmX1_reckon s m args below meth c Q D ct ad layC A 7 σ 103 [(0, .ref (ad 52)), (1, .ref (ad q1)), (2, .ref (ad q2)), (3, .int x3), (4, .int x4), (5, .int x5), (6, .int x6)] [] := by
  intro H locs ls hw hl
  have hx := C.1
  have hb := C.2.1
  unfold BX1_reckon_103 at hf
  obtain ⟨y_1, e_2, hf⟩ := sn_ltE hf
  refine lv_iinc (v := y_1) (lv' := [(6, .int y_1), (0, .ref (ad 52)), (1, .ref (ad q1)), (2, .ref (ad q2)), (3, .int x3), (4, .int x4), (5, .int x5)]) hx hb dX1_reckon_103 hl (k := 6) rfl (by rw [e_2]; rfl) (by decide) rfl (fun ls hl => ?_)
  refine lv_goto (tgt := 65) hx hb dX1_reckon_106 (by decide) ?_
  cases hf
  exact kc _ rfl _ _ _ hw (lv_sub hl [1, 2, 3, 4, 5, 6, 0] rfl)
theorem wX1_reckon_65 (C : sn_C p s m args meth c RX1 cX1_reckon 7 none D ct ad layC A) {σ : sn_S} {q1 : Nat} {q2 : Nat} {x3 : Int32} {x4 : Int32} {x5 : Int32} {x6 : Int32} (h1 : sn_isX2 q1) (h2 : sn_isX0 q2) {o : (sn_S × Int32) ⊕ (sn_S)} (hf : BX1_reckon_65 σ q1 q2 x3 x4 x5 x6 = some o) (kc : ∀ v, o = .inl v → sn_At p l e rmX1_reckon s m args below meth c Q D ct ad layC A 7 v.1 65 [(0, .ref (ad 52)), (1, .ref (ad q1)), (2, .ref (ad q2)), (3, .int x3), (4, .int x4), (5, .int x5), (6, .int v.2)] []) (kx : ∀ v, o = .inr v → sn_At p l e rmX1_reckon s m args below meth c Q D ct ad layC A 7 v 109 [] []) : sn_At p l e rmX1_reckon s m args below meth c Q D ct ad layC A 7 σ 65 [(0, .ref (ad 52)), (1, .ref (ad q1)), (2, .ref (ad q2)), (3, .int x3), (4, .int x4), (5, .int x5), (6, .int x6)] [] := by
  intro H locs ls hw hl
  have hx := C.1
  have hb := C.2.1
  unfold BX1_reckon_65 at hf
  refine lv_iload hx hb dX1_reckon_65 (lv_at hl 6 rfl) ?_
  refine lv_iload hx hb dX1_reckon_67 (lv_at hl 4 rfl) ?_
  refine lv_icmp_gt (tgt := 109) hx hb dX1_reckon_69 (by decide) (fun c_1 => ?_) (fun c_1 => ?_)
  · have hf := sn_if c_1 hf
    cases hf
    exact kx _ rfl _ _ _ hw (lv_sub hl [] rfl)
  · have hf := sn_el c_1 hf
    refine lv_aload_n hx hb dX1_reckon_72 rfl (lv_at hl 0 rfl) ?_
    refine sn_getC (r := 53) C hw fd_RX1_9 layC_52 rfl dX1_reckon_73 ?_
    refine lv_iload hx hb dX1_reckon_76 (lv_at hl 6 rfl) ?_
    obtain ⟨g_2, hf⟩ := sn_gdE hf
    refine sn_lald C hw layC_53 g_2 dX1_reckon_78 ?_
    refine lv_ldc2 hx hb C.2.2.2.1 (C.2.2.2.2.1 _ kk_RX1_36) dX1_reckon_79 ?_
    refine W.lcmp hx hb dX1_reckon_82 ?_
    refine lv_if_eq (tgt := 103) hx hb dX1_reckon_83 (by decide) (fun c_3 => ?_) (fun c_3 => ?_)
    · have hf := sn_if c_3 hf
      exact wX1_reckon_103 C h1 h2 hf kc kx _ _ _ hw (lv_sub hl [0, 1, 2, 3, 4, 5, 6] rfl)
    · have hf := sn_el c_3 hf
      refine lv_aload_n hx hb dX1_reckon_86 rfl (lv_at hl 0 rfl) ?_
      refine lv_aload_n hx hb dX1_reckon_87 rfl (lv_at hl 2 rfl) ?_
      refine lv_aload_n hx hb dX1_reckon_88 rfl (lv_at hl 1 rfl) ?_
      refine lv_iload_n hx hb dX1_reckon_89 rfl (lv_at hl 3 rfl) ?_
      refine lv_iconst (v := 0) hx hb dX1_reckon_90 rfl ?_
      obtain ⟨t_4, h_5, hf⟩ := sn_bd hf
      refine sn_callVi (rest := [.ref (ad q2), .ref (ad 52)]) C hw (ctX2_ofPolicy l h1 h_5) kl_RX1_15 (sn_look h1 (k := 0) rfl) rfl rfl rfl rfl (Nat.le_of_ble_eq_true rfl) dX1_reckon_91 hl.1 (fun H locs hw => ?_)
      refine lv_iload hx hb dX1_reckon_94 (lv_at hl 6 rfl) ?_
      refine lv_iload hx hb dX1_reckon_96 (lv_at hl 4 rfl) ?_
      refine lv_iload hx hb dX1_reckon_98 (lv_at hl 5 rfl) ?_
      obtain ⟨t_6, h_7, hf⟩ := sn_bd hf
      refine sn_callVv (rest := []) C hw (ctX1_goOn l h2 h_7) kl_RX1_44 layC_52 rfl rfl rfl rfl (Nat.le_of_ble_eq_true rfl) dX1_reckon_100 hl.1 (fun H locs hw => ?_)
      exact wX1_reckon_103 C h1 h2 hf kc kx _ _ _ hw (lv_sub hl [0, 1, 2, 3, 4, 5, 6] rfl)
theorem wX1_reckon_L65 (C : sn_C p s m args meth c RX1 cX1_reckon 7 none D ct ad layC A) {q1 : Nat} {q2 : Nat} {x3 : Int32} {x4 : Int32} {x5 : Int32}  (h1 : sn_isX2 q1) (h2 : sn_isX0 q2) {z : sn_S × Int32} {t : sn_S} (h : sn_it (LX1_reckon_65 q1 q2 x3 x4 x5) 5000 z = some t) (kx : ∀ v, t = v → sn_At p l e rmX1_reckon s m args below meth c Q D ct ad layC A 7 v 109 [] []) : sn_At p l e rmX1_reckon s m args below meth c Q D ct ad layC A 7 z.1 65 [(0, .ref (ad 52)), (1, .ref (ad q1)), (2, .ref (ad q2)), (3, .int x3), (4, .int x4), (5, .int x5), (6, .int z.2)] [] :=
  sn_loop (f := LX1_reckon_65 q1 q2 x3 x4 x5) (G := fun z => sn_At p l e rmX1_reckon s m args below meth c Q D ct ad layC A 7 z.1 65 [(0, .ref (ad 52)), (1, .ref (ad q1)), (2, .ref (ad q2)), (3, .int x3), (4, .int x4), (5, .int x5), (6, .int z.2)] []) (E := fun t => (∀ v, t = v → sn_At p l e rmX1_reckon s m args below meth c Q D ct ad layC A 7 v 109 [] []) ∧ True) (fun z o hf k1 k2 => wX1_reckon_65 C h1 h2 hf (fun v e => k1 v e) (fun v e => (k2 _ e).1 v rfl)) 5000 z t h ⟨kx, trivial⟩
theorem wX1_reckon_in (C : sn_C p s m args meth c RX1 cX1_reckon 7 none D ct ad layC A) {σ : sn_S} {q1 : Nat} {q2 : Nat} {x3 : Int32} (h1 : sn_isX2 q1) (h2 : sn_isX0 q2) {o : sn_S} (hf : fX1_reckon σ q1 q2 x3 = some o) (kr : sn_Kr p l e rmX1_reckon s m args below meth c Q D ct ad layC A cX1_reckon .return_ (true) o []) : sn_At p l e rmX1_reckon s m args below meth c Q D ct ad layC A 7 σ 0 [(0, .ref (ad 52)), (1, .ref (ad q1)), (2, .ref (ad q2)), (3, .int x3)] [] := by
  intro H locs ls hw hl
  have hx := C.1
  have hb := C.2.1
  unfold fX1_reckon at hf
  refine lv_aload_n hx hb dX1_reckon_0 rfl (lv_at hl 1 rfl) ?_
  refine lv_iload_n hx hb dX1_reckon_1 rfl (lv_at hl 3 rfl) ?_
  refine lv_iconst (v := 1) hx hb dX1_reckon_2 rfl ?_
  obtain ⟨t_1, h_2, hf⟩ := sn_bd hf
  refine sn_callVi (rest := []) C hw (ctX2_ofPolicy l h1 h_2) kl_RX1_15 (sn_look h1 (k := 0) rfl) rfl rfl rfl rfl (Nat.le_of_ble_eq_true rfl) dX1_reckon_3 hl.1 (fun H locs hw => ?_)
  refine lv_istore (lv' := [(4, .int t_1), (0, .ref (ad 52)), (1, .ref (ad q1)), (2, .ref (ad q2)), (3, .int x3)]) hx hb dX1_reckon_6 hl (by decide) rfl (fun ls hl => ?_)
  refine lv_aload_n hx hb dX1_reckon_8 rfl (lv_at hl 2 rfl) ?_
  refine lv_iload_n hx hb dX1_reckon_9 rfl (lv_at hl 4 rfl) ?_
  refine lv_iconst (v := 2) hx hb dX1_reckon_10 rfl ?_
  obtain ⟨t_3, h_4, hf⟩ := sn_bd hf
  refine sn_callVi (rest := []) C hw (ctX2_ofPolicy l h1 h_4) kl_RX1_15 (sn_look h1 (k := 0) rfl) rfl rfl rfl rfl (Nat.le_of_ble_eq_true rfl) dX1_reckon_11 hl.1 (fun H locs hw => ?_)
  refine lv_aload_n hx hb dX1_reckon_14 rfl (lv_at hl 3 rfl) ?_
  refine sn_getI C hw fd_RX1_21 (sn_look h2 (k := 0) rfl) rfl dX1_reckon_15 ?_
  refine lv_iconst (v := 1) hx hb dX1_reckon_18 rfl ?_
  refine lv_isub hx hb dX1_reckon_19 ?_
  refine va_mmin hx hb (C.2.2.1.trans hl.1.symm) C.2.2.2.1 (C.2.2.2.2.1 _ km_RX1_27) (C.2.2.2.2.1 _ kst_minI) (C.2.2.2.2.1 _ ki_Math) (C.2.2.2.2.1 _ kc_minI) (Nat.le_of_ble_eq_true rfl) (Nat.le_of_ble_eq_true rfl) (Nat.zero_le _) (Nat.zero_le _) dX1_reckon_20 ?_
  obtain ⟨y_5, e_6, hf⟩ := sn_ltE hf
  refine lv_topi (fun y_5_ e_6_ => ?_)
  obtain rfl : y_5 = y_5_ := e_6.trans e_6_.symm
  refine lv_istore (lv' := [(5, .int y_5), (4, .int t_1), (0, .ref (ad 52)), (1, .ref (ad q1)), (2, .ref (ad q2)), (3, .int x3)]) hx hb dX1_reckon_23 hl (by decide) rfl (fun ls hl => ?_)
  refine lv_aload_n hx hb dX1_reckon_25 rfl (lv_at hl 2 rfl) ?_
  refine lv_lconst (v := 0) hx hb dX1_reckon_26 rfl ?_
  refine sn_putL C hw fp_RX1_32 layC_52 rfl dX1_reckon_27 (fun H locs hw => ?_)
  obtain ⟨σ_7, e_8, hf⟩ := sn_ltE hf
  rw [← e_8] at hw
  refine lv_iload hx hb dX1_reckon_30 (lv_at hl 1 rfl) ?_
  refine lv_iload hx hb dX1_reckon_32 (lv_at hl 0 rfl) ?_
  refine lv_icmp_le (tgt := 38) hx hb dX1_reckon_34 (by decide) (fun c_9 => ?_) (fun c_9 => ?_)
  · have hf := sn_if c_9 hf
    refine lv_aload_n hx hb dX1_reckon_38 rfl (lv_at hl 2 rfl) ?_
    refine lv_ldc2 hx hb C.2.2.2.1 (C.2.2.2.2.1 _ kk_RX1_36) dX1_reckon_39 ?_
    refine sn_putL C hw fp_RX1_32 layC_52 rfl dX1_reckon_42 (fun H locs hw => ?_)
    obtain ⟨σ_10, e_11, hf⟩ := sn_ltE hf
    rw [← e_11] at hw
    refine lv_aload_n hx hb dX1_reckon_45 rfl (lv_at hl 2 rfl) ?_
    refine sn_getC (r := 53) C hw fd_RX1_9 layC_52 rfl dX1_reckon_46 ?_
    refine lv_ldc2 hx hb C.2.2.2.1 (C.2.2.2.2.1 _ kk_RX1_36) dX1_reckon_49 ?_
    obtain ⟨t_12, h_13, hf⟩ := sn_bd hf
    refine sn_callSv (rest := []) C hw (ctJ7_fill_d0a16 l layC_53 h_13) kl_RX1_38 rfl rfl rfl (Nat.le_of_ble_eq_true rfl) dX1_reckon_52 hl.1 (fun H locs hw => ?_)
    refine lv_aload_n hx hb dX1_reckon_55 rfl (lv_at hl 2 rfl) ?_
    refine sn_getC (r := 53) C hw fd_RX1_9 layC_52 rfl dX1_reckon_56 ?_
    refine lv_iconst (v := 0) hx hb dX1_reckon_59 rfl ?_
    refine lv_lconst (v := 0) hx hb dX1_reckon_60 rfl ?_
    obtain ⟨g_14, hf⟩ := sn_gdE hf
    refine sn_last C hw layC_53 g_14 dX1_reckon_61 (fun H locs hw => ?_)
    obtain ⟨σ_15, e_16, hf⟩ := sn_ltE hf
    rw [← e_16] at hw
    refine lv_iconst (v := 0) hx hb dX1_reckon_62 rfl ?_
    refine lv_istore (lv' := [(6, .int (0 : Int32)), (5, .int y_5), (4, .int t_1), (0, .ref (ad 52)), (1, .ref (ad q1)), (2, .ref (ad q2)), (3, .int x3)]) hx hb dX1_reckon_63 hl (by decide) rfl (fun ls hl => ?_)
    obtain ⟨t_17, h_18, hf⟩ := sn_bd hf
    exact wX1_reckon_L65 C h1 h2 h_18 (fun v e => by cases e; exact wX1_reckon_109 C h1 h2 hf kr) _ _ _ hw (lv_sub hl [3, 4, 5, 6, 2, 1, 0] rfl)
  · have hf := sn_el c_9 hf
    cases hf
    exact kr _ _ _ _ hw rfl dX1_reckon_37
theorem ctX1_reckon (l : Launch) {σ : sn_S} {q1 : Nat} {q2 : Nat} {x3 : Int32} (h1 : sn_isX2 q1) (h2 : sn_isX0 q2) {o : sn_S} (hf : fX1_reckon σ q1 q2 x3 = some o) : sn_M l yX1_reckon cX1_reckon 7 none rmX1_reckon layC (fun ad => [.ref (ad 52), .ref (ad q1), .ref (ad q2), .int x3]) σ none o :=
  sn_met (by decide) (fun _ => Nat.le_of_ble_eq_true rfl) (fun p e s m args below meth c ls D ct ad A C hw hl => wX1_reckon_in C h1 h2 hf (fun H locs ls pc hw ok hd => sn_vret C hw hd) _ _ _ hw hl)
-- X1_fewest
abbrev rmX1_fewest : Room := { frames := 0, cells := 0, slots := 0, locals := 0 }
def fX1_fewest (σ : sn_S) : Option Int32 :=
  (some (((sn_L σ 52 1) / (1073741824 : Int64)).toInt32))
theorem wX1_fewest_in (C : sn_C p s m args meth c RX1 cX1_fewest 1 (some .int) D ct ad layC A) {σ : sn_S}  {o : Int32} (hf : fX1_fewest σ = some o) (kr : sn_Kr p l e rmX1_fewest s m args below meth c Q D ct ad layC A cX1_fewest .ireturn (true) σ [.int o]) : sn_At p l e rmX1_fewest s m args below meth c Q D ct ad layC A 1 σ 0 [(0, .ref (ad 52))] [] := by
  intro H locs ls hw hl
  have hx := C.1
  have hb := C.2.1
  unfold fX1_fewest at hf
  refine lv_aload_n hx hb dX1_fewest_0 rfl (lv_at hl 0 rfl) ?_
  refine sn_getL C hw fd_RX1_32 layC_52 rfl dX1_fewest_1 ?_
  refine lv_ldc2 hx hb C.2.2.2.1 (C.2.2.2.2.1 _ kk_RX1_58) dX1_fewest_4 ?_
  refine lv_ldiv hx hb dX1_fewest_7 (by decide) ?_
  refine lv_l2i hx hb dX1_fewest_8 rfl ?_
  cases hf
  exact kr _ _ _ _ hw rfl dX1_fewest_9
theorem ctX1_fewest (l : Launch) {σ : sn_S}  {o : Int32} (hf : fX1_fewest σ = some o) : sn_M l yX1_fewest cX1_fewest 1 (some .int) rmX1_fewest layC (fun ad => [.ref (ad 52)]) σ (some (fun _ => .int o)) σ :=
  sn_met (by decide) (fun _ => Nat.le_of_ble_eq_true rfl) (fun p e s m args below meth c ls D ct ad A C hw hl => wX1_fewest_in C  hf (fun H locs ls pc hw ok hd => sn_iret C hw hd) _ _ _ hw hl)
-- X1_minutesHeld
abbrev rmX1_minutesHeld : Room := { frames := 0, cells := 0, slots := 0, locals := 0 }
def fX1_minutesHeld (σ : sn_S) : Option Int32 :=
  (some (((sn_L σ 52 1) - (sn_L σ 52 1) / (1073741824 : Int64) * (1073741824 : Int64)).toInt32))
theorem wX1_minutesHeld_in (C : sn_C p s m args meth c RX1 cX1_minutesHeld 1 (some .int) D ct ad layC A) {σ : sn_S}  {o : Int32} (hf : fX1_minutesHeld σ = some o) (kr : sn_Kr p l e rmX1_minutesHeld s m args below meth c Q D ct ad layC A cX1_minutesHeld .ireturn (true) σ [.int o]) : sn_At p l e rmX1_minutesHeld s m args below meth c Q D ct ad layC A 1 σ 0 [(0, .ref (ad 52))] [] := by
  intro H locs ls hw hl
  have hx := C.1
  have hb := C.2.1
  unfold fX1_minutesHeld at hf
  refine lv_aload_n hx hb dX1_minutesHeld_0 rfl (lv_at hl 0 rfl) ?_
  refine sn_getL C hw fd_RX1_32 layC_52 rfl dX1_minutesHeld_1 ?_
  refine lv_ldc2 hx hb C.2.2.2.1 (C.2.2.2.2.1 _ kk_RX1_58) dX1_minutesHeld_4 ?_
  refine lv_lrem hx hb dX1_minutesHeld_7 (by decide) ?_
  refine lv_l2i hx hb dX1_minutesHeld_8 rfl ?_
  cases hf
  exact kr _ _ _ _ hw rfl dX1_minutesHeld_9
theorem ctX1_minutesHeld (l : Launch) {σ : sn_S}  {o : Int32} (hf : fX1_minutesHeld σ = some o) : sn_M l yX1_minutesHeld cX1_minutesHeld 1 (some .int) rmX1_minutesHeld layC (fun ad => [.ref (ad 52)]) σ (some (fun _ => .int o)) σ :=
  sn_met (by decide) (fun _ => Nat.le_of_ble_eq_true rfl) (fun p e s m args below meth c ls D ct ad A C hw hl => wX1_minutesHeld_in C  hf (fun H locs ls pc hw ok hd => sn_iret C hw hd) _ _ _ hw hl)
-- X2_clear
abbrev rmX2_clear : Room := { frames := 1, cells := 0, slots := 0, locals := 23 }
def fX2_clear (σ : sn_S) (q0 : Nat) : Option sn_S :=
  ((fJ7_fill_53178 σ (q0 + 1) 11 (0 : Int32)).bind fun t_1 => (some t_1))
theorem wX2_clear_in (C : sn_C p s m args meth c RX2 cX2_clear 1 none D ct ad layC A) {σ : sn_S} {q0 : Nat} (h0 : sn_isX2 q0) {o : sn_S} (hf : fX2_clear σ q0 = some o) (kr : sn_Kr p l e rmX2_clear s m args below meth c Q D ct ad layC A cX2_clear .return_ (true) o []) : sn_At p l e rmX2_clear s m args below meth c Q D ct ad layC A 1 σ 0 [(0, .ref (ad q0))] [] := by
  intro H locs ls hw hl
  have hx := C.1
  have hb := C.2.1
  unfold fX2_clear at hf
  refine lv_aload_n hx hb dX2_clear_0 rfl (lv_at hl 0 rfl) ?_
  refine sn_getC (r := (q0 + 1)) C hw fd_RX2_9 (sn_look h0 (k := 0) rfl) rfl dX2_clear_1 ?_
  refine lv_iconst (v := 0) hx hb dX2_clear_4 rfl ?_
  obtain ⟨t_1, h_2, hf⟩ := sn_bd hf
  refine sn_callSv (rest := []) C hw (ctJ7_fill_53178 l (sn_look h0 (k := 1) rfl) h_2) kl_RX2_30 rfl rfl rfl (Nat.le_of_ble_eq_true rfl) dX2_clear_5 hl.1 (fun H locs hw => ?_)
  cases hf
  exact kr _ _ _ _ hw rfl dX2_clear_8
theorem ctX2_clear (l : Launch) {σ : sn_S} {q0 : Nat} (h0 : sn_isX2 q0) {o : sn_S} (hf : fX2_clear σ q0 = some o) : sn_M l yX2_clear cX2_clear 1 none rmX2_clear layC (fun ad => [.ref (ad q0)]) σ none o :=
  sn_met (by decide) (fun _ => Nat.le_of_ble_eq_true rfl) (fun p e s m args below meth c ls D ct ad A C hw hl => wX2_clear_in C h0 hf (fun H locs ls pc hw ok hd => sn_vret C hw hd) _ _ _ hw hl)
-- X2_copyFrom
abbrev rmX2_copyFrom : Room := { frames := 1, cells := 0, slots := 0, locals := 48 }
def fX2_copyFrom (σ : sn_S) (q0 : Nat) (q1 : Nat) : Option sn_S :=
  (sn_gd (sn_cpok (0 : Int32) (0 : Int32) (Int32.ofNat 11) 11 11) (sn_lt (sn_wI σ (q0 + 1) (va_cpy (sn_I σ (q1 + 1)) (sn_I σ (q0 + 1)) (0 : Int32).toNatClampNeg (0 : Int32).toNatClampNeg (Int32.ofNat 11).toNatClampNeg)) fun σ_2 => (sn_gd (sn_cpok (0 : Int32) (0 : Int32) (Int32.ofNat 12) 12 12) (sn_lt (sn_wI σ_2 (q0 + 2) (va_cpy (sn_I σ_2 (q1 + 2)) (sn_I σ_2 (q0 + 2)) (0 : Int32).toNatClampNeg (0 : Int32).toNatClampNeg (Int32.ofNat 12).toNatClampNeg)) fun σ_5 => (sn_gd (sn_cpok (0 : Int32) (0 : Int32) (Int32.ofNat 10) 10 10) (sn_lt (sn_wI σ_5 (q0 + 3) (va_cpy (sn_I σ_5 (q1 + 3)) (sn_I σ_5 (q0 + 3)) (0 : Int32).toNatClampNeg (0 : Int32).toNatClampNeg (Int32.ofNat 10).toNatClampNeg)) fun σ_8 => (sn_gd (sn_cpok (0 : Int32) (0 : Int32) (Int32.ofNat 16) 16 16) (sn_lt (sn_wI σ_8 (q0 + 4) (va_cpy (sn_I σ_8 (q1 + 4)) (sn_I σ_8 (q0 + 4)) (0 : Int32).toNatClampNeg (0 : Int32).toNatClampNeg (Int32.ofNat 16).toNatClampNeg)) fun σ_11 => (sn_gd (sn_cpok (0 : Int32) (0 : Int32) (Int32.ofNat 30) 30 30) (sn_lt (sn_wI σ_11 (q0 + 5) (va_cpy (sn_I σ_11 (q1 + 5)) (sn_I σ_11 (q0 + 5)) (0 : Int32).toNatClampNeg (0 : Int32).toNatClampNeg (Int32.ofNat 30).toNatClampNeg)) fun σ_14 => (sn_gd (sn_cpok (0 : Int32) (0 : Int32) (Int32.ofNat 120) 120 120) (sn_lt (sn_wI σ_14 (q0 + 6) (va_cpy (sn_I σ_14 (q1 + 6)) (sn_I σ_14 (q0 + 6)) (0 : Int32).toNatClampNeg (0 : Int32).toNatClampNeg (Int32.ofNat 120).toNatClampNeg)) fun σ_17 => (some σ_17)))))))))))))
theorem wX2_copyFrom_in (C : sn_C p s m args meth c RX2 cX2_copyFrom 2 none D ct ad layC A) {σ : sn_S} {q0 : Nat} {q1 : Nat} (h0 : sn_isX2 q0) (h1 : sn_isX2 q1) {o : sn_S} (hf : fX2_copyFrom σ q0 q1 = some o) (kr : sn_Kr p l e rmX2_copyFrom s m args below meth c Q D ct ad layC A cX2_copyFrom .return_ (true) o []) : sn_At p l e rmX2_copyFrom s m args below meth c Q D ct ad layC A 2 σ 0 [(0, .ref (ad q0)), (1, .ref (ad q1))] [] := by
  intro H locs ls hw hl
  have hx := C.1
  have hb := C.2.1
  unfold fX2_copyFrom at hf
  refine lv_aload_n hx hb dX2_copyFrom_0 rfl (lv_at hl 1 rfl) ?_
  refine sn_getC (r := (q1 + 1)) C hw fd_RX2_9 (sn_look h1 (k := 0) rfl) rfl dX2_copyFrom_1 ?_
  refine lv_iconst (v := 0) hx hb dX2_copyFrom_4 rfl ?_
  refine lv_aload_n hx hb dX2_copyFrom_5 rfl (lv_at hl 0 rfl) ?_
  refine sn_getC (r := (q0 + 1)) C hw fd_RX2_9 (sn_look h0 (k := 0) rfl) rfl dX2_copyFrom_6 ?_
  refine lv_iconst (v := 0) hx hb dX2_copyFrom_9 rfl ?_
  refine lv_aload_n hx hb dX2_copyFrom_10 rfl (lv_at hl 0 rfl) ?_
  refine sn_getC (r := (q0 + 1)) C hw fd_RX2_9 (sn_look h0 (k := 0) rfl) rfl dX2_copyFrom_11 ?_
  refine sn_alen C hw (sn_look h0 (k := 1) rfl) rfl rfl dX2_copyFrom_14 ?_
  obtain ⟨g_1, hf⟩ := sn_gdE hf
  refine sn_cpyI (rest := []) C hw km_RX2_36 kna_copy kst_copy ki_System (sn_look h1 (k := 1) rfl) (sn_look h0 (k := 1) rfl) g_1 (Nat.le_of_ble_eq_true rfl) (Nat.le_of_ble_eq_true rfl) dX2_copyFrom_15 hl.1 (fun H locs hw => ?_)
  obtain ⟨σ_2, e_3, hf⟩ := sn_ltE hf
  rw [← e_3] at hw
  refine lv_aload_n hx hb dX2_copyFrom_18 rfl (lv_at hl 1 rfl) ?_
  refine sn_getC (r := (q1 + 2)) C hw fd_RX2_15 (sn_look h1 (k := 0) rfl) rfl dX2_copyFrom_19 ?_
  refine lv_iconst (v := 0) hx hb dX2_copyFrom_22 rfl ?_
  refine lv_aload_n hx hb dX2_copyFrom_23 rfl (lv_at hl 0 rfl) ?_
  refine sn_getC (r := (q0 + 2)) C hw fd_RX2_15 (sn_look h0 (k := 0) rfl) rfl dX2_copyFrom_24 ?_
  refine lv_iconst (v := 0) hx hb dX2_copyFrom_27 rfl ?_
  refine lv_aload_n hx hb dX2_copyFrom_28 rfl (lv_at hl 0 rfl) ?_
  refine sn_getC (r := (q0 + 2)) C hw fd_RX2_15 (sn_look h0 (k := 0) rfl) rfl dX2_copyFrom_29 ?_
  refine sn_alen C hw (sn_look h0 (k := 2) rfl) rfl rfl dX2_copyFrom_32 ?_
  obtain ⟨g_4, hf⟩ := sn_gdE hf
  refine sn_cpyI (rest := []) C hw km_RX2_36 kna_copy kst_copy ki_System (sn_look h1 (k := 2) rfl) (sn_look h0 (k := 2) rfl) g_4 (Nat.le_of_ble_eq_true rfl) (Nat.le_of_ble_eq_true rfl) dX2_copyFrom_33 hl.1 (fun H locs hw => ?_)
  obtain ⟨σ_5, e_6, hf⟩ := sn_ltE hf
  rw [← e_6] at hw
  refine lv_aload_n hx hb dX2_copyFrom_36 rfl (lv_at hl 1 rfl) ?_
  refine sn_getC (r := (q1 + 3)) C hw fd_RX2_18 (sn_look h1 (k := 0) rfl) rfl dX2_copyFrom_37 ?_
  refine lv_iconst (v := 0) hx hb dX2_copyFrom_40 rfl ?_
  refine lv_aload_n hx hb dX2_copyFrom_41 rfl (lv_at hl 0 rfl) ?_
  refine sn_getC (r := (q0 + 3)) C hw fd_RX2_18 (sn_look h0 (k := 0) rfl) rfl dX2_copyFrom_42 ?_
  refine lv_iconst (v := 0) hx hb dX2_copyFrom_45 rfl ?_
  refine lv_aload_n hx hb dX2_copyFrom_46 rfl (lv_at hl 0 rfl) ?_
  refine sn_getC (r := (q0 + 3)) C hw fd_RX2_18 (sn_look h0 (k := 0) rfl) rfl dX2_copyFrom_47 ?_
  refine sn_alen C hw (sn_look h0 (k := 3) rfl) rfl rfl dX2_copyFrom_50 ?_
  obtain ⟨g_7, hf⟩ := sn_gdE hf
  refine sn_cpyI (rest := []) C hw km_RX2_36 kna_copy kst_copy ki_System (sn_look h1 (k := 3) rfl) (sn_look h0 (k := 3) rfl) g_7 (Nat.le_of_ble_eq_true rfl) (Nat.le_of_ble_eq_true rfl) dX2_copyFrom_51 hl.1 (fun H locs hw => ?_)
  obtain ⟨σ_8, e_9, hf⟩ := sn_ltE hf
  rw [← e_9] at hw
  refine lv_aload_n hx hb dX2_copyFrom_54 rfl (lv_at hl 1 rfl) ?_
  refine sn_getC (r := (q1 + 4)) C hw fd_RX2_21 (sn_look h1 (k := 0) rfl) rfl dX2_copyFrom_55 ?_
  refine lv_iconst (v := 0) hx hb dX2_copyFrom_58 rfl ?_
  refine lv_aload_n hx hb dX2_copyFrom_59 rfl (lv_at hl 0 rfl) ?_
  refine sn_getC (r := (q0 + 4)) C hw fd_RX2_21 (sn_look h0 (k := 0) rfl) rfl dX2_copyFrom_60 ?_
  refine lv_iconst (v := 0) hx hb dX2_copyFrom_63 rfl ?_
  refine lv_aload_n hx hb dX2_copyFrom_64 rfl (lv_at hl 0 rfl) ?_
  refine sn_getC (r := (q0 + 4)) C hw fd_RX2_21 (sn_look h0 (k := 0) rfl) rfl dX2_copyFrom_65 ?_
  refine sn_alen C hw (sn_look h0 (k := 4) rfl) rfl rfl dX2_copyFrom_68 ?_
  obtain ⟨g_10, hf⟩ := sn_gdE hf
  refine sn_cpyI (rest := []) C hw km_RX2_36 kna_copy kst_copy ki_System (sn_look h1 (k := 4) rfl) (sn_look h0 (k := 4) rfl) g_10 (Nat.le_of_ble_eq_true rfl) (Nat.le_of_ble_eq_true rfl) dX2_copyFrom_69 hl.1 (fun H locs hw => ?_)
  obtain ⟨σ_11, e_12, hf⟩ := sn_ltE hf
  rw [← e_12] at hw
  refine lv_aload_n hx hb dX2_copyFrom_72 rfl (lv_at hl 1 rfl) ?_
  refine sn_getC (r := (q1 + 5)) C hw fd_RX2_24 (sn_look h1 (k := 0) rfl) rfl dX2_copyFrom_73 ?_
  refine lv_iconst (v := 0) hx hb dX2_copyFrom_76 rfl ?_
  refine lv_aload_n hx hb dX2_copyFrom_77 rfl (lv_at hl 0 rfl) ?_
  refine sn_getC (r := (q0 + 5)) C hw fd_RX2_24 (sn_look h0 (k := 0) rfl) rfl dX2_copyFrom_78 ?_
  refine lv_iconst (v := 0) hx hb dX2_copyFrom_81 rfl ?_
  refine lv_aload_n hx hb dX2_copyFrom_82 rfl (lv_at hl 0 rfl) ?_
  refine sn_getC (r := (q0 + 5)) C hw fd_RX2_24 (sn_look h0 (k := 0) rfl) rfl dX2_copyFrom_83 ?_
  refine sn_alen C hw (sn_look h0 (k := 5) rfl) rfl rfl dX2_copyFrom_86 ?_
  obtain ⟨g_13, hf⟩ := sn_gdE hf
  refine sn_cpyI (rest := []) C hw km_RX2_36 kna_copy kst_copy ki_System (sn_look h1 (k := 5) rfl) (sn_look h0 (k := 5) rfl) g_13 (Nat.le_of_ble_eq_true rfl) (Nat.le_of_ble_eq_true rfl) dX2_copyFrom_87 hl.1 (fun H locs hw => ?_)
  obtain ⟨σ_14, e_15, hf⟩ := sn_ltE hf
  rw [← e_15] at hw
  refine lv_aload_n hx hb dX2_copyFrom_90 rfl (lv_at hl 1 rfl) ?_
  refine sn_getC (r := (q1 + 6)) C hw fd_RX2_27 (sn_look h1 (k := 0) rfl) rfl dX2_copyFrom_91 ?_
  refine lv_iconst (v := 0) hx hb dX2_copyFrom_94 rfl ?_
  refine lv_aload_n hx hb dX2_copyFrom_95 rfl (lv_at hl 0 rfl) ?_
  refine sn_getC (r := (q0 + 6)) C hw fd_RX2_27 (sn_look h0 (k := 0) rfl) rfl dX2_copyFrom_96 ?_
  refine lv_iconst (v := 0) hx hb dX2_copyFrom_99 rfl ?_
  refine lv_aload_n hx hb dX2_copyFrom_100 rfl (lv_at hl 0 rfl) ?_
  refine sn_getC (r := (q0 + 6)) C hw fd_RX2_27 (sn_look h0 (k := 0) rfl) rfl dX2_copyFrom_101 ?_
  refine sn_alen C hw (sn_look h0 (k := 6) rfl) rfl rfl dX2_copyFrom_104 ?_
  obtain ⟨g_16, hf⟩ := sn_gdE hf
  refine sn_cpyI (rest := []) C hw km_RX2_36 kna_copy kst_copy ki_System (sn_look h1 (k := 6) rfl) (sn_look h0 (k := 6) rfl) g_16 (Nat.le_of_ble_eq_true rfl) (Nat.le_of_ble_eq_true rfl) dX2_copyFrom_105 hl.1 (fun H locs hw => ?_)
  obtain ⟨σ_17, e_18, hf⟩ := sn_ltE hf
  rw [← e_18] at hw
  cases hf
  exact kr _ _ _ _ hw rfl dX2_copyFrom_108
theorem ctX2_copyFrom (l : Launch) {σ : sn_S} {q0 : Nat} {q1 : Nat} (h0 : sn_isX2 q0) (h1 : sn_isX2 q1) {o : sn_S} (hf : fX2_copyFrom σ q0 q1 = some o) : sn_M l yX2_copyFrom cX2_copyFrom 2 none rmX2_copyFrom layC (fun ad => [.ref (ad q0), .ref (ad q1)]) σ none o :=
  sn_met (by decide) (fun _ => Nat.le_of_ble_eq_true rfl) (fun p e s m args below meth c ls D ct ad A C hw hl => wX2_copyFrom_in C h0 h1 hf (fun H locs ls pc hw ok hd => sn_vret C hw hd) _ _ _ hw hl)
-- X2_window
abbrev rmX2_window : Room := { frames := 0, cells := 0, slots := 0, locals := 0 }
def fX2_window (σ : sn_S) (q0 : Nat) (x1 : Int32) : Option Int32 :=
  (sn_lt ((5 : Int32) * x1) fun y_1 => (sn_gd (sn_in (y_1 + (2 : Int32)) 30) (sn_gd (sn_in (y_1 + (1 : Int32)) 30) (some (((2 : Int32) <<< ((sn_I σ (q0 + 5) (y_1 + (2 : Int32)).toNatClampNeg) &&& 31)) - ((1 : Int32) <<< ((sn_I σ (q0 + 5) (y_1 + (1 : Int32)).toNatClampNeg) &&& 31)))))))
theorem wX2_window_in (C : sn_C p s m args meth c RX2 cX2_window 3 (some .int) D ct ad layC A) {σ : sn_S} {q0 : Nat} {x1 : Int32} (h0 : sn_isX2 q0) {o : Int32} (hf : fX2_window σ q0 x1 = some o) (kr : sn_Kr p l e rmX2_window s m args below meth c Q D ct ad layC A cX2_window .ireturn (true) σ [.int o]) : sn_At p l e rmX2_window s m args below meth c Q D ct ad layC A 3 σ 0 [(0, .ref (ad q0)), (1, .int x1)] [] := by
  intro H locs ls hw hl
  have hx := C.1
  have hb := C.2.1
  unfold fX2_window at hf
  refine lv_iconst (v := 5) hx hb dX2_window_0 rfl ?_
  refine lv_iload_n hx hb dX2_window_1 rfl (lv_at hl 1 rfl) ?_
  refine lv_imul hx hb dX2_window_2 ?_
  obtain ⟨y_1, e_2, hf⟩ := sn_ltE hf
  refine lv_topi (fun y_1_ e_2_ => ?_)
  obtain rfl : y_1 = y_1_ := e_2.trans e_2_.symm
  refine lv_istore_n (lv' := [(2, .int y_1), (0, .ref (ad q0)), (1, .int x1)]) hx hb dX2_window_3 rfl hl (by decide) rfl (fun ls hl => ?_)
  refine lv_iconst (v := 2) hx hb dX2_window_4 rfl ?_
  refine lv_aload_n hx hb dX2_window_5 rfl (lv_at hl 1 rfl) ?_
  refine sn_getC (r := (q0 + 5)) C hw fd_RX2_24 (sn_look h0 (k := 0) rfl) rfl dX2_window_6 ?_
  refine lv_iload_n hx hb dX2_window_9 rfl (lv_at hl 0 rfl) ?_
  refine lv_iconst (v := 2) hx hb dX2_window_10 rfl ?_
  refine lv_iadd hx hb dX2_window_11 ?_
  obtain ⟨g_3, hf⟩ := sn_gdE hf
  refine sn_iald C hw (sn_look h0 (k := 5) rfl) g_3 dX2_window_12 ?_
  refine lv_ishl hx hb dX2_window_13 ?_
  refine lv_iconst (v := 1) hx hb dX2_window_14 rfl ?_
  refine lv_aload_n hx hb dX2_window_15 rfl (lv_at hl 1 rfl) ?_
  refine sn_getC (r := (q0 + 5)) C hw fd_RX2_24 (sn_look h0 (k := 0) rfl) rfl dX2_window_16 ?_
  refine lv_iload_n hx hb dX2_window_19 rfl (lv_at hl 0 rfl) ?_
  refine lv_iconst (v := 1) hx hb dX2_window_20 rfl ?_
  refine lv_iadd hx hb dX2_window_21 ?_
  obtain ⟨g_4, hf⟩ := sn_gdE hf
  refine sn_iald C hw (sn_look h0 (k := 5) rfl) g_4 dX2_window_22 ?_
  refine lv_ishl hx hb dX2_window_23 ?_
  refine lv_isub hx hb dX2_window_24 ?_
  cases hf
  exact kr _ _ _ _ hw rfl dX2_window_25
theorem ctX2_window (l : Launch) {σ : sn_S} {q0 : Nat} {x1 : Int32} (h0 : sn_isX2 q0) {o : Int32} (hf : fX2_window σ q0 x1 = some o) : sn_M l yX2_window cX2_window 3 (some .int) rmX2_window layC (fun ad => [.ref (ad q0), .int x1]) σ (some (fun _ => .int o)) σ :=
  sn_met (by decide) (fun _ => Nat.le_of_ble_eq_true rfl) (fun p e s m args below meth c ls D ct ad A C hw hl => wX2_window_in C h0 hf (fun H locs ls pc hw ok hd => sn_iret C hw hd) _ _ _ hw hl)
-- X2_gustMinutes
abbrev rmX2_gustMinutes : Room := { frames := 0, cells := 0, slots := 0, locals := 0 }
def BX2_gustMinutes_36 (σ : sn_S) (q0 : Nat) (x1 : Int32) : Option (Int32) :=
  (some x1)
def BX2_gustMinutes_4 (σ : sn_S) (q0 : Nat) (x1 : Int32) (x2 : Int32) : Option ((Int32 × Int32) ⊕ (Int32)) :=
  (sn_gd (sn_in (6 : Int32) 11) (if (sn_I σ (q0 + 1) (6 : Int32).toNatClampNeg) ≤ x2 then
  (some (.inr (x1)))
  else
  (sn_gd (sn_in (((2 : Int32) * x2) + (1 : Int32)) 10) (sn_lt (x1 ||| ((1 : Int32) <<< ((sn_I σ (q0 + 3) (((2 : Int32) * x2) + (1 : Int32)).toNatClampNeg) &&& 31))) fun y_4 => (sn_lt (x2 + 1) fun y_6 => (some (.inl (y_4, y_6))))))))
def LX2_gustMinutes_4 (σ : sn_S) (q0 : Nat) (s : Int32 × Int32) : Option ((Int32 × Int32) ⊕ (Int32)) := BX2_gustMinutes_4 σ q0 s.1 s.2
def fX2_gustMinutes (σ : sn_S) (q0 : Nat) : Option Int32 :=
  ((sn_it (LX2_gustMinutes_4 σ q0) 5000 ((0 : Int32), (0 : Int32))).bind fun t_1 => (BX2_gustMinutes_36 σ q0 t_1))
theorem wX2_gustMinutes_36 (C : sn_C p s m args meth c RX2 cX2_gustMinutes 3 (some .int) D ct ad layC A) {σ : sn_S} {q0 : Nat} {x1 : Int32} (h0 : sn_isX2 q0) {o : Int32} (hf : BX2_gustMinutes_36 σ q0 x1 = some o) (kr : sn_Kr p l e rmX2_gustMinutes s m args below meth c Q D ct ad layC A cX2_gustMinutes .ireturn (true) σ [.int o]) : sn_At p l e rmX2_gustMinutes s m args below meth c Q D ct ad layC A 3 σ 36 [(1, .int x1)] [] := by
  intro H locs ls hw hl
  have hx := C.1
  have hb := C.2.1
  unfold BX2_gustMinutes_36 at hf
  refine lv_iload_n hx hb dX2_gustMinutes_36 rfl (lv_at hl 0 rfl) ?_
  cases hf
  exact kr _ _ _ _ hw rfl dX2_gustMinutes_37
theorem wX2_gustMinutes_4 (C : sn_C p s m args meth c RX2 cX2_gustMinutes 3 (some .int) D ct ad layC A) {σ : sn_S} {q0 : Nat} {x1 : Int32} {x2 : Int32} (h0 : sn_isX2 q0) {o : (Int32 × Int32) ⊕ (Int32)} (hf : BX2_gustMinutes_4 σ q0 x1 x2 = some o) (kc : ∀ v, o = .inl v → sn_At p l e rmX2_gustMinutes s m args below meth c Q D ct ad layC A 3 σ 4 [(0, .ref (ad q0)), (1, .int v.1), (2, .int v.2)] []) (kx : ∀ v, o = .inr v → sn_At p l e rmX2_gustMinutes s m args below meth c Q D ct ad layC A 3 σ 36 [(1, .int v)] []) : sn_At p l e rmX2_gustMinutes s m args below meth c Q D ct ad layC A 3 σ 4 [(0, .ref (ad q0)), (1, .int x1), (2, .int x2)] [] := by
  intro H locs ls hw hl
  have hx := C.1
  have hb := C.2.1
  unfold BX2_gustMinutes_4 at hf
  refine lv_iload_n hx hb dX2_gustMinutes_4 rfl (lv_at hl 2 rfl) ?_
  refine lv_aload_n hx hb dX2_gustMinutes_5 rfl (lv_at hl 0 rfl) ?_
  refine sn_getC (r := (q0 + 1)) C hw fd_RX2_9 (sn_look h0 (k := 0) rfl) rfl dX2_gustMinutes_6 ?_
  refine lv_bipush (v := 6) hx hb dX2_gustMinutes_9 (by decide) ?_
  obtain ⟨g_1, hf⟩ := sn_gdE hf
  refine sn_iald C hw (sn_look h0 (k := 1) rfl) g_1 dX2_gustMinutes_11 ?_
  refine lv_icmp_ge (tgt := 36) hx hb dX2_gustMinutes_12 (by decide) (fun c_2 => ?_) (fun c_2 => ?_)
  · have hf := sn_if c_2 hf
    cases hf
    exact kx _ rfl _ _ _ hw (lv_sub hl [1] rfl)
  · have hf := sn_el c_2 hf
    refine lv_iload_n hx hb dX2_gustMinutes_15 rfl (lv_at hl 1 rfl) ?_
    refine lv_iconst (v := 1) hx hb dX2_gustMinutes_16 rfl ?_
    refine lv_aload_n hx hb dX2_gustMinutes_17 rfl (lv_at hl 0 rfl) ?_
    refine sn_getC (r := (q0 + 3)) C hw fd_RX2_18 (sn_look h0 (k := 0) rfl) rfl dX2_gustMinutes_18 ?_
    refine lv_iconst (v := 2) hx hb dX2_gustMinutes_21 rfl ?_
    refine lv_iload_n hx hb dX2_gustMinutes_22 rfl (lv_at hl 2 rfl) ?_
    refine lv_imul hx hb dX2_gustMinutes_23 ?_
    refine lv_iconst (v := 1) hx hb dX2_gustMinutes_24 rfl ?_
    refine lv_iadd hx hb dX2_gustMinutes_25 ?_
    obtain ⟨g_3, hf⟩ := sn_gdE hf
    refine sn_iald C hw (sn_look h0 (k := 3) rfl) g_3 dX2_gustMinutes_26 ?_
    refine lv_ishl hx hb dX2_gustMinutes_27 ?_
    refine lv_ior hx hb dX2_gustMinutes_28 ?_
    obtain ⟨y_4, e_5, hf⟩ := sn_ltE hf
    refine lv_topi (fun y_4_ e_5_ => ?_)
    obtain rfl : y_4 = y_4_ := e_5.trans e_5_.symm
    refine lv_istore_n (lv' := [(1, .int y_4), (0, .ref (ad q0)), (2, .int x2)]) hx hb dX2_gustMinutes_29 rfl hl (by decide) rfl (fun ls hl => ?_)
    obtain ⟨y_6, e_7, hf⟩ := sn_ltE hf
    refine lv_iinc (v := y_6) (lv' := [(2, .int y_6), (1, .int y_4), (0, .ref (ad q0))]) hx hb dX2_gustMinutes_30 hl (k := 2) rfl (by rw [e_7]; rfl) (by decide) rfl (fun ls hl => ?_)
    refine lv_goto (tgt := 4) hx hb dX2_gustMinutes_33 (by decide) ?_
    cases hf
    exact kc _ rfl _ _ _ hw (lv_sub hl [2, 1, 0] rfl)
theorem wX2_gustMinutes_L4 (C : sn_C p s m args meth c RX2 cX2_gustMinutes 3 (some .int) D ct ad layC A) {σ : sn_S} {q0 : Nat}  (h0 : sn_isX2 q0) {z : Int32 × Int32} {t : Int32} (h : sn_it (LX2_gustMinutes_4 σ q0) 5000 z = some t) (kx : ∀ v, t = v → sn_At p l e rmX2_gustMinutes s m args below meth c Q D ct ad layC A 3 σ 36 [(1, .int v)] []) : sn_At p l e rmX2_gustMinutes s m args below meth c Q D ct ad layC A 3 σ 4 [(0, .ref (ad q0)), (1, .int z.1), (2, .int z.2)] [] :=
  sn_loop (f := LX2_gustMinutes_4 σ q0) (G := fun z => sn_At p l e rmX2_gustMinutes s m args below meth c Q D ct ad layC A 3 σ 4 [(0, .ref (ad q0)), (1, .int z.1), (2, .int z.2)] []) (E := fun t => (∀ v, t = v → sn_At p l e rmX2_gustMinutes s m args below meth c Q D ct ad layC A 3 σ 36 [(1, .int v)] []) ∧ True) (fun z o hf k1 k2 => wX2_gustMinutes_4 C h0 hf (fun v e => k1 v e) (fun v e => (k2 _ e).1 v rfl)) 5000 z t h ⟨kx, trivial⟩
theorem wX2_gustMinutes_in (C : sn_C p s m args meth c RX2 cX2_gustMinutes 3 (some .int) D ct ad layC A) {σ : sn_S} {q0 : Nat} (h0 : sn_isX2 q0) {o : Int32} (hf : fX2_gustMinutes σ q0 = some o) (kr : sn_Kr p l e rmX2_gustMinutes s m args below meth c Q D ct ad layC A cX2_gustMinutes .ireturn (true) σ [.int o]) : sn_At p l e rmX2_gustMinutes s m args below meth c Q D ct ad layC A 3 σ 0 [(0, .ref (ad q0))] [] := by
  intro H locs ls hw hl
  have hx := C.1
  have hb := C.2.1
  unfold fX2_gustMinutes at hf
  refine lv_iconst (v := 0) hx hb dX2_gustMinutes_0 rfl ?_
  refine lv_istore_n (lv' := [(1, .int (0 : Int32)), (0, .ref (ad q0))]) hx hb dX2_gustMinutes_1 rfl hl (by decide) rfl (fun ls hl => ?_)
  refine lv_iconst (v := 0) hx hb dX2_gustMinutes_2 rfl ?_
  refine lv_istore_n (lv' := [(2, .int (0 : Int32)), (1, .int (0 : Int32)), (0, .ref (ad q0))]) hx hb dX2_gustMinutes_3 rfl hl (by decide) rfl (fun ls hl => ?_)
  obtain ⟨t_1, h_2, hf⟩ := sn_bd hf
  exact wX2_gustMinutes_L4 C h0 h_2 (fun v e => by cases e; exact wX2_gustMinutes_36 C h0 hf kr) _ _ _ hw (lv_sub hl [2, 1, 0] rfl)
theorem ctX2_gustMinutes (l : Launch) {σ : sn_S} {q0 : Nat} (h0 : sn_isX2 q0) {o : Int32} (hf : fX2_gustMinutes σ q0 = some o) : sn_M l yX2_gustMinutes cX2_gustMinutes 3 (some .int) rmX2_gustMinutes layC (fun ad => [.ref (ad q0)]) σ (some (fun _ => .int o)) σ :=
  sn_met (by decide) (fun _ => Nat.le_of_ble_eq_true rfl) (fun p e s m args below meth c ls D ct ad A C hw hl => wX2_gustMinutes_in C h0 hf (fun H locs ls pc hw ok hd => sn_iret C hw hd) _ _ _ hw hl)
-- X2_neighbours
abbrev rmX2_neighbours : Room := { frames := 0, cells := 0, slots := 0, locals := 0 }
def BX2_neighbours_75 (σ : sn_S) (q0 : Nat) (x2 : Int32) : Option (Int32) :=
  (some x2)
def BX2_neighbours_69 (σ : sn_S) (q0 : Nat) (x1 : Int32) (x2 : Int32) (x3 : Int32) : Option ((Int32 × Int32) ⊕ (Int32)) :=
  (sn_lt (x3 + 1) fun y_1 => (some (.inl (x2, y_1))))
def BX2_neighbours_42 (σ : sn_S) (q0 : Nat) (x1 : Int32) (x2 : Int32) (x3 : Int32) : Option ((Int32 × Int32) ⊕ (Int32)) :=
  (sn_gd (sn_in (((2 : Int32) * x3) + (1 : Int32)) 16) (if (sn_I σ (q0 + 4) (((2 : Int32) * x3) + (1 : Int32)).toNatClampNeg) = x1 then
  (sn_gd (sn_in ((2 : Int32) * x3) 16) (sn_lt (x2 ||| ((1 : Int32) <<< ((sn_I σ (q0 + 4) ((2 : Int32) * x3).toNatClampNeg) &&& 31))) fun y_4 => (BX2_neighbours_69 σ q0 x1 y_4 x3)))
  else
  (BX2_neighbours_69 σ q0 x1 x2 x3)))
def BX2_neighbours_4 (σ : sn_S) (q0 : Nat) (x1 : Int32) (x2 : Int32) (x3 : Int32) : Option ((Int32 × Int32) ⊕ (Int32)) :=
  (sn_gd (sn_in (7 : Int32) 11) (if (sn_I σ (q0 + 1) (7 : Int32).toNatClampNeg) ≤ x3 then
  (some (.inr (x2)))
  else
  (sn_gd (sn_in ((2 : Int32) * x3) 16) (if (sn_I σ (q0 + 4) ((2 : Int32) * x3).toNatClampNeg) = x1 then
  (sn_gd (sn_in (((2 : Int32) * x3) + (1 : Int32)) 16) (sn_lt (x2 ||| ((1 : Int32) <<< ((sn_I σ (q0 + 4) (((2 : Int32) * x3) + (1 : Int32)).toNatClampNeg) &&& 31))) fun y_6 => (BX2_neighbours_42 σ q0 x1 y_6 x3)))
  else
  (BX2_neighbours_42 σ q0 x1 x2 x3)))))
def LX2_neighbours_4 (σ : sn_S) (q0 : Nat) (x1 : Int32) (s : Int32 × Int32) : Option ((Int32 × Int32) ⊕ (Int32)) := BX2_neighbours_4 σ q0 x1 s.1 s.2
def fX2_neighbours (σ : sn_S) (q0 : Nat) (x1 : Int32) : Option Int32 :=
  ((sn_it (LX2_neighbours_4 σ q0 x1) 5000 ((0 : Int32), (0 : Int32))).bind fun t_1 => (BX2_neighbours_75 σ q0 t_1))
theorem wX2_neighbours_75 (C : sn_C p s m args meth c RX2 cX2_neighbours 4 (some .int) D ct ad layC A) {σ : sn_S} {q0 : Nat} {x2 : Int32} (h0 : sn_isX2 q0) {o : Int32} (hf : BX2_neighbours_75 σ q0 x2 = some o) (kr : sn_Kr p l e rmX2_neighbours s m args below meth c Q D ct ad layC A cX2_neighbours .ireturn (true) σ [.int o]) : sn_At p l e rmX2_neighbours s m args below meth c Q D ct ad layC A 4 σ 75 [(2, .int x2)] [] := by
  intro H locs ls hw hl
  have hx := C.1
  have hb := C.2.1
  unfold BX2_neighbours_75 at hf
  refine lv_iload_n hx hb dX2_neighbours_75 rfl (lv_at hl 0 rfl) ?_
  cases hf
  exact kr _ _ _ _ hw rfl dX2_neighbours_76
theorem wX2_neighbours_69 (C : sn_C p s m args meth c RX2 cX2_neighbours 4 (some .int) D ct ad layC A) {σ : sn_S} {q0 : Nat} {x1 : Int32} {x2 : Int32} {x3 : Int32} (h0 : sn_isX2 q0) {o : (Int32 × Int32) ⊕ (Int32)} (hf : BX2_neighbours_69 σ q0 x1 x2 x3 = some o) (kc : ∀ v, o = .inl v → sn_At p l e rmX2_neighbours s m args below meth c Q D ct ad layC A 4 σ 4 [(0, .ref (ad q0)), (1, .int x1), (2, .int v.1), (3, .int v.2)] []) (kx : ∀ v, o = .inr v → sn_At p l e rmX2_neighbours s m args below meth c Q D ct ad layC A 4 σ 75 [(2, .int v)] []) : sn_At p l e rmX2_neighbours s m args below meth c Q D ct ad layC A 4 σ 69 [(0, .ref (ad q0)), (1, .int x1), (2, .int x2), (3, .int x3)] [] := by
  intro H locs ls hw hl
  have hx := C.1
  have hb := C.2.1
  unfold BX2_neighbours_69 at hf
  obtain ⟨y_1, e_2, hf⟩ := sn_ltE hf
  refine lv_iinc (v := y_1) (lv' := [(3, .int y_1), (0, .ref (ad q0)), (1, .int x1), (2, .int x2)]) hx hb dX2_neighbours_69 hl (k := 3) rfl (by rw [e_2]; rfl) (by decide) rfl (fun ls hl => ?_)
  refine lv_goto (tgt := 4) hx hb dX2_neighbours_72 (by decide) ?_
  cases hf
  exact kc _ rfl _ _ _ hw (lv_sub hl [1, 2, 3, 0] rfl)
theorem wX2_neighbours_42 (C : sn_C p s m args meth c RX2 cX2_neighbours 4 (some .int) D ct ad layC A) {σ : sn_S} {q0 : Nat} {x1 : Int32} {x2 : Int32} {x3 : Int32} (h0 : sn_isX2 q0) {o : (Int32 × Int32) ⊕ (Int32)} (hf : BX2_neighbours_42 σ q0 x1 x2 x3 = some o) (kc : ∀ v, o = .inl v → sn_At p l e rmX2_neighbours s m args below meth c Q D ct ad layC A 4 σ 4 [(0, .ref (ad q0)), (1, .int x1), (2, .int v.1), (3, .int v.2)] []) (kx : ∀ v, o = .inr v → sn_At p l e rmX2_neighbours s m args below meth c Q D ct ad layC A 4 σ 75 [(2, .int v)] []) : sn_At p l e rmX2_neighbours s m args below meth c Q D ct ad layC A 4 σ 42 [(0, .ref (ad q0)), (1, .int x1), (2, .int x2), (3, .int x3)] [] := by
  intro H locs ls hw hl
  have hx := C.1
  have hb := C.2.1
  unfold BX2_neighbours_42 at hf
  refine lv_aload_n hx hb dX2_neighbours_42 rfl (lv_at hl 0 rfl) ?_
  refine sn_getC (r := (q0 + 4)) C hw fd_RX2_21 (sn_look h0 (k := 0) rfl) rfl dX2_neighbours_43 ?_
  refine lv_iconst (v := 2) hx hb dX2_neighbours_46 rfl ?_
  refine lv_iload_n hx hb dX2_neighbours_47 rfl (lv_at hl 3 rfl) ?_
  refine lv_imul hx hb dX2_neighbours_48 ?_
  refine lv_iconst (v := 1) hx hb dX2_neighbours_49 rfl ?_
  refine lv_iadd hx hb dX2_neighbours_50 ?_
  obtain ⟨g_1, hf⟩ := sn_gdE hf
  refine sn_iald C hw (sn_look h0 (k := 4) rfl) g_1 dX2_neighbours_51 ?_
  refine lv_iload_n hx hb dX2_neighbours_52 rfl (lv_at hl 1 rfl) ?_
  refine lv_icmp_ne (tgt := 69) hx hb dX2_neighbours_53 (by decide) (fun c_2 => ?_) (fun c_2 => ?_)
  · have hf := sn_el c_2 hf
    exact wX2_neighbours_69 C h0 hf kc kx _ _ _ hw (lv_sub hl [0, 1, 2, 3] rfl)
  · have hf := sn_if c_2 hf
    refine lv_iload_n hx hb dX2_neighbours_56 rfl (lv_at hl 2 rfl) ?_
    refine lv_iconst (v := 1) hx hb dX2_neighbours_57 rfl ?_
    refine lv_aload_n hx hb dX2_neighbours_58 rfl (lv_at hl 0 rfl) ?_
    refine sn_getC (r := (q0 + 4)) C hw fd_RX2_21 (sn_look h0 (k := 0) rfl) rfl dX2_neighbours_59 ?_
    refine lv_iconst (v := 2) hx hb dX2_neighbours_62 rfl ?_
    refine lv_iload_n hx hb dX2_neighbours_63 rfl (lv_at hl 3 rfl) ?_
    refine lv_imul hx hb dX2_neighbours_64 ?_
    obtain ⟨g_3, hf⟩ := sn_gdE hf
    refine sn_iald C hw (sn_look h0 (k := 4) rfl) g_3 dX2_neighbours_65 ?_
    refine lv_ishl hx hb dX2_neighbours_66 ?_
    refine lv_ior hx hb dX2_neighbours_67 ?_
    obtain ⟨y_4, e_5, hf⟩ := sn_ltE hf
    refine lv_topi (fun y_4_ e_5_ => ?_)
    obtain rfl : y_4 = y_4_ := e_5.trans e_5_.symm
    refine lv_istore_n (lv' := [(2, .int y_4), (0, .ref (ad q0)), (1, .int x1), (3, .int x3)]) hx hb dX2_neighbours_68 rfl hl (by decide) rfl (fun ls hl => ?_)
    exact wX2_neighbours_69 C h0 hf kc kx _ _ _ hw (lv_sub hl [1, 2, 0, 3] rfl)
theorem wX2_neighbours_4 (C : sn_C p s m args meth c RX2 cX2_neighbours 4 (some .int) D ct ad layC A) {σ : sn_S} {q0 : Nat} {x1 : Int32} {x2 : Int32} {x3 : Int32} (h0 : sn_isX2 q0) {o : (Int32 × Int32) ⊕ (Int32)} (hf : BX2_neighbours_4 σ q0 x1 x2 x3 = some o) (kc : ∀ v, o = .inl v → sn_At p l e rmX2_neighbours s m args below meth c Q D ct ad layC A 4 σ 4 [(0, .ref (ad q0)), (1, .int x1), (2, .int v.1), (3, .int v.2)] []) (kx : ∀ v, o = .inr v → sn_At p l e rmX2_neighbours s m args below meth c Q D ct ad layC A 4 σ 75 [(2, .int v)] []) : sn_At p l e rmX2_neighbours s m args below meth c Q D ct ad layC A 4 σ 4 [(0, .ref (ad q0)), (1, .int x1), (2, .int x2), (3, .int x3)] [] := by
  intro H locs ls hw hl
  have hx := C.1
  have hb := C.2.1
  unfold BX2_neighbours_4 at hf
  refine lv_iload_n hx hb dX2_neighbours_4 rfl (lv_at hl 3 rfl) ?_
  refine lv_aload_n hx hb dX2_neighbours_5 rfl (lv_at hl 0 rfl) ?_
  refine sn_getC (r := (q0 + 1)) C hw fd_RX2_9 (sn_look h0 (k := 0) rfl) rfl dX2_neighbours_6 ?_
  refine lv_bipush (v := 7) hx hb dX2_neighbours_9 (by decide) ?_
  obtain ⟨g_1, hf⟩ := sn_gdE hf
  refine sn_iald C hw (sn_look h0 (k := 1) rfl) g_1 dX2_neighbours_11 ?_
  refine lv_icmp_ge (tgt := 75) hx hb dX2_neighbours_12 (by decide) (fun c_2 => ?_) (fun c_2 => ?_)
  · have hf := sn_if c_2 hf
    cases hf
    exact kx _ rfl _ _ _ hw (lv_sub hl [2] rfl)
  · have hf := sn_el c_2 hf
    refine lv_aload_n hx hb dX2_neighbours_15 rfl (lv_at hl 0 rfl) ?_
    refine sn_getC (r := (q0 + 4)) C hw fd_RX2_21 (sn_look h0 (k := 0) rfl) rfl dX2_neighbours_16 ?_
    refine lv_iconst (v := 2) hx hb dX2_neighbours_19 rfl ?_
    refine lv_iload_n hx hb dX2_neighbours_20 rfl (lv_at hl 3 rfl) ?_
    refine lv_imul hx hb dX2_neighbours_21 ?_
    obtain ⟨g_3, hf⟩ := sn_gdE hf
    refine sn_iald C hw (sn_look h0 (k := 4) rfl) g_3 dX2_neighbours_22 ?_
    refine lv_iload_n hx hb dX2_neighbours_23 rfl (lv_at hl 1 rfl) ?_
    refine lv_icmp_ne (tgt := 42) hx hb dX2_neighbours_24 (by decide) (fun c_4 => ?_) (fun c_4 => ?_)
    · have hf := sn_el c_4 hf
      exact wX2_neighbours_42 C h0 hf kc kx _ _ _ hw (lv_sub hl [0, 1, 2, 3] rfl)
    · have hf := sn_if c_4 hf
      refine lv_iload_n hx hb dX2_neighbours_27 rfl (lv_at hl 2 rfl) ?_
      refine lv_iconst (v := 1) hx hb dX2_neighbours_28 rfl ?_
      refine lv_aload_n hx hb dX2_neighbours_29 rfl (lv_at hl 0 rfl) ?_
      refine sn_getC (r := (q0 + 4)) C hw fd_RX2_21 (sn_look h0 (k := 0) rfl) rfl dX2_neighbours_30 ?_
      refine lv_iconst (v := 2) hx hb dX2_neighbours_33 rfl ?_
      refine lv_iload_n hx hb dX2_neighbours_34 rfl (lv_at hl 3 rfl) ?_
      refine lv_imul hx hb dX2_neighbours_35 ?_
      refine lv_iconst (v := 1) hx hb dX2_neighbours_36 rfl ?_
      refine lv_iadd hx hb dX2_neighbours_37 ?_
      obtain ⟨g_5, hf⟩ := sn_gdE hf
      refine sn_iald C hw (sn_look h0 (k := 4) rfl) g_5 dX2_neighbours_38 ?_
      refine lv_ishl hx hb dX2_neighbours_39 ?_
      refine lv_ior hx hb dX2_neighbours_40 ?_
      obtain ⟨y_6, e_7, hf⟩ := sn_ltE hf
      refine lv_topi (fun y_6_ e_7_ => ?_)
      obtain rfl : y_6 = y_6_ := e_7.trans e_7_.symm
      refine lv_istore_n (lv' := [(2, .int y_6), (0, .ref (ad q0)), (1, .int x1), (3, .int x3)]) hx hb dX2_neighbours_41 rfl hl (by decide) rfl (fun ls hl => ?_)
      exact wX2_neighbours_42 C h0 hf kc kx _ _ _ hw (lv_sub hl [1, 2, 0, 3] rfl)
theorem wX2_neighbours_L4 (C : sn_C p s m args meth c RX2 cX2_neighbours 4 (some .int) D ct ad layC A) {σ : sn_S} {q0 : Nat} {x1 : Int32}  (h0 : sn_isX2 q0) {z : Int32 × Int32} {t : Int32} (h : sn_it (LX2_neighbours_4 σ q0 x1) 5000 z = some t) (kx : ∀ v, t = v → sn_At p l e rmX2_neighbours s m args below meth c Q D ct ad layC A 4 σ 75 [(2, .int v)] []) : sn_At p l e rmX2_neighbours s m args below meth c Q D ct ad layC A 4 σ 4 [(0, .ref (ad q0)), (1, .int x1), (2, .int z.1), (3, .int z.2)] [] :=
  sn_loop (f := LX2_neighbours_4 σ q0 x1) (G := fun z => sn_At p l e rmX2_neighbours s m args below meth c Q D ct ad layC A 4 σ 4 [(0, .ref (ad q0)), (1, .int x1), (2, .int z.1), (3, .int z.2)] []) (E := fun t => (∀ v, t = v → sn_At p l e rmX2_neighbours s m args below meth c Q D ct ad layC A 4 σ 75 [(2, .int v)] []) ∧ True) (fun z o hf k1 k2 => wX2_neighbours_4 C h0 hf (fun v e => k1 v e) (fun v e => (k2 _ e).1 v rfl)) 5000 z t h ⟨kx, trivial⟩
theorem wX2_neighbours_in (C : sn_C p s m args meth c RX2 cX2_neighbours 4 (some .int) D ct ad layC A) {σ : sn_S} {q0 : Nat} {x1 : Int32} (h0 : sn_isX2 q0) {o : Int32} (hf : fX2_neighbours σ q0 x1 = some o) (kr : sn_Kr p l e rmX2_neighbours s m args below meth c Q D ct ad layC A cX2_neighbours .ireturn (true) σ [.int o]) : sn_At p l e rmX2_neighbours s m args below meth c Q D ct ad layC A 4 σ 0 [(0, .ref (ad q0)), (1, .int x1)] [] := by
  intro H locs ls hw hl
  have hx := C.1
  have hb := C.2.1
  unfold fX2_neighbours at hf
  refine lv_iconst (v := 0) hx hb dX2_neighbours_0 rfl ?_
  refine lv_istore_n (lv' := [(2, .int (0 : Int32)), (0, .ref (ad q0)), (1, .int x1)]) hx hb dX2_neighbours_1 rfl hl (by decide) rfl (fun ls hl => ?_)
  refine lv_iconst (v := 0) hx hb dX2_neighbours_2 rfl ?_
  refine lv_istore_n (lv' := [(3, .int (0 : Int32)), (2, .int (0 : Int32)), (0, .ref (ad q0)), (1, .int x1)]) hx hb dX2_neighbours_3 rfl hl (by decide) rfl (fun ls hl => ?_)
  obtain ⟨t_1, h_2, hf⟩ := sn_bd hf
  exact wX2_neighbours_L4 C h0 h_2 (fun v e => by cases e; exact wX2_neighbours_75 C h0 hf kr) _ _ _ hw (lv_sub hl [2, 3, 1, 0] rfl)
theorem ctX2_neighbours (l : Launch) {σ : sn_S} {q0 : Nat} {x1 : Int32} (h0 : sn_isX2 q0) {o : Int32} (hf : fX2_neighbours σ q0 x1 = some o) : sn_M l yX2_neighbours cX2_neighbours 4 (some .int) rmX2_neighbours layC (fun ad => [.ref (ad q0), .int x1]) σ (some (fun _ => .int o)) σ :=
  sn_met (by decide) (fun _ => Nat.le_of_ble_eq_true rfl) (fun p e s m args below meth c ls D ct ad A C hw hl => wX2_neighbours_in C h0 hf (fun H locs ls pc hw ok hd => sn_iret C hw hd) _ _ _ hw hl)
-- X2_act
abbrev rmX2_act : Room := { frames := 0, cells := 0, slots := 0, locals := 0 }
def fX2_act (σ : sn_S) (q0 : Nat) (x1 : Int32) (x2 : Int32) (x3 : Int32) : Option (Int32 × sn_S) :=
  (sn_gd (sn_in (9 : Int32) 11) (sn_lt (sn_I σ (q0 + 1) (9 : Int32).toNatClampNeg) fun y_2 => (if y_2 < (40 : Int32) then
  (sn_gd (sn_in ((3 : Int32) * y_2) 120) (sn_lt (sn_pI σ (q0 + 6) ((3 : Int32) * y_2).toNatClampNeg x1) fun σ_6 => (sn_gd (sn_in (((3 : Int32) * y_2) + (1 : Int32)) 120) (sn_lt (sn_pI σ_6 (q0 + 6) (((3 : Int32) * y_2) + (1 : Int32)).toNatClampNeg x2) fun σ_9 => (sn_gd (sn_in (((3 : Int32) * y_2) + (2 : Int32)) 120) (sn_lt (sn_pI σ_9 (q0 + 6) (((3 : Int32) * y_2) + (2 : Int32)).toNatClampNeg x3) fun σ_12 => (sn_gd (sn_in (9 : Int32) 11) (sn_lt (sn_pI σ_12 (q0 + 1) (9 : Int32).toNatClampNeg (y_2 + (1 : Int32))) fun σ_15 => (sn_gd (sn_b01 (1 : Int32)) (some ((1 : Int32), σ_15)))))))))))
  else
  (sn_gd (sn_b01 (0 : Int32)) (some ((0 : Int32), σ))))))
theorem wX2_act_in (C : sn_C p s m args meth c RX2 cX2_act 5 (some .boolean) D ct ad layC A) {σ : sn_S} {q0 : Nat} {x1 : Int32} {x2 : Int32} {x3 : Int32} (h0 : sn_isX2 q0) {o : (Int32 × sn_S)} (hf : fX2_act σ q0 x1 x2 x3 = some o) (kr : sn_Kr p l e rmX2_act s m args below meth c Q D ct ad layC A cX2_act .ireturn (sn_b01 o.1) o.2 [.int o.1]) : sn_At p l e rmX2_act s m args below meth c Q D ct ad layC A 5 σ 0 [(0, .ref (ad q0)), (1, .int x1), (2, .int x2), (3, .int x3)] [] := by
  intro H locs ls hw hl
  have hx := C.1
  have hb := C.2.1
  unfold fX2_act at hf
  refine lv_aload_n hx hb dX2_act_0 rfl (lv_at hl 0 rfl) ?_
  refine sn_getC (r := (q0 + 1)) C hw fd_RX2_9 (sn_look h0 (k := 0) rfl) rfl dX2_act_1 ?_
  refine lv_bipush (v := 9) hx hb dX2_act_4 (by decide) ?_
  obtain ⟨g_1, hf⟩ := sn_gdE hf
  refine sn_iald C hw (sn_look h0 (k := 1) rfl) g_1 dX2_act_6 ?_
  obtain ⟨y_2, e_3, hf⟩ := sn_ltE hf
  refine lv_topi (fun y_2_ e_3_ => ?_)
  obtain rfl : y_2 = y_2_ := e_3.trans e_3_.symm
  refine lv_istore (lv' := [(4, .int y_2), (0, .ref (ad q0)), (1, .int x1), (2, .int x2), (3, .int x3)]) hx hb dX2_act_7 hl (by decide) rfl (fun ls hl => ?_)
  refine lv_iload hx hb dX2_act_9 (lv_at hl 0 rfl) ?_
  refine lv_bipush (v := 40) hx hb dX2_act_11 (by decide) ?_
  refine lv_icmp_lt (tgt := 18) hx hb dX2_act_13 (by decide) (fun c_4 => ?_) (fun c_4 => ?_)
  · have hf := sn_if c_4 hf
    refine lv_aload_n hx hb dX2_act_18 rfl (lv_at hl 1 rfl) ?_
    refine sn_getC (r := (q0 + 6)) C hw fd_RX2_27 (sn_look h0 (k := 0) rfl) rfl dX2_act_19 ?_
    refine lv_iconst (v := 3) hx hb dX2_act_22 rfl ?_
    refine lv_iload hx hb dX2_act_23 (lv_at hl 0 rfl) ?_
    refine lv_imul hx hb dX2_act_25 ?_
    refine lv_iload_n hx hb dX2_act_26 rfl (lv_at hl 2 rfl) ?_
    obtain ⟨g_5, hf⟩ := sn_gdE hf
    refine sn_iast C hw (sn_look h0 (k := 6) rfl) g_5 dX2_act_27 (fun H locs hw => ?_)
    obtain ⟨σ_6, e_7, hf⟩ := sn_ltE hf
    rw [← e_7] at hw
    refine lv_aload_n hx hb dX2_act_28 rfl (lv_at hl 1 rfl) ?_
    refine sn_getC (r := (q0 + 6)) C hw fd_RX2_27 (sn_look h0 (k := 0) rfl) rfl dX2_act_29 ?_
    refine lv_iconst (v := 3) hx hb dX2_act_32 rfl ?_
    refine lv_iload hx hb dX2_act_33 (lv_at hl 0 rfl) ?_
    refine lv_imul hx hb dX2_act_35 ?_
    refine lv_iconst (v := 1) hx hb dX2_act_36 rfl ?_
    refine lv_iadd hx hb dX2_act_37 ?_
    refine lv_iload_n hx hb dX2_act_38 rfl (lv_at hl 3 rfl) ?_
    obtain ⟨g_8, hf⟩ := sn_gdE hf
    refine sn_iast C hw (sn_look h0 (k := 6) rfl) g_8 dX2_act_39 (fun H locs hw => ?_)
    obtain ⟨σ_9, e_10, hf⟩ := sn_ltE hf
    rw [← e_10] at hw
    refine lv_aload_n hx hb dX2_act_40 rfl (lv_at hl 1 rfl) ?_
    refine sn_getC (r := (q0 + 6)) C hw fd_RX2_27 (sn_look h0 (k := 0) rfl) rfl dX2_act_41 ?_
    refine lv_iconst (v := 3) hx hb dX2_act_44 rfl ?_
    refine lv_iload hx hb dX2_act_45 (lv_at hl 0 rfl) ?_
    refine lv_imul hx hb dX2_act_47 ?_
    refine lv_iconst (v := 2) hx hb dX2_act_48 rfl ?_
    refine lv_iadd hx hb dX2_act_49 ?_
    refine lv_iload_n hx hb dX2_act_50 rfl (lv_at hl 4 rfl) ?_
    obtain ⟨g_11, hf⟩ := sn_gdE hf
    refine sn_iast C hw (sn_look h0 (k := 6) rfl) g_11 dX2_act_51 (fun H locs hw => ?_)
    obtain ⟨σ_12, e_13, hf⟩ := sn_ltE hf
    rw [← e_13] at hw
    refine lv_aload_n hx hb dX2_act_52 rfl (lv_at hl 1 rfl) ?_
    refine sn_getC (r := (q0 + 1)) C hw fd_RX2_9 (sn_look h0 (k := 0) rfl) rfl dX2_act_53 ?_
    refine lv_bipush (v := 9) hx hb dX2_act_56 (by decide) ?_
    refine lv_iload hx hb dX2_act_58 (lv_at hl 0 rfl) ?_
    refine lv_iconst (v := 1) hx hb dX2_act_60 rfl ?_
    refine lv_iadd hx hb dX2_act_61 ?_
    obtain ⟨g_14, hf⟩ := sn_gdE hf
    refine sn_iast C hw (sn_look h0 (k := 1) rfl) g_14 dX2_act_62 (fun H locs hw => ?_)
    obtain ⟨σ_15, e_16, hf⟩ := sn_ltE hf
    rw [← e_16] at hw
    refine lv_iconst (v := 1) hx hb dX2_act_63 rfl ?_
    obtain ⟨g_17, hf⟩ := sn_gdE hf
    cases hf
    exact kr _ _ _ _ hw g_17 dX2_act_64
  · have hf := sn_el c_4 hf
    refine lv_iconst (v := 0) hx hb dX2_act_16 rfl ?_
    obtain ⟨g_18, hf⟩ := sn_gdE hf
    cases hf
    exact kr _ _ _ _ hw g_18 dX2_act_17
theorem ctX2_act (l : Launch) {σ : sn_S} {q0 : Nat} {x1 : Int32} {x2 : Int32} {x3 : Int32} (h0 : sn_isX2 q0) {o : (Int32 × sn_S)} (hf : fX2_act σ q0 x1 x2 x3 = some o) : sn_M l yX2_act cX2_act 5 (some .boolean) rmX2_act layC (fun ad => [.ref (ad q0), .int x1, .int x2, .int x3]) σ (some (fun _ => .int o.1)) o.2 :=
  sn_met (by decide) (fun _ => Nat.le_of_ble_eq_true rfl) (fun p e s m args below meth c ls D ct ad A C hw hl => wX2_act_in C h0 hf (fun H locs ls pc hw ok hd => sn_zret C hw ok hd) _ _ _ hw hl)
-- X3_counting
abbrev rmX3_counting : Room := { frames := 1, cells := 0, slots := 0, locals := 22 }
def fX3_counting (σ : sn_S) (q0 : Nat) (x1 : Int32) (x2 : Int32) (x3 : Int32) : Option Int32 :=
  ((fX2_window σ q0 x2).bind fun t_1 => (sn_lt (x3 &&& t_1) fun y_3 => (if x1 = (1 : Int32) then
  ((fX2_gustMinutes σ q0).bind fun t_6 => (some (y_3 &&& (t_6 ^^^ (-1 : Int32)))))
  else
  (some y_3))))
theorem wX3_counting_in (C : sn_C p s m args meth c RX3 cX3_counting 5 (some .int) D ct ad layC A) {σ : sn_S} {q0 : Nat} {x1 : Int32} {x2 : Int32} {x3 : Int32} (h0 : sn_isX2 q0) {o : Int32} (hf : fX3_counting σ q0 x1 x2 x3 = some o) (kr : sn_Kr p l e rmX3_counting s m args below meth c Q D ct ad layC A cX3_counting .ireturn (true) σ [.int o]) : sn_At p l e rmX3_counting s m args below meth c Q D ct ad layC A 5 σ 0 [(0, .ref (ad q0)), (1, .int x1), (2, .int x2), (3, .int x3)] [] := by
  intro H locs ls hw hl
  have hx := C.1
  have hb := C.2.1
  unfold fX3_counting at hf
  refine lv_iload_n hx hb dX3_counting_0 rfl (lv_at hl 3 rfl) ?_
  refine lv_aload_n hx hb dX3_counting_1 rfl (lv_at hl 0 rfl) ?_
  refine lv_iload_n hx hb dX3_counting_2 rfl (lv_at hl 2 rfl) ?_
  obtain ⟨t_1, h_2, hf⟩ := sn_bd hf
  refine sn_callVi (rest := [.int x3]) C hw (ctX2_window l h0 h_2) kl_RX3_54 (sn_look h0 (k := 0) rfl) rfl rfl rfl rfl (Nat.le_of_ble_eq_true rfl) dX3_counting_3 hl.1 (fun H locs hw => ?_)
  refine lv_iand hx hb dX3_counting_6 ?_
  obtain ⟨y_3, e_4, hf⟩ := sn_ltE hf
  refine lv_topi (fun y_3_ e_4_ => ?_)
  obtain rfl : y_3 = y_3_ := e_4.trans e_4_.symm
  refine lv_istore (lv' := [(4, .int y_3), (0, .ref (ad q0)), (1, .int x1), (2, .int x2), (3, .int x3)]) hx hb dX3_counting_7 hl (by decide) rfl (fun ls hl => ?_)
  refine lv_iload_n hx hb dX3_counting_9 rfl (lv_at hl 2 rfl) ?_
  refine lv_iconst (v := 1) hx hb dX3_counting_10 rfl ?_
  refine lv_icmp_ne (tgt := 26) hx hb dX3_counting_11 (by decide) (fun c_5 => ?_) (fun c_5 => ?_)
  · have hf := sn_el c_5 hf
    refine lv_iload hx hb dX3_counting_26 (lv_at hl 0 rfl) ?_
    cases hf
    exact kr _ _ _ _ hw rfl dX3_counting_28
  · have hf := sn_if c_5 hf
    refine lv_iload hx hb dX3_counting_14 (lv_at hl 0 rfl) ?_
    refine lv_aload_n hx hb dX3_counting_16 rfl (lv_at hl 1 rfl) ?_
    obtain ⟨t_6, h_7, hf⟩ := sn_bd hf
    refine sn_callVi (rest := [.int y_3]) C hw (ctX2_gustMinutes l h0 h_7) kl_RX3_57 (sn_look h0 (k := 0) rfl) rfl rfl rfl rfl (Nat.le_of_ble_eq_true rfl) dX3_counting_17 hl.1 (fun H locs hw => ?_)
    refine lv_iconst (v := (-1)) hx hb dX3_counting_20 rfl ?_
    refine lv_ixor hx hb dX3_counting_21 ?_
    refine lv_iand hx hb dX3_counting_22 ?_
    refine lv_goto (tgt := 28) hx hb dX3_counting_23 (by decide) ?_
    cases hf
    exact kr _ _ _ _ hw rfl dX3_counting_28
theorem ctX3_counting (l : Launch) {σ : sn_S} {q0 : Nat} {x1 : Int32} {x2 : Int32} {x3 : Int32} (h0 : sn_isX2 q0) {o : Int32} (hf : fX3_counting σ q0 x1 x2 x3 = some o) : sn_M l yX3_counting cX3_counting 5 (some .int) rmX3_counting layC (fun ad => [.ref (ad q0), .int x1, .int x2, .int x3]) σ (some (fun _ => .int o)) σ :=
  sn_met (by decide) (fun _ => Nat.le_of_ble_eq_true rfl) (fun p e s m args below meth c ls D ct ad A C hw hl => wX3_counting_in C h0 hf (fun H locs ls pc hw ok hd => sn_iret C hw hd) _ _ _ hw hl)
-- X8_lowestBit
abbrev rmX8_lowestBit : Room := { frames := 1, cells := 0, slots := 0, locals := 20 }
def fX8_lowestBit (x0 : Int32) : Option Int32 :=
  (if x0 = 0 then
  (some (-1 : Int32))
  else
  ((fJ6_bitCount_0f7a4 ((x0 &&& (-x0)) - (1 : Int32))).bind fun t_2 => (some t_2)))
theorem wX8_lowestBit_in (C : sn_C p s m args meth c RX8 cX8_lowestBit 1 (some .int) D ct ad layC A) {σ : sn_S} {x0 : Int32}  {o : Int32} (hf : fX8_lowestBit x0 = some o) (kr : sn_Kr p l e rmX8_lowestBit s m args below meth c Q D ct ad layC A cX8_lowestBit .ireturn (true) σ [.int o]) : sn_At p l e rmX8_lowestBit s m args below meth c Q D ct ad layC A 1 σ 0 [(0, .int x0)] [] := by
  intro H locs ls hw hl
  have hx := C.1
  have hb := C.2.1
  unfold fX8_lowestBit at hf
  refine lv_iload_n hx hb dX8_lowestBit_0 rfl (lv_at hl 0 rfl) ?_
  refine lv_if_ne (tgt := 8) hx hb dX8_lowestBit_1 (by decide) (fun c_1 => ?_) (fun c_1 => ?_)
  · have hf := sn_el c_1 hf
    refine lv_iload_n hx hb dX8_lowestBit_8 rfl (lv_at hl 0 rfl) ?_
    refine lv_iload_n hx hb dX8_lowestBit_9 rfl (lv_at hl 0 rfl) ?_
    refine lv_ineg hx hb dX8_lowestBit_10 ?_
    refine lv_iand hx hb dX8_lowestBit_11 ?_
    refine lv_iconst (v := 1) hx hb dX8_lowestBit_12 rfl ?_
    refine lv_isub hx hb dX8_lowestBit_13 ?_
    obtain ⟨t_2, h_3, hf⟩ := sn_bd hf
    refine sn_callSi (rest := []) C hw (ctJ6_bitCount_0f7a4 l  h_3) kl_RX8_165 rfl rfl rfl (Nat.le_of_ble_eq_true rfl) dX8_lowestBit_14 hl.1 (fun H locs hw => ?_)
    cases hf
    exact kr _ _ _ _ hw rfl dX8_lowestBit_17
  · have hf := sn_if c_1 hf
    refine lv_iconst (v := (-1)) hx hb dX8_lowestBit_4 rfl ?_
    refine lv_goto (tgt := 17) hx hb dX8_lowestBit_5 (by decide) ?_
    cases hf
    exact kr _ _ _ _ hw rfl dX8_lowestBit_17
theorem ctX8_lowestBit (l : Launch) {σ : sn_S} {x0 : Int32}  {o : Int32} (hf : fX8_lowestBit x0 = some o) : sn_M l yX8_lowestBit cX8_lowestBit 1 (some .int) rmX8_lowestBit layC (fun ad => [.int x0]) σ (some (fun _ => .int o)) σ :=
  sn_met (by decide) (fun _ => Nat.le_of_ble_eq_true rfl) (fun p e s m args below meth c ls D ct ad A C hw hl => wX8_lowestBit_in C  hf (fun H locs ls pc hw ok hd => sn_iret C hw hd) _ _ _ hw hl)
-- X3_claimBy
abbrev rmX3_claimBy : Room := { frames := 2, cells := 0, slots := 0, locals := 46 }
def fX3_claimBy (σ : sn_S) (q0 : Nat) (x1 : Int32) (x2 : Int32) (x3 : Int32) (x4 : Int32) : Option Int32 :=
  ((fX3_counting σ q0 x1 x2 x3).bind fun t_1 => ((fX2_ofPolicy σ q0 x2 (3 : Int32)).bind fun t_3 => (if t_1 = 0 then
  (some (0 : Int32))
  else
  (if x1 = (2 : Int32) then
  ((fJ6_bitCount_0f7a4 t_1).bind fun t_17 => (sn_lt (if t_17 < (3 : Int32) then t_17 else (3 : Int32)) fun y_19 => (some (t_3 * y_19))))
  else
  ((fX8_lowestBit t_1).bind fun t_7 => ((fX8_firstMinutes t_7).bind fun t_9 => ((fX2_window σ q0 x2).bind fun t_11 => (sn_lt (t_9 &&& t_11) fun y_13 => (if x1 = (3 : Int32) then
  (if (x4 &&& y_13) = 0 then
  (some t_3)
  else
  (some (t_3 / (2 : Int32))))
  else
  (some t_3))))))))))
theorem wX3_claimBy_in (C : sn_C p s m args meth c RX3 cX3_claimBy 8 (some .int) D ct ad layC A) {σ : sn_S} {q0 : Nat} {x1 : Int32} {x2 : Int32} {x3 : Int32} {x4 : Int32} (h0 : sn_isX2 q0) {o : Int32} (hf : fX3_claimBy σ q0 x1 x2 x3 x4 = some o) (kr : sn_Kr p l e rmX3_claimBy s m args below meth c Q D ct ad layC A cX3_claimBy .ireturn (true) σ [.int o]) : sn_At p l e rmX3_claimBy s m args below meth c Q D ct ad layC A 8 σ 0 [(0, .ref (ad q0)), (1, .int x1), (2, .int x2), (3, .int x3), (4, .int x4)] [] := by
  intro H locs ls hw hl
  have hx := C.1
  have hb := C.2.1
  unfold fX3_claimBy at hf
  refine lv_aload_n hx hb dX3_claimBy_0 rfl (lv_at hl 0 rfl) ?_
  refine lv_iload_n hx hb dX3_claimBy_1 rfl (lv_at hl 1 rfl) ?_
  refine lv_iload_n hx hb dX3_claimBy_2 rfl (lv_at hl 2 rfl) ?_
  refine lv_iload_n hx hb dX3_claimBy_3 rfl (lv_at hl 3 rfl) ?_
  obtain ⟨t_1, h_2, hf⟩ := sn_bd hf
  refine sn_callSi (rest := []) C hw (ctX3_counting l h0 h_2) kl_RX3_46 rfl rfl rfl (Nat.le_of_ble_eq_true rfl) dX3_claimBy_4 hl.1 (fun H locs hw => ?_)
  refine lv_istore (lv' := [(5, .int t_1), (0, .ref (ad q0)), (1, .int x1), (2, .int x2), (3, .int x3), (4, .int x4)]) hx hb dX3_claimBy_7 hl (by decide) rfl (fun ls hl => ?_)
  refine lv_aload_n hx hb dX3_claimBy_9 rfl (lv_at hl 1 rfl) ?_
  refine lv_iload_n hx hb dX3_claimBy_10 rfl (lv_at hl 3 rfl) ?_
  refine lv_iconst (v := 3) hx hb dX3_claimBy_11 rfl ?_
  obtain ⟨t_3, h_4, hf⟩ := sn_bd hf
  refine sn_callVi (rest := []) C hw (ctX2_ofPolicy l h0 h_4) kl_RX3_30 (sn_look h0 (k := 0) rfl) rfl rfl rfl rfl (Nat.le_of_ble_eq_true rfl) dX3_claimBy_12 hl.1 (fun H locs hw => ?_)
  refine lv_istore (lv' := [(6, .int t_3), (5, .int t_1), (0, .ref (ad q0)), (1, .int x1), (2, .int x2), (3, .int x3), (4, .int x4)]) hx hb dX3_claimBy_15 hl (by decide) rfl (fun ls hl => ?_)
  refine lv_iload hx hb dX3_claimBy_17 (lv_at hl 1 rfl) ?_
  refine lv_if_ne (tgt := 24) hx hb dX3_claimBy_19 (by decide) (fun c_5 => ?_) (fun c_5 => ?_)
  · have hf := sn_el c_5 hf
    refine lv_iload_n hx hb dX3_claimBy_24 rfl (lv_at hl 3 rfl) ?_
    refine lv_iconst (v := 2) hx hb dX3_claimBy_25 rfl ?_
    refine lv_icmp_ne (tgt := 42) hx hb dX3_claimBy_26 (by decide) (fun c_6 => ?_) (fun c_6 => ?_)
    · have hf := sn_el c_6 hf
      refine lv_iload hx hb dX3_claimBy_42 (lv_at hl 1 rfl) ?_
      obtain ⟨t_7, h_8, hf⟩ := sn_bd hf
      refine sn_callNi (rest := []) C hw (ctX8_lowestBit l  h_8) kl_RX3_50 rfl rfl rfl (Nat.le_of_ble_eq_true rfl) dX3_claimBy_44 hl.1 (fun H locs hw => ?_)
      obtain ⟨t_9, h_10, hf⟩ := sn_bd hf
      refine sn_callNi (rest := []) C hw (ctX8_firstMinutes l  h_10) kl_RX3_71 rfl rfl rfl (Nat.le_of_ble_eq_true rfl) dX3_claimBy_47 hl.1 (fun H locs hw => ?_)
      refine lv_aload_n hx hb dX3_claimBy_50 rfl (lv_at hl 2 rfl) ?_
      refine lv_iload_n hx hb dX3_claimBy_51 rfl (lv_at hl 4 rfl) ?_
      obtain ⟨t_11, h_12, hf⟩ := sn_bd hf
      refine sn_callVi (rest := [.int t_9]) C hw (ctX2_window l h0 h_12) kl_RX3_54 (sn_look h0 (k := 0) rfl) rfl rfl rfl rfl (Nat.le_of_ble_eq_true rfl) dX3_claimBy_52 hl.1 (fun H locs hw => ?_)
      refine lv_iand hx hb dX3_claimBy_55 ?_
      obtain ⟨y_13, e_14, hf⟩ := sn_ltE hf
      refine lv_topi (fun y_13_ e_14_ => ?_)
      obtain rfl : y_13 = y_13_ := e_14.trans e_14_.symm
      refine lv_istore (lv' := [(7, .int y_13), (6, .int t_3), (5, .int t_1), (0, .ref (ad q0)), (1, .int x1), (2, .int x2), (3, .int x3), (4, .int x4)]) hx hb dX3_claimBy_56 hl (by decide) rfl (fun ls hl => ?_)
      refine lv_iload_n hx hb dX3_claimBy_58 rfl (lv_at hl 4 rfl) ?_
      refine lv_iconst (v := 3) hx hb dX3_claimBy_59 rfl ?_
      refine lv_icmp_ne (tgt := 78) hx hb dX3_claimBy_60 (by decide) (fun c_15 => ?_) (fun c_15 => ?_)
      · have hf := sn_el c_15 hf
        refine lv_iload hx hb dX3_claimBy_78 (lv_at hl 1 rfl) ?_
        cases hf
        exact kr _ _ _ _ hw rfl dX3_claimBy_80
      · have hf := sn_if c_15 hf
        refine lv_iload hx hb dX3_claimBy_63 (lv_at hl 7 rfl) ?_
        refine lv_iload hx hb dX3_claimBy_65 (lv_at hl 0 rfl) ?_
        refine lv_iand hx hb dX3_claimBy_67 ?_
        refine lv_if_eq (tgt := 78) hx hb dX3_claimBy_68 (by decide) (fun c_16 => ?_) (fun c_16 => ?_)
        · have hf := sn_if c_16 hf
          refine lv_iload hx hb dX3_claimBy_78 (lv_at hl 1 rfl) ?_
          cases hf
          exact kr _ _ _ _ hw rfl dX3_claimBy_80
        · have hf := sn_el c_16 hf
          refine lv_iload hx hb dX3_claimBy_71 (lv_at hl 1 rfl) ?_
          refine lv_iconst (v := 2) hx hb dX3_claimBy_73 rfl ?_
          refine lv_idiv hx hb dX3_claimBy_74 (by decide) ?_
          refine lv_goto (tgt := 80) hx hb dX3_claimBy_75 (by decide) ?_
          cases hf
          exact kr _ _ _ _ hw rfl dX3_claimBy_80
    · have hf := sn_if c_6 hf
      refine lv_iload hx hb dX3_claimBy_29 (lv_at hl 0 rfl) ?_
      refine lv_iconst (v := 3) hx hb dX3_claimBy_31 rfl ?_
      refine lv_iload hx hb dX3_claimBy_32 (lv_at hl 1 rfl) ?_
      obtain ⟨t_17, h_18, hf⟩ := sn_bd hf
      refine sn_callSi (rest := [.int (3 : Int32), .int t_3]) C hw (ctJ6_bitCount_0f7a4 l  h_18) kl_RX3_61 rfl rfl rfl (Nat.le_of_ble_eq_true rfl) dX3_claimBy_34 hl.1 (fun H locs hw => ?_)
      refine va_mmin hx hb (C.2.2.1.trans hl.1.symm) C.2.2.2.1 (C.2.2.2.2.1 _ km_RX3_66) (C.2.2.2.2.1 _ kst_minI) (C.2.2.2.2.1 _ ki_Math) (C.2.2.2.2.1 _ kc_minI) (Nat.le_of_ble_eq_true rfl) (Nat.le_of_ble_eq_true rfl) (Nat.zero_le _) (Nat.zero_le _) dX3_claimBy_37 ?_
      obtain ⟨y_19, e_20, hf⟩ := sn_ltE hf
      refine lv_topi (fun y_19_ e_20_ => ?_)
      obtain rfl : y_19 = y_19_ := e_20.trans e_20_.symm
      refine lv_imul hx hb dX3_claimBy_40 ?_
      cases hf
      exact kr _ _ _ _ hw rfl dX3_claimBy_41
  · have hf := sn_if c_5 hf
    refine lv_iconst (v := 0) hx hb dX3_claimBy_22 rfl ?_
    cases hf
    exact kr _ _ _ _ hw rfl dX3_claimBy_23
theorem ctX3_claimBy (l : Launch) {σ : sn_S} {q0 : Nat} {x1 : Int32} {x2 : Int32} {x3 : Int32} {x4 : Int32} (h0 : sn_isX2 q0) {o : Int32} (hf : fX3_claimBy σ q0 x1 x2 x3 x4 = some o) : sn_M l yX3_claimBy cX3_claimBy 8 (some .int) rmX3_claimBy layC (fun ad => [.ref (ad q0), .int x1, .int x2, .int x3, .int x4]) σ (some (fun _ => .int o)) σ :=
  sn_met (by decide) (fun _ => Nat.le_of_ble_eq_true rfl) (fun p e s m args below meth c ls D ct ad A C hw hl => wX3_claimBy_in C h0 hf (fun H locs ls pc hw ok hd => sn_iret C hw hd) _ _ _ hw hl)
-- X3_reckon
abbrev rmX3_reckon : Room := { frames := 3, cells := 0, slots := 0, locals := 73 }
def BX3_reckon_115 (σ : sn_S) (q0 : Nat) (q1 : Nat) (q2 : Nat) : Option (sn_S) :=
  (some σ)
def BX3_reckon_24 (σ : sn_S) (q0 : Nat) (q1 : Nat) (q2 : Nat) (x3 : Int32) (x4 : Int32) : Option ((sn_S × Int32) ⊕ (sn_S)) :=
  (if (sn_I σ q0 2) ≤ x4 then
  (some (.inr (σ)))
  else
  ((fX2_ofPolicy σ q1 x4 (0 : Int32)).bind fun t_2 => (sn_gd (sn_in t_2 6) (sn_lt (sn_I σ (q2 + 10) t_2.toNatClampNeg) fun y_5 => ((fX2_ofPolicy σ q1 x4 (4 : Int32)).bind fun t_7 => (sn_lt (sn_pI σ q0 3 ((sn_I σ q0 3) + t_7)) fun σ_9 => (sn_gd (sn_in t_2 6) ((fX3_claimBy σ_9 q1 x3 x4 y_5 (sn_I σ_9 (q2 + 4) t_2.toNatClampNeg)).bind fun t_12 => (sn_gd (sn_in x4 6) (sn_lt (sn_pI σ_9 (q0 + 1) x4.toNatClampNeg t_12) fun σ_15 => ((fX3_counting σ_15 q1 x3 x4 y_5).bind fun t_17 => ((fX8_lowestBit t_17).bind fun t_19 => (sn_gd (sn_in x4 6) (sn_lt (sn_pI σ_15 (q0 + 2) x4.toNatClampNeg t_19) fun σ_22 => (sn_lt (x4 + 1) fun y_24 => (some (.inl (σ_22, y_24))))))))))))))))))
def LX3_reckon_24 (q0 : Nat) (q1 : Nat) (q2 : Nat) (x3 : Int32) (s : sn_S × Int32) : Option ((sn_S × Int32) ⊕ (sn_S)) := BX3_reckon_24 s.1 q0 q1 q2 x3 s.2
def fX3_reckon (σ : sn_S) (q0 : Nat) (q1 : Nat) (q2 : Nat) (x3 : Int32) : Option sn_S :=
  (sn_gd (sn_in (8 : Int32) 11) (sn_lt (sn_pI σ q0 2 (sn_I σ (q1 + 1) (8 : Int32).toNatClampNeg)) fun σ_2 => (sn_gd (sn_in (3 : Int32) 11) (sn_lt (sn_pI σ_2 q0 3 (sn_I σ_2 (q1 + 1) (3 : Int32).toNatClampNeg)) fun σ_5 => ((sn_it (LX3_reckon_24 q0 q1 q2 x3) 5000 (σ_5, (0 : Int32))).bind fun t_7 => (BX3_reckon_115 t_7 q0 q1 q2))))))
theorem wX3_reckon_115 (C : sn_C p s m args meth c RX3 cX3_reckon 7 none D ct ad layC A) {σ : sn_S} {q0 : Nat} {q1 : Nat} {q2 : Nat} (h0 : sn_isX3 q0) (h1 : sn_isX2 q1) (h2 : sn_isX0 q2) {o : sn_S} (hf : BX3_reckon_115 σ q0 q1 q2 = some o) (kr : sn_Kr p l e rmX3_reckon s m args below meth c Q D ct ad layC A cX3_reckon .return_ (true) o []) : sn_At p l e rmX3_reckon s m args below meth c Q D ct ad layC A 7 σ 115 [] [] := by
  intro H locs ls hw hl
  have hx := C.1
  have hb := C.2.1
  unfold BX3_reckon_115 at hf
  cases hf
  exact kr _ _ _ _ hw rfl dX3_reckon_115
theorem wX3_reckon_24 (C : sn_C p s m args meth c RX3 cX3_reckon 7 none D ct ad layC A) {σ : sn_S} {q0 : Nat} {q1 : Nat} {q2 : Nat} {x3 : Int32} {x4 : Int32} (h0 : sn_isX3 q0) (h1 : sn_isX2 q1) (h2 : sn_isX0 q2) {o : (sn_S × Int32) ⊕ (sn_S)} (hf : BX3_reckon_24 σ q0 q1 q2 x3 x4 = some o) (kc : ∀ v, o = .inl v → sn_At p l e rmX3_reckon s m args below meth c Q D ct ad layC A 7 v.1 24 [(0, .ref (ad q0)), (1, .ref (ad q1)), (2, .ref (ad q2)), (3, .int x3), (4, .int v.2)] []) (kx : ∀ v, o = .inr v → sn_At p l e rmX3_reckon s m args below meth c Q D ct ad layC A 7 v 115 [] []) : sn_At p l e rmX3_reckon s m args below meth c Q D ct ad layC A 7 σ 24 [(0, .ref (ad q0)), (1, .ref (ad q1)), (2, .ref (ad q2)), (3, .int x3), (4, .int x4)] [] := by
  intro H locs ls hw hl
  have hx := C.1
  have hb := C.2.1
  unfold BX3_reckon_24 at hf
  refine lv_iload hx hb dX3_reckon_24 (lv_at hl 4 rfl) ?_
  refine lv_aload_n hx hb dX3_reckon_26 rfl (lv_at hl 0 rfl) ?_
  refine sn_getI C hw fd_RX3_23 (sn_look h0 (k := 0) rfl) rfl dX3_reckon_27 ?_
  refine lv_icmp_ge (tgt := 115) hx hb dX3_reckon_30 (by decide) (fun c_1 => ?_) (fun c_1 => ?_)
  · have hf := sn_if c_1 hf
    cases hf
    exact kx _ rfl _ _ _ hw (lv_sub hl [] rfl)
  · have hf := sn_el c_1 hf
    refine lv_aload_n hx hb dX3_reckon_33 rfl (lv_at hl 1 rfl) ?_
    refine lv_iload hx hb dX3_reckon_34 (lv_at hl 4 rfl) ?_
    refine lv_iconst (v := 0) hx hb dX3_reckon_36 rfl ?_
    obtain ⟨t_2, h_3, hf⟩ := sn_bd hf
    refine sn_callVi (rest := []) C hw (ctX2_ofPolicy l h1 h_3) kl_RX3_30 (sn_look h1 (k := 0) rfl) rfl rfl rfl rfl (Nat.le_of_ble_eq_true rfl) dX3_reckon_37 hl.1 (fun H locs hw => ?_)
    refine lv_istore (lv' := [(5, .int t_2), (0, .ref (ad q0)), (1, .ref (ad q1)), (2, .ref (ad q2)), (3, .int x3), (4, .int x4)]) hx hb dX3_reckon_40 hl (by decide) rfl (fun ls hl => ?_)
    refine lv_aload_n hx hb dX3_reckon_42 rfl (lv_at hl 3 rfl) ?_
    refine sn_getC (r := (q2 + 10)) C hw fd_RX3_34 (sn_look h2 (k := 0) rfl) rfl dX3_reckon_43 ?_
    refine lv_iload hx hb dX3_reckon_46 (lv_at hl 0 rfl) ?_
    obtain ⟨g_4, hf⟩ := sn_gdE hf
    refine sn_iald C hw (sn_look h2 (k := 10) rfl) g_4 dX3_reckon_48 ?_
    obtain ⟨y_5, e_6, hf⟩ := sn_ltE hf
    refine lv_topi (fun y_5_ e_6_ => ?_)
    obtain rfl : y_5 = y_5_ := e_6.trans e_6_.symm
    refine lv_istore (lv' := [(6, .int y_5), (5, .int t_2), (0, .ref (ad q0)), (1, .ref (ad q1)), (2, .ref (ad q2)), (3, .int x3), (4, .int x4)]) hx hb dX3_reckon_49 hl (by decide) rfl (fun ls hl => ?_)
    refine lv_aload_n hx hb dX3_reckon_51 rfl (lv_at hl 2 rfl) ?_
    refine lv_dup hx hb dX3_reckon_52 rfl ?_
    refine sn_getI C hw fd_RX3_27 (sn_look h0 (k := 0) rfl) rfl dX3_reckon_53 ?_
    refine lv_aload_n hx hb dX3_reckon_56 rfl (lv_at hl 3 rfl) ?_
    refine lv_iload hx hb dX3_reckon_57 (lv_at hl 6 rfl) ?_
    refine lv_iconst (v := 4) hx hb dX3_reckon_59 rfl ?_
    obtain ⟨t_7, h_8, hf⟩ := sn_bd hf
    refine sn_callVi (rest := [.int (sn_I σ q0 3), .ref (ad q0)]) C hw (ctX2_ofPolicy l h1 h_8) kl_RX3_30 (sn_look h1 (k := 0) rfl) rfl rfl rfl rfl (Nat.le_of_ble_eq_true rfl) dX3_reckon_60 hl.1 (fun H locs hw => ?_)
    refine lv_iadd hx hb dX3_reckon_63 ?_
    refine sn_putI C hw fp_RX3_27 (sn_look h0 (k := 0) rfl) rfl dX3_reckon_64 (fun H locs hw => ?_)
    obtain ⟨σ_9, e_10, hf⟩ := sn_ltE hf
    rw [← e_10] at hw
    refine lv_aload_n hx hb dX3_reckon_67 rfl (lv_at hl 2 rfl) ?_
    refine sn_getC (r := (q0 + 1)) C hw fd_RX3_9 (sn_look h0 (k := 0) rfl) rfl dX3_reckon_68 ?_
    refine lv_iload hx hb dX3_reckon_71 (lv_at hl 6 rfl) ?_
    refine lv_aload_n hx hb dX3_reckon_73 rfl (lv_at hl 3 rfl) ?_
    refine lv_iload_n hx hb dX3_reckon_74 rfl (lv_at hl 5 rfl) ?_
    refine lv_iload hx hb dX3_reckon_75 (lv_at hl 6 rfl) ?_
    refine lv_iload hx hb dX3_reckon_77 (lv_at hl 0 rfl) ?_
    refine lv_aload_n hx hb dX3_reckon_79 rfl (lv_at hl 4 rfl) ?_
    refine sn_getC (r := (q2 + 4)) C hw fd_RX3_39 (sn_look h2 (k := 0) rfl) rfl dX3_reckon_80 ?_
    refine lv_iload hx hb dX3_reckon_83 (lv_at hl 1 rfl) ?_
    obtain ⟨g_11, hf⟩ := sn_gdE hf
    refine sn_iald C hw (sn_look h2 (k := 4) rfl) g_11 dX3_reckon_85 ?_
    obtain ⟨t_12, h_13, hf⟩ := sn_bd hf
    refine sn_callSi (rest := [.int x4, .ref (ad (q0 + 1))]) C hw (ctX3_claimBy l h1 h_13) kl_RX3_42 rfl rfl rfl (Nat.le_of_ble_eq_true rfl) dX3_reckon_86 hl.1 (fun H locs hw => ?_)
    obtain ⟨g_14, hf⟩ := sn_gdE hf
    refine sn_iast C hw (sn_look h0 (k := 1) rfl) g_14 dX3_reckon_89 (fun H locs hw => ?_)
    obtain ⟨σ_15, e_16, hf⟩ := sn_ltE hf
    rw [← e_16] at hw
    refine lv_aload_n hx hb dX3_reckon_90 rfl (lv_at hl 2 rfl) ?_
    refine sn_getC (r := (q0 + 2)) C hw fd_RX3_15 (sn_look h0 (k := 0) rfl) rfl dX3_reckon_91 ?_
    refine lv_iload hx hb dX3_reckon_94 (lv_at hl 6 rfl) ?_
    refine lv_aload_n hx hb dX3_reckon_96 rfl (lv_at hl 3 rfl) ?_
    refine lv_iload_n hx hb dX3_reckon_97 rfl (lv_at hl 5 rfl) ?_
    refine lv_iload hx hb dX3_reckon_98 (lv_at hl 6 rfl) ?_
    refine lv_iload hx hb dX3_reckon_100 (lv_at hl 0 rfl) ?_
    obtain ⟨t_17, h_18, hf⟩ := sn_bd hf
    refine sn_callSi (rest := [.int x4, .ref (ad (q0 + 2))]) C hw (ctX3_counting l h1 h_18) kl_RX3_46 rfl rfl rfl (Nat.le_of_ble_eq_true rfl) dX3_reckon_102 hl.1 (fun H locs hw => ?_)
    obtain ⟨t_19, h_20, hf⟩ := sn_bd hf
    refine sn_callNi (rest := [.int x4, .ref (ad (q0 + 2))]) C hw (ctX8_lowestBit l  h_20) kl_RX3_50 rfl rfl rfl (Nat.le_of_ble_eq_true rfl) dX3_reckon_105 hl.1 (fun H locs hw => ?_)
    obtain ⟨g_21, hf⟩ := sn_gdE hf
    refine sn_iast C hw (sn_look h0 (k := 2) rfl) g_21 dX3_reckon_108 (fun H locs hw => ?_)
    obtain ⟨σ_22, e_23, hf⟩ := sn_ltE hf
    rw [← e_23] at hw
    obtain ⟨y_24, e_25, hf⟩ := sn_ltE hf
    refine lv_iinc (v := y_24) (lv' := [(4, .int y_24), (6, .int y_5), (5, .int t_2), (0, .ref (ad q0)), (1, .ref (ad q1)), (2, .ref (ad q2)), (3, .int x3)]) hx hb dX3_reckon_109 hl (k := 6) rfl (by rw [e_25]; rfl) (by decide) rfl (fun ls hl => ?_)
    refine lv_goto (tgt := 24) hx hb dX3_reckon_112 (by decide) ?_
    cases hf
    exact kc _ rfl _ _ _ hw (lv_sub hl [3, 4, 5, 6, 0] rfl)
theorem wX3_reckon_L24 (C : sn_C p s m args meth c RX3 cX3_reckon 7 none D ct ad layC A) {q0 : Nat} {q1 : Nat} {q2 : Nat} {x3 : Int32}  (h0 : sn_isX3 q0) (h1 : sn_isX2 q1) (h2 : sn_isX0 q2) {z : sn_S × Int32} {t : sn_S} (h : sn_it (LX3_reckon_24 q0 q1 q2 x3) 5000 z = some t) (kx : ∀ v, t = v → sn_At p l e rmX3_reckon s m args below meth c Q D ct ad layC A 7 v 115 [] []) : sn_At p l e rmX3_reckon s m args below meth c Q D ct ad layC A 7 z.1 24 [(0, .ref (ad q0)), (1, .ref (ad q1)), (2, .ref (ad q2)), (3, .int x3), (4, .int z.2)] [] :=
  sn_loop (f := LX3_reckon_24 q0 q1 q2 x3) (G := fun z => sn_At p l e rmX3_reckon s m args below meth c Q D ct ad layC A 7 z.1 24 [(0, .ref (ad q0)), (1, .ref (ad q1)), (2, .ref (ad q2)), (3, .int x3), (4, .int z.2)] []) (E := fun t => (∀ v, t = v → sn_At p l e rmX3_reckon s m args below meth c Q D ct ad layC A 7 v 115 [] []) ∧ True) (fun z o hf k1 k2 => wX3_reckon_24 C h0 h1 h2 hf (fun v e => k1 v e) (fun v e => (k2 _ e).1 v rfl)) 5000 z t h ⟨kx, trivial⟩
theorem wX3_reckon_in (C : sn_C p s m args meth c RX3 cX3_reckon 7 none D ct ad layC A) {σ : sn_S} {q0 : Nat} {q1 : Nat} {q2 : Nat} {x3 : Int32} (h0 : sn_isX3 q0) (h1 : sn_isX2 q1) (h2 : sn_isX0 q2) {o : sn_S} (hf : fX3_reckon σ q0 q1 q2 x3 = some o) (kr : sn_Kr p l e rmX3_reckon s m args below meth c Q D ct ad layC A cX3_reckon .return_ (true) o []) : sn_At p l e rmX3_reckon s m args below meth c Q D ct ad layC A 7 σ 0 [(0, .ref (ad q0)), (1, .ref (ad q1)), (2, .ref (ad q2)), (3, .int x3)] [] := by
  intro H locs ls hw hl
  have hx := C.1
  have hb := C.2.1
  unfold fX3_reckon at hf
  refine lv_aload_n hx hb dX3_reckon_0 rfl (lv_at hl 0 rfl) ?_
  refine lv_aload_n hx hb dX3_reckon_1 rfl (lv_at hl 1 rfl) ?_
  refine sn_getC (r := (q1 + 1)) C hw fd_RX3_18 (sn_look h1 (k := 0) rfl) rfl dX3_reckon_2 ?_
  refine lv_bipush (v := 8) hx hb dX3_reckon_5 (by decide) ?_
  obtain ⟨g_1, hf⟩ := sn_gdE hf
  refine sn_iald C hw (sn_look h1 (k := 1) rfl) g_1 dX3_reckon_7 ?_
  refine sn_putI C hw fp_RX3_23 (sn_look h0 (k := 0) rfl) rfl dX3_reckon_8 (fun H locs hw => ?_)
  obtain ⟨σ_2, e_3, hf⟩ := sn_ltE hf
  rw [← e_3] at hw
  refine lv_aload_n hx hb dX3_reckon_11 rfl (lv_at hl 0 rfl) ?_
  refine lv_aload_n hx hb dX3_reckon_12 rfl (lv_at hl 1 rfl) ?_
  refine sn_getC (r := (q1 + 1)) C hw fd_RX3_18 (sn_look h1 (k := 0) rfl) rfl dX3_reckon_13 ?_
  refine lv_iconst (v := 3) hx hb dX3_reckon_16 rfl ?_
  obtain ⟨g_4, hf⟩ := sn_gdE hf
  refine sn_iald C hw (sn_look h1 (k := 1) rfl) g_4 dX3_reckon_17 ?_
  refine sn_putI C hw fp_RX3_27 (sn_look h0 (k := 0) rfl) rfl dX3_reckon_18 (fun H locs hw => ?_)
  obtain ⟨σ_5, e_6, hf⟩ := sn_ltE hf
  rw [← e_6] at hw
  refine lv_iconst (v := 0) hx hb dX3_reckon_21 rfl ?_
  refine lv_istore (lv' := [(4, .int (0 : Int32)), (0, .ref (ad q0)), (1, .ref (ad q1)), (2, .ref (ad q2)), (3, .int x3)]) hx hb dX3_reckon_22 hl (by decide) rfl (fun ls hl => ?_)
  obtain ⟨t_7, h_8, hf⟩ := sn_bd hf
  exact wX3_reckon_L24 C h0 h1 h2 h_8 (fun v e => by cases e; exact wX3_reckon_115 C h0 h1 h2 hf kr) _ _ _ hw (lv_sub hl [1, 2, 3, 4, 0] rfl)
theorem ctX3_reckon (l : Launch) {σ : sn_S} {q0 : Nat} {q1 : Nat} {q2 : Nat} {x3 : Int32} (h0 : sn_isX3 q0) (h1 : sn_isX2 q1) (h2 : sn_isX0 q2) {o : sn_S} (hf : fX3_reckon σ q0 q1 q2 x3 = some o) : sn_M l yX3_reckon cX3_reckon 7 none rmX3_reckon layC (fun ad => [.ref (ad q0), .ref (ad q1), .ref (ad q2), .int x3]) σ none o :=
  sn_met (by decide) (fun _ => Nat.le_of_ble_eq_true rfl) (fun p e s m args below meth c ls D ct ad A C hw hl => wX3_reckon_in C h0 h1 h2 hf (fun H locs ls pc hw ok hd => sn_vret C hw hd) _ _ _ hw hl)
end
