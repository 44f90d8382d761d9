section
variable {p : Program} {l : Launch} {e : Env} {s : State} {m : MethodId} {args : Array Value} {below : List Frame} {meth : Method} {c : Code} {Q : State → Prop} {D : va_G} {ct : Nat → ClassId} {ad : Nat → Nat} {A : Nat → Prop} {lay : List sn_E}
-- X9_in
abbrev rmX9_in : Room := { frames := 0, cells := 0, slots := 0, locals := 0 }
def fX9_in (x0 : Int64) (x2 : Int64) (x4 : Int64) : Option Int32 :=
  (if (lg_cmp x0 x2) < 0 then
  (sn_gd (sn_b01 (0 : Int32)) (some (0 : Int32)))
  else
  (if 0 < (lg_cmp x0 x4) then
  (sn_gd (sn_b01 (0 : Int32)) (some (0 : Int32)))
  else
  (sn_gd (sn_b01 (1 : Int32)) (some (1 : Int32)))))
theorem wX9_in_in (C : sn_C p s m args meth c RX9 cX9_in 6 (some .boolean) D ct ad layM A) {σ : sn_S} {x0 : Int64} {x2 : Int64} {x4 : Int64}  {o : Int32} (hf : fX9_in x0 x2 x4 = some o) (kr : sn_Kr p l e rmX9_in s m args below meth c Q D ct ad layM A cX9_in .ireturn (sn_b01 o) σ [.int o]) : sn_At p l e rmX9_in s m args below meth c Q D ct ad layM A 6 σ 0 [(0, .long x0), (2, .long x2), (4, .long x4)] [] := by
  intro H locs ls hw hl
  have hx := C.1
  have hb := C.2.1
  unfold fX9_in at hf
  refine lv_lload_n hx hb dX9_in_0 rfl (lv_at hl 0 rfl) ?_
  refine lv_lload_n hx hb dX9_in_1 rfl (lv_at hl 1 rfl) ?_
  refine W.lcmp hx hb dX9_in_2 ?_
  refine lv_if_lt (tgt := 17) hx hb dX9_in_3 (by decide) (fun c_1 => ?_) (fun c_1 => ?_)
  · have hf := sn_if c_1 hf
    refine lv_iconst (v := 0) hx hb dX9_in_17 rfl ?_
    obtain ⟨g_2, hf⟩ := sn_gdE hf
    cases hf
    exact kr _ _ _ _ hw g_2 dX9_in_18
  · have hf := sn_el c_1 hf
    refine lv_lload_n hx hb dX9_in_6 rfl (lv_at hl 0 rfl) ?_
    refine lv_lload hx hb dX9_in_7 (lv_at hl 2 rfl) ?_
    refine W.lcmp hx hb dX9_in_9 ?_
    refine lv_if_gt (tgt := 17) hx hb dX9_in_10 (by decide) (fun c_3 => ?_) (fun c_3 => ?_)
    · have hf := sn_if c_3 hf
      refine lv_iconst (v := 0) hx hb dX9_in_17 rfl ?_
      obtain ⟨g_4, hf⟩ := sn_gdE hf
      cases hf
      exact kr _ _ _ _ hw g_4 dX9_in_18
    · have hf := sn_el c_3 hf
      refine lv_iconst (v := 1) hx hb dX9_in_13 rfl ?_
      refine lv_goto (tgt := 18) hx hb dX9_in_14 (by decide) ?_
      obtain ⟨g_5, hf⟩ := sn_gdE hf
      cases hf
      exact kr _ _ _ _ hw g_5 dX9_in_18
theorem ctX9_in (l : Launch) {σ : sn_S} {x0 : Int64} {x2 : Int64} {x4 : Int64}  {o : Int32} (hf : fX9_in x0 x2 x4 = some o) : sn_M l yX9_in cX9_in 6 (some .boolean) rmX9_in layM (fun ad => [.long x0, .long x2, .long x4]) σ (some (fun _ => .int o)) σ :=
  sn_met (by decide) (fun _ => Nat.le_of_ble_eq_true rfl) (fun p e s m args below meth c ls D ct ad A C hw hl => wX9_in_in C  hf (fun H locs ls pc hw ok hd => sn_zret C hw ok hd) _ _ _ hw hl)
-- X9_bits
abbrev rmX9_bits : Room := { frames := 0, cells := 0, slots := 0, locals := 0 }
def BX9_bits_24 (x1 : Int32) : Option (Int32) :=
  (some x1)
def BX9_bits_4 (x0 : Int32) (x1 : Int32) (x2 : Int32) : Option ((Int32 × Int32) ⊕ (Int32)) :=
  (if (30 : Int32) ≤ x2 then
  (some (.inr (x1)))
  else
  (sn_lt (x1 + ((x0 >>> (x2 &&& 31)) &&& (1 : Int32))) fun y_2 => (sn_lt (x2 + 1) fun y_4 => (some (.inl (y_2, y_4))))))
def LX9_bits_4 (x0 : Int32) (s : Int32 × Int32) : Option ((Int32 × Int32) ⊕ (Int32)) := BX9_bits_4 x0 s.1 s.2
def fX9_bits (x0 : Int32) : Option Int32 :=
  ((sn_it (LX9_bits_4 x0) 5000 ((0 : Int32), (0 : Int32))).bind fun t_1 => (BX9_bits_24 t_1))
theorem wX9_bits_24 (C : sn_C p s m args meth c RX9 cX9_bits 3 (some .int) D ct ad layM A) {σ : sn_S} {x1 : Int32}  {o : Int32} (hf : BX9_bits_24 x1 = some o) (kr : sn_Kr p l e rmX9_bits s m args below meth c Q D ct ad layM A cX9_bits .ireturn (true) σ [.int o]) : sn_At p l e rmX9_bits s m args below meth c Q D ct ad layM A 3 σ 24 [(1, .int x1)] [] := by
  intro H locs ls hw hl
  have hx := C.1
  have hb := C.2.1
  unfold BX9_bits_24 at hf
  refine lv_iload_n hx hb dX9_bits_24 rfl (lv_at hl 0 rfl) ?_
  cases hf
  exact kr _ _ _ _ hw rfl dX9_bits_25
theorem wX9_bits_4 (C : sn_C p s m args meth c RX9 cX9_bits 3 (some .int) D ct ad layM A) {σ : sn_S} {x0 : Int32} {x1 : Int32} {x2 : Int32}  {o : (Int32 × Int32) ⊕ (Int32)} (hf : BX9_bits_4 x0 x1 x2 = some o) (kc : ∀ v, o = .inl v → sn_At p l e rmX9_bits s m args below meth c Q D ct ad layM A 3 σ 4 [(0, .int x0), (1, .int v.1), (2, .int v.2)] []) (kx : ∀ v, o = .inr v → sn_At p l e rmX9_bits s m args below meth c Q D ct ad layM A 3 σ 24 [(1, .int v)] []) : sn_At p l e rmX9_bits s m args below meth c Q D ct ad layM A 3 σ 4 [(0, .int x0), (1, .int x1), (2, .int x2)] [] := by
  intro H locs ls hw hl
  have hx := C.1
  have hb := C.2.1
  unfold BX9_bits_4 at hf
  refine lv_iload_n hx hb dX9_bits_4 rfl (lv_at hl 2 rfl) ?_
  refine lv_bipush (v := 30) hx hb dX9_bits_5 (by decide) ?_
  refine lv_icmp_ge (tgt := 24) hx hb dX9_bits_7 (by decide) (fun c_1 => ?_) (fun c_1 => ?_)
  · have hf := sn_if c_1 hf
    cases hf
    exact kx _ rfl _ _ _ hw (lv_sub hl [1] rfl)
  · have hf := sn_el c_1 hf
    refine lv_iload_n hx hb dX9_bits_10 rfl (lv_at hl 1 rfl) ?_
    refine lv_iload_n hx hb dX9_bits_11 rfl (lv_at hl 0 rfl) ?_
    refine lv_iload_n hx hb dX9_bits_12 rfl (lv_at hl 2 rfl) ?_
    refine lv_ishr hx hb dX9_bits_13 ?_
    refine lv_iconst (v := 1) hx hb dX9_bits_14 rfl ?_
    refine lv_iand hx hb dX9_bits_15 ?_
    refine lv_iadd hx hb dX9_bits_16 ?_
    obtain ⟨y_2, e_3, hf⟩ := sn_ltE hf
    refine lv_topi (fun y_2_ e_3_ => ?_)
    obtain rfl : y_2 = y_2_ := e_3.trans e_3_.symm
    refine lv_istore_n (lv' := [(1, .int y_2), (0, .int x0), (2, .int x2)]) hx hb dX9_bits_17 rfl hl (by decide) rfl (fun ls hl => ?_)
    obtain ⟨y_4, e_5, hf⟩ := sn_ltE hf
    refine lv_iinc (v := y_4) (lv' := [(2, .int y_4), (1, .int y_2), (0, .int x0)]) hx hb dX9_bits_18 hl (k := 2) rfl (by rw [e_5]; rfl) (by decide) rfl (fun ls hl => ?_)
    refine lv_goto (tgt := 4) hx hb dX9_bits_21 (by decide) ?_
    cases hf
    exact kc _ rfl _ _ _ hw (lv_sub hl [2, 1, 0] rfl)
theorem wX9_bits_L4 (C : sn_C p s m args meth c RX9 cX9_bits 3 (some .int) D ct ad layM A) {σ : sn_S} {x0 : Int32}   {z : Int32 × Int32} {t : Int32} (h : sn_it (LX9_bits_4 x0) 5000 z = some t) (kx : ∀ v, t = v → sn_At p l e rmX9_bits s m args below meth c Q D ct ad layM A 3 σ 24 [(1, .int v)] []) : sn_At p l e rmX9_bits s m args below meth c Q D ct ad layM A 3 σ 4 [(0, .int x0), (1, .int z.1), (2, .int z.2)] [] :=
  sn_loop (f := LX9_bits_4 x0) (G := fun z => sn_At p l e rmX9_bits s m args below meth c Q D ct ad layM A 3 σ 4 [(0, .int x0), (1, .int z.1), (2, .int z.2)] []) (E := fun t => (∀ v, t = v → sn_At p l e rmX9_bits s m args below meth c Q D ct ad layM A 3 σ 24 [(1, .int v)] []) ∧ True) (fun z o hf k1 k2 => wX9_bits_4 C  hf (fun v e => k1 v e) (fun v e => (k2 _ e).1 v rfl)) 5000 z t h ⟨kx, trivial⟩
theorem wX9_bits_in (C : sn_C p s m args meth c RX9 cX9_bits 3 (some .int) D ct ad layM A) {σ : sn_S} {x0 : Int32}  {o : Int32} (hf : fX9_bits x0 = some o) (kr : sn_Kr p l e rmX9_bits s m args below meth c Q D ct ad layM A cX9_bits .ireturn (true) σ [.int o]) : sn_At p l e rmX9_bits s m args below meth c Q D ct ad layM A 3 σ 0 [(0, .int x0)] [] := by
  intro H locs ls hw hl
  have hx := C.1
  have hb := C.2.1
  unfold fX9_bits at hf
  refine lv_iconst (v := 0) hx hb dX9_bits_0 rfl ?_
  refine lv_istore_n (lv' := [(1, .int (0 : Int32)), (0, .int x0)]) hx hb dX9_bits_1 rfl hl (by decide) rfl (fun ls hl => ?_)
  refine lv_iconst (v := 0) hx hb dX9_bits_2 rfl ?_
  refine lv_istore_n (lv' := [(2, .int (0 : Int32)), (1, .int (0 : Int32)), (0, .int x0)]) hx hb dX9_bits_3 rfl hl (by decide) rfl (fun ls hl => ?_)
  obtain ⟨t_1, h_2, hf⟩ := sn_bd hf
  exact wX9_bits_L4 C  h_2 (fun v e => by cases e; exact wX9_bits_24 C  hf kr) _ _ _ hw (lv_sub hl [2, 1, 0] rfl)
theorem ctX9_bits (l : Launch) {σ : sn_S} {x0 : Int32}  {o : Int32} (hf : fX9_bits x0 = some o) : sn_M l yX9_bits cX9_bits 3 (some .int) rmX9_bits layM (fun ad => [.int x0]) σ (some (fun _ => .int o)) σ :=
  sn_met (by decide) (fun _ => Nat.le_of_ble_eq_true rfl) (fun p e s m args below meth c ls D ct ad A C hw hl => wX9_bits_in C  hf (fun H locs ls pc hw ok hd => sn_iret C hw hd) _ _ _ hw hl)
-- X9_bit
abbrev rmX9_bit : Room := { frames := 0, cells := 0, slots := 0, locals := 0 }
def fX9_bit (x0 : Int32) (x1 : Int32) : Option Int32 :=
  (some ((x0 >>> (x1 &&& 31)) &&& (1 : Int32)))
theorem wX9_bit_in (C : sn_C p s m args meth c RX9 cX9_bit 2 (some .int) D ct ad layM A) {σ : sn_S} {x0 : Int32} {x1 : Int32}  {o : Int32} (hf : fX9_bit x0 x1 = some o) (kr : sn_Kr p l e rmX9_bit s m args below meth c Q D ct ad layM A cX9_bit .ireturn (true) σ [.int o]) : sn_At p l e rmX9_bit s m args below meth c Q D ct ad layM A 2 σ 0 [(0, .int x0), (1, .int x1)] [] := by
  intro H locs ls hw hl
  have hx := C.1
  have hb := C.2.1
  unfold fX9_bit at hf
  refine lv_iload_n hx hb dX9_bit_0 rfl (lv_at hl 0 rfl) ?_
  refine lv_iload_n hx hb dX9_bit_1 rfl (lv_at hl 1 rfl) ?_
  refine lv_ishr hx hb dX9_bit_2 ?_
  refine lv_iconst (v := 1) hx hb dX9_bit_3 rfl ?_
  refine lv_iand hx hb dX9_bit_4 ?_
  cases hf
  exact kr _ _ _ _ hw rfl dX9_bit_5
theorem ctX9_bit (l : Launch) {σ : sn_S} {x0 : Int32} {x1 : Int32}  {o : Int32} (hf : fX9_bit x0 x1 = some o) : sn_M l yX9_bit cX9_bit 2 (some .int) rmX9_bit layM (fun ad => [.int x0, .int x1]) σ (some (fun _ => .int o)) σ :=
  sn_met (by decide) (fun _ => Nat.le_of_ble_eq_true rfl) (fun p e s m args below meth c ls D ct ad A C hw hl => wX9_bit_in C  hf (fun H locs ls pc hw ok hd => sn_iret C hw hd) _ _ _ hw hl)
-- X9_image
abbrev rmX9_image : Room := { frames := 1, cells := 0, slots := 0, locals := 25 }
def BX9_image_46 (σ : sn_S) (x1 : Int32) : Option ((Int32 × sn_S)) :=
  (sn_gd (sn_in x1 3) (sn_lt (sn_pI σ 3 x1.toNatClampNeg (vp_nar .boolean (1 : Int32))) fun σ_2 => (some ((0 : Int32), σ_2))))
def BX9_image_17 (σ : sn_S) (x1 : Int32) (x2 : Int32) : Option ((sn_S × Int32) ⊕ (sn_S)) :=
  (if (119 : Int32) ≤ x2 then
  (some (.inr (σ)))
  else
  (sn_gd (sn_in x2 119) (sn_gd (sn_in (((119 : Int32) * x1) + x2) 357) (sn_lt (sn_pI σ 2 (((119 : Int32) * x1) + x2).toNatClampNeg (sn_I σ 1 x2.toNatClampNeg)) fun σ_4 => (sn_lt (x2 + 1) fun y_6 => (some (.inl (σ_4, y_6))))))))
def LX9_image_17 (x1 : Int32) (s : sn_S × Int32) : Option ((sn_S × Int32) ⊕ (sn_S)) := BX9_image_17 s.1 x1 s.2
def fX9_image (σ : sn_S) (x1 : Int32) : Option (Int32 × sn_S) :=
  ((fX9_in x1.toInt64 (0 : Int64) (2 : Int64)).bind fun t_1 => (if t_1 = 0 then
  (some ((-2 : Int32), σ))
  else
  ((sn_it (LX9_image_17 x1) 5000 (σ, (0 : Int32))).bind fun t_4 => (BX9_image_46 t_4 x1))))
theorem wX9_image_46 (C : sn_C p s m args meth c RX9 cX9_image 3 (some .int) D ct ad layM A) {σ : sn_S} {x1 : Int32}  {o : (Int32 × sn_S)} (hf : BX9_image_46 σ x1 = some o) (kr : sn_Kr p l e rmX9_image s m args below meth c Q D ct ad layM A cX9_image .ireturn (true) o.2 [.int o.1]) : sn_At p l e rmX9_image s m args below meth c Q D ct ad layM A 3 σ 46 [(0, .ref (ad 0)), (1, .int x1)] [] := by
  intro H locs ls hw hl
  have hx := C.1
  have hb := C.2.1
  unfold BX9_image_46 at hf
  refine lv_aload_n hx hb dX9_image_46 rfl (lv_at hl 0 rfl) ?_
  refine sn_getC (r := 3) C hw fd_RX9_16 layM_0 rfl dX9_image_47 ?_
  refine lv_iload_n hx hb dX9_image_50 rfl (lv_at hl 1 rfl) ?_
  refine lv_iconst (v := 1) hx hb dX9_image_51 rfl ?_
  obtain ⟨g_1, hf⟩ := sn_gdE hf
  refine sn_zast C hw layM_3 g_1 dX9_image_52 (fun H locs hw => ?_)
  obtain ⟨σ_2, e_3, hf⟩ := sn_ltE hf
  rw [← e_3] at hw
  refine lv_iconst (v := 0) hx hb dX9_image_53 rfl ?_
  cases hf
  exact kr _ _ _ _ hw rfl dX9_image_54
theorem wX9_image_17 (C : sn_C p s m args meth c RX9 cX9_image 3 (some .int) D ct ad layM A) {σ : sn_S} {x1 : Int32} {x2 : Int32}  {o : (sn_S × Int32) ⊕ (sn_S)} (hf : BX9_image_17 σ x1 x2 = some o) (kc : ∀ v, o = .inl v → sn_At p l e rmX9_image s m args below meth c Q D ct ad layM A 3 v.1 17 [(0, .ref (ad 0)), (1, .int x1), (2, .int v.2)] []) (kx : ∀ v, o = .inr v → sn_At p l e rmX9_image s m args below meth c Q D ct ad layM A 3 v 46 [(0, .ref (ad 0)), (1, .int x1)] []) : sn_At p l e rmX9_image s m args below meth c Q D ct ad layM A 3 σ 17 [(0, .ref (ad 0)), (1, .int x1), (2, .int x2)] [] := by
  intro H locs ls hw hl
  have hx := C.1
  have hb := C.2.1
  unfold BX9_image_17 at hf
  refine lv_iload_n hx hb dX9_image_17 rfl (lv_at hl 2 rfl) ?_
  refine lv_bipush (v := 119) hx hb dX9_image_18 (by decide) ?_
  refine lv_icmp_ge (tgt := 46) hx hb dX9_image_20 (by decide) (fun c_1 => ?_) (fun c_1 => ?_)
  · have hf := sn_if c_1 hf
    cases hf
    exact kx _ rfl _ _ _ hw (lv_sub hl [0, 1] rfl)
  · have hf := sn_el c_1 hf
    refine lv_aload_n hx hb dX9_image_23 rfl (lv_at hl 0 rfl) ?_
    refine sn_getC (r := 2) C hw fd_RX9_13 layM_0 rfl dX9_image_24 ?_
    refine lv_bipush (v := 119) hx hb dX9_image_27 (by decide) ?_
    refine lv_iload_n hx hb dX9_image_29 rfl (lv_at hl 1 rfl) ?_
    refine lv_imul hx hb dX9_image_30 ?_
    refine lv_iload_n hx hb dX9_image_31 rfl (lv_at hl 2 rfl) ?_
    refine lv_iadd hx hb dX9_image_32 ?_
    refine lv_aload_n hx hb dX9_image_33 rfl (lv_at hl 0 rfl) ?_
    refine sn_getC (r := 1) C hw fd_RX9_9 layM_0 rfl dX9_image_34 ?_
    refine lv_iload_n hx hb dX9_image_37 rfl (lv_at hl 2 rfl) ?_
    obtain ⟨g_2, hf⟩ := sn_gdE hf
    refine sn_iald C hw layM_1 g_2 dX9_image_38 ?_
    obtain ⟨g_3, hf⟩ := sn_gdE hf
    refine sn_iast C hw layM_2 g_3 dX9_image_39 (fun H locs hw => ?_)
    obtain ⟨σ_4, e_5, hf⟩ := sn_ltE hf
    rw [← e_5] at hw
    obtain ⟨y_6, e_7, hf⟩ := sn_ltE hf
    refine lv_iinc (v := y_6) (lv' := [(2, .int y_6), (0, .ref (ad 0)), (1, .int x1)]) hx hb dX9_image_40 hl (k := 2) rfl (by rw [e_7]; rfl) (by decide) rfl (fun ls hl => ?_)
    refine lv_goto (tgt := 17) hx hb dX9_image_43 (by decide) ?_
    cases hf
    exact kc _ rfl _ _ _ hw (lv_sub hl [1, 2, 0] rfl)
theorem wX9_image_L17 (C : sn_C p s m args meth c RX9 cX9_image 3 (some .int) D ct ad layM A) {x1 : Int32}   {z : sn_S × Int32} {t : sn_S} (h : sn_it (LX9_image_17 x1) 5000 z = some t) (kx : ∀ v, t = v → sn_At p l e rmX9_image s m args below meth c Q D ct ad layM A 3 v 46 [(0, .ref (ad 0)), (1, .int x1)] []) : sn_At p l e rmX9_image s m args below meth c Q D ct ad layM A 3 z.1 17 [(0, .ref (ad 0)), (1, .int x1), (2, .int z.2)] [] :=
  sn_loop (f := LX9_image_17 x1) (G := fun z => sn_At p l e rmX9_image s m args below meth c Q D ct ad layM A 3 z.1 17 [(0, .ref (ad 0)), (1, .int x1), (2, .int z.2)] []) (E := fun t => (∀ v, t = v → sn_At p l e rmX9_image s m args below meth c Q D ct ad layM A 3 v 46 [(0, .ref (ad 0)), (1, .int x1)] []) ∧ True) (fun z o hf k1 k2 => wX9_image_17 C  hf (fun v e => k1 v e) (fun v e => (k2 _ e).1 v rfl)) 5000 z t h ⟨kx, trivial⟩
theorem wX9_image_in (C : sn_C p s m args meth c RX9 cX9_image 3 (some .int) D ct ad layM A) {σ : sn_S} {x1 : Int32}  {o : (Int32 × sn_S)} (hf : fX9_image σ x1 = some o) (kr : sn_Kr p l e rmX9_image s m args below meth c Q D ct ad layM A cX9_image .ireturn (true) o.2 [.int o.1]) : sn_At p l e rmX9_image s m args below meth c Q D ct ad layM A 3 σ 0 [(0, .ref (ad 0)), (1, .int x1)] [] := by
  intro H locs ls hw hl
  have hx := C.1
  have hb := C.2.1
  unfold fX9_image at hf
  refine lv_iload_n hx hb dX9_image_0 rfl (lv_at hl 1 rfl) ?_
  refine lv_i2l hx hb dX9_image_1 rfl ?_
  refine lv_lconst (v := 0) hx hb dX9_image_2 rfl ?_
  refine lv_ldc2 hx hb C.2.2.2.1 (C.2.2.2.2.1 _ kk_RX9_92) dX9_image_3 ?_
  obtain ⟨t_1, h_2, hf⟩ := sn_bd hf
  refine sn_callSi (rest := []) C hw (ctX9_in l  h_2) kl_RX9_94 rfl rfl rfl (Nat.le_of_ble_eq_true rfl) dX9_image_6 hl.1 (fun H locs hw => ?_)
  refine lv_if_ne (tgt := 15) hx hb dX9_image_9 (by decide) (fun c_3 => ?_) (fun c_3 => ?_)
  · have hf := sn_el c_3 hf
    refine lv_iconst (v := 0) hx hb dX9_image_15 rfl ?_
    refine lv_istore_n (lv' := [(2, .int (0 : Int32)), (0, .ref (ad 0)), (1, .int x1)]) hx hb dX9_image_16 rfl hl (by decide) rfl (fun ls hl => ?_)
    obtain ⟨t_4, h_5, hf⟩ := sn_bd hf
    exact wX9_image_L17 C  h_5 (fun v e => by cases e; exact wX9_image_46 C  hf kr) _ _ _ hw (lv_sub hl [1, 2, 0] rfl)
  · have hf := sn_if c_3 hf
    refine lv_bipush (v := (-2)) hx hb dX9_image_12 (by decide) ?_
    cases hf
    exact kr _ _ _ _ hw rfl dX9_image_14
theorem ctX9_image (l : Launch) {σ : sn_S} {x1 : Int32}  {o : (Int32 × sn_S)} (hf : fX9_image σ x1 = some o) : sn_M l yX9_image cX9_image 3 (some .int) rmX9_image layM (fun ad => [.ref (ad 0), .int x1]) σ (some (fun _ => .int o.1)) o.2 :=
  sn_met (by decide) (fun _ => Nat.le_of_ble_eq_true rfl) (fun p e s m args below meth c ls D ct ad A C hw hl => wX9_image_in C  hf (fun H locs ls pc hw ok hd => sn_iret C hw hd) _ _ _ hw hl)
-- X9_back
abbrev rmX9_back : Room := { frames := 1, cells := 0, slots := 0, locals := 25 }
def BX9_back_58 (σ : sn_S) : Option ((Int32 × sn_S)) :=
  (some ((0 : Int32), σ))
def BX9_back_29 (σ : sn_S) (x1 : Int32) (x2 : Int32) : Option ((sn_S × Int32) ⊕ (sn_S)) :=
  (if (119 : Int32) ≤ x2 then
  (some (.inr (σ)))
  else
  (sn_gd (sn_in (((119 : Int32) * x1) + x2) 357) (sn_gd (sn_in x2 119) (sn_lt (sn_pI σ 1 x2.toNatClampNeg (sn_I σ 2 (((119 : Int32) * x1) + x2).toNatClampNeg)) fun σ_4 => (sn_lt (x2 + 1) fun y_6 => (some (.inl (σ_4, y_6))))))))
def LX9_back_29 (x1 : Int32) (s : sn_S × Int32) : Option ((sn_S × Int32) ⊕ (sn_S)) := BX9_back_29 s.1 x1 s.2
def fX9_back (σ : sn_S) (x1 : Int32) : Option (Int32 × sn_S) :=
  ((fX9_in x1.toInt64 (0 : Int64) (2 : Int64)).bind fun t_1 => (if t_1 = 0 then
  (some ((-2 : Int32), σ))
  else
  (sn_gd (sn_in x1 3) (if (sn_I σ 3 x1.toNatClampNeg) = 0 then
  (some ((-6 : Int32), σ))
  else
  ((sn_it (LX9_back_29 x1) 5000 (σ, (0 : Int32))).bind fun t_6 => (BX9_back_58 t_6))))))
theorem wX9_back_58 (C : sn_C p s m args meth c RX9 cX9_back 3 (some .int) D ct ad layM A) {σ : sn_S}  {o : (Int32 × sn_S)} (hf : BX9_back_58 σ = some o) (kr : sn_Kr p l e rmX9_back s m args below meth c Q D ct ad layM A cX9_back .ireturn (true) o.2 [.int o.1]) : sn_At p l e rmX9_back s m args below meth c Q D ct ad layM A 3 σ 58 [] [] := by
  intro H locs ls hw hl
  have hx := C.1
  have hb := C.2.1
  unfold BX9_back_58 at hf
  refine lv_iconst (v := 0) hx hb dX9_back_58 rfl ?_
  cases hf
  exact kr _ _ _ _ hw rfl dX9_back_59
theorem wX9_back_29 (C : sn_C p s m args meth c RX9 cX9_back 3 (some .int) D ct ad layM A) {σ : sn_S} {x1 : Int32} {x2 : Int32}  {o : (sn_S × Int32) ⊕ (sn_S)} (hf : BX9_back_29 σ x1 x2 = some o) (kc : ∀ v, o = .inl v → sn_At p l e rmX9_back s m args below meth c Q D ct ad layM A 3 v.1 29 [(0, .ref (ad 0)), (1, .int x1), (2, .int v.2)] []) (kx : ∀ v, o = .inr v → sn_At p l e rmX9_back s m args below meth c Q D ct ad layM A 3 v 58 [] []) : sn_At p l e rmX9_back s m args below meth c Q D ct ad layM A 3 σ 29 [(0, .ref (ad 0)), (1, .int x1), (2, .int x2)] [] := by
  intro H locs ls hw hl
  have hx := C.1
  have hb := C.2.1
  unfold BX9_back_29 at hf
  refine lv_iload_n hx hb dX9_back_29 rfl (lv_at hl 2 rfl) ?_
  refine lv_bipush (v := 119) hx hb dX9_back_30 (by decide) ?_
  refine lv_icmp_ge (tgt := 58) hx hb dX9_back_32 (by decide) (fun c_1 => ?_) (fun c_1 => ?_)
  · have hf := sn_if c_1 hf
    cases hf
    exact kx _ rfl _ _ _ hw (lv_sub hl [] rfl)
  · have hf := sn_el c_1 hf
    refine lv_aload_n hx hb dX9_back_35 rfl (lv_at hl 0 rfl) ?_
    refine sn_getC (r := 1) C hw fd_RX9_9 layM_0 rfl dX9_back_36 ?_
    refine lv_iload_n hx hb dX9_back_39 rfl (lv_at hl 2 rfl) ?_
    refine lv_aload_n hx hb dX9_back_40 rfl (lv_at hl 0 rfl) ?_
    refine sn_getC (r := 2) C hw fd_RX9_13 layM_0 rfl dX9_back_41 ?_
    refine lv_bipush (v := 119) hx hb dX9_back_44 (by decide) ?_
    refine lv_iload_n hx hb dX9_back_46 rfl (lv_at hl 1 rfl) ?_
    refine lv_imul hx hb dX9_back_47 ?_
    refine lv_iload_n hx hb dX9_back_48 rfl (lv_at hl 2 rfl) ?_
    refine lv_iadd hx hb dX9_back_49 ?_
    obtain ⟨g_2, hf⟩ := sn_gdE hf
    refine sn_iald C hw layM_2 g_2 dX9_back_50 ?_
    obtain ⟨g_3, hf⟩ := sn_gdE hf
    refine sn_iast C hw layM_1 g_3 dX9_back_51 (fun H locs hw => ?_)
    obtain ⟨σ_4, e_5, hf⟩ := sn_ltE hf
    rw [← e_5] at hw
    obtain ⟨y_6, e_7, hf⟩ := sn_ltE hf
    refine lv_iinc (v := y_6) (lv' := [(2, .int y_6), (0, .ref (ad 0)), (1, .int x1)]) hx hb dX9_back_52 hl (k := 2) rfl (by rw [e_7]; rfl) (by decide) rfl (fun ls hl => ?_)
    refine lv_goto (tgt := 29) hx hb dX9_back_55 (by decide) ?_
    cases hf
    exact kc _ rfl _ _ _ hw (lv_sub hl [1, 2, 0] rfl)
theorem wX9_back_L29 (C : sn_C p s m args meth c RX9 cX9_back 3 (some .int) D ct ad layM A) {x1 : Int32}   {z : sn_S × Int32} {t : sn_S} (h : sn_it (LX9_back_29 x1) 5000 z = some t) (kx : ∀ v, t = v → sn_At p l e rmX9_back s m args below meth c Q D ct ad layM A 3 v 58 [] []) : sn_At p l e rmX9_back s m args below meth c Q D ct ad layM A 3 z.1 29 [(0, .ref (ad 0)), (1, .int x1), (2, .int z.2)] [] :=
  sn_loop (f := LX9_back_29 x1) (G := fun z => sn_At p l e rmX9_back s m args below meth c Q D ct ad layM A 3 z.1 29 [(0, .ref (ad 0)), (1, .int x1), (2, .int z.2)] []) (E := fun t => (∀ v, t = v → sn_At p l e rmX9_back s m args below meth c Q D ct ad layM A 3 v 58 [] []) ∧ True) (fun z o hf k1 k2 => wX9_back_29 C  hf (fun v e => k1 v e) (fun v e => (k2 _ e).1 v rfl)) 5000 z t h ⟨kx, trivial⟩
theorem wX9_back_in (C : sn_C p s m args meth c RX9 cX9_back 3 (some .int) D ct ad layM A) {σ : sn_S} {x1 : Int32}  {o : (Int32 × sn_S)} (hf : fX9_back σ x1 = some o) (kr : sn_Kr p l e rmX9_back s m args below meth c Q D ct ad layM A cX9_back .ireturn (true) o.2 [.int o.1]) : sn_At p l e rmX9_back s m args below meth c Q D ct ad layM A 3 σ 0 [(0, .ref (ad 0)), (1, .int x1)] [] := by
  intro H locs ls hw hl
  have hx := C.1
  have hb := C.2.1
  unfold fX9_back at hf
  refine lv_iload_n hx hb dX9_back_0 rfl (lv_at hl 1 rfl) ?_
  refine lv_i2l hx hb dX9_back_1 rfl ?_
  refine lv_lconst (v := 0) hx hb dX9_back_2 rfl ?_
  refine lv_ldc2 hx hb C.2.2.2.1 (C.2.2.2.2.1 _ kk_RX9_92) dX9_back_3 ?_
  obtain ⟨t_1, h_2, hf⟩ := sn_bd hf
  refine sn_callSi (rest := []) C hw (ctX9_in l  h_2) kl_RX9_94 rfl rfl rfl (Nat.le_of_ble_eq_true rfl) dX9_back_6 hl.1 (fun H locs hw => ?_)
  refine lv_if_ne (tgt := 15) hx hb dX9_back_9 (by decide) (fun c_3 => ?_) (fun c_3 => ?_)
  · have hf := sn_el c_3 hf
    refine lv_aload_n hx hb dX9_back_15 rfl (lv_at hl 0 rfl) ?_
    refine sn_getC (r := 3) C hw fd_RX9_16 layM_0 rfl dX9_back_16 ?_
    refine lv_iload_n hx hb dX9_back_19 rfl (lv_at hl 1 rfl) ?_
    obtain ⟨g_4, hf⟩ := sn_gdE hf
    refine sn_zald C hw layM_3 g_4 dX9_back_20 ?_
    refine lv_if_ne (tgt := 27) hx hb dX9_back_21 (by decide) (fun c_5 => ?_) (fun c_5 => ?_)
    · have hf := sn_el c_5 hf
      refine lv_iconst (v := 0) hx hb dX9_back_27 rfl ?_
      refine lv_istore_n (lv' := [(2, .int (0 : Int32)), (0, .ref (ad 0)), (1, .int x1)]) hx hb dX9_back_28 rfl hl (by decide) rfl (fun ls hl => ?_)
      obtain ⟨t_6, h_7, hf⟩ := sn_bd hf
      exact wX9_back_L29 C  h_7 (fun v e => by cases e; exact wX9_back_58 C  hf kr) _ _ _ hw (lv_sub hl [1, 2, 0] rfl)
    · have hf := sn_if c_5 hf
      refine lv_bipush (v := (-6)) hx hb dX9_back_24 (by decide) ?_
      cases hf
      exact kr _ _ _ _ hw rfl dX9_back_26
  · have hf := sn_if c_3 hf
    refine lv_bipush (v := (-2)) hx hb dX9_back_12 (by decide) ?_
    cases hf
    exact kr _ _ _ _ hw rfl dX9_back_14
theorem ctX9_back (l : Launch) {σ : sn_S} {x1 : Int32}  {o : (Int32 × sn_S)} (hf : fX9_back σ x1 = some o) : sn_M l yX9_back cX9_back 3 (some .int) rmX9_back layM (fun ad => [.ref (ad 0), .int x1]) σ (some (fun _ => .int o.1)) o.2 :=
  sn_met (by decide) (fun _ => Nat.le_of_ble_eq_true rfl) (fun p e s m args below meth c ls D ct ad A C hw hl => wX9_back_in C  hf (fun H locs ls pc hw ok hd => sn_iret C hw hd) _ _ _ hw hl)
-- X9_isHouse
abbrev rmX9_isHouse : Room := { frames := 0, cells := 0, slots := 0, locals := 0 }
def fX9_isHouse (σ : sn_S) : Option Int32 :=
  (sn_gd (sn_in (10 : Int32) 119) (if (sn_I σ 1 (10 : Int32).toNatClampNeg) ≤ 0 then
  (sn_gd (sn_b01 (0 : Int32)) (some (0 : Int32)))
  else
  (sn_gd (sn_b01 (1 : Int32)) (some (1 : Int32)))))
theorem wX9_isHouse_in (C : sn_C p s m args meth c RX9 cX9_isHouse 1 (some .boolean) D ct ad layM A) {σ : sn_S}  {o : Int32} (hf : fX9_isHouse σ = some o) (kr : sn_Kr p l e rmX9_isHouse s m args below meth c Q D ct ad layM A cX9_isHouse .ireturn (sn_b01 o) σ [.int o]) : sn_At p l e rmX9_isHouse s m args below meth c Q D ct ad layM A 1 σ 0 [(0, .ref (ad 0))] [] := by
  intro H locs ls hw hl
  have hx := C.1
  have hb := C.2.1
  unfold fX9_isHouse at hf
  refine lv_aload_n hx hb dX9_isHouse_0 rfl (lv_at hl 0 rfl) ?_
  refine sn_getC (r := 1) C hw fd_RX9_9 layM_0 rfl dX9_isHouse_1 ?_
  refine lv_bipush (v := 10) hx hb dX9_isHouse_4 (by decide) ?_
  obtain ⟨g_1, hf⟩ := sn_gdE hf
  refine sn_iald C hw layM_1 g_1 dX9_isHouse_6 ?_
  refine lv_if_le (tgt := 14) hx hb dX9_isHouse_7 (by decide) (fun c_2 => ?_) (fun c_2 => ?_)
  · have hf := sn_if c_2 hf
    refine lv_iconst (v := 0) hx hb dX9_isHouse_14 rfl ?_
    obtain ⟨g_3, hf⟩ := sn_gdE hf
    cases hf
    exact kr _ _ _ _ hw g_3 dX9_isHouse_15
  · have hf := sn_el c_2 hf
    refine lv_iconst (v := 1) hx hb dX9_isHouse_10 rfl ?_
    refine lv_goto (tgt := 15) hx hb dX9_isHouse_11 (by decide) ?_
    obtain ⟨g_4, hf⟩ := sn_gdE hf
    cases hf
    exact kr _ _ _ _ hw g_4 dX9_isHouse_15
theorem ctX9_isHouse (l : Launch) {σ : sn_S}  {o : Int32} (hf : fX9_isHouse σ = some o) : sn_M l yX9_isHouse cX9_isHouse 1 (some .boolean) rmX9_isHouse layM (fun ad => [.ref (ad 0)]) σ (some (fun _ => .int o)) σ :=
  sn_met (by decide) (fun _ => Nat.le_of_ble_eq_true rfl) (fun p e s m args below meth c ls D ct ad A C hw hl => wX9_isHouse_in C  hf (fun H locs ls pc hw ok hd => sn_zret C hw ok hd) _ _ _ hw hl)
-- X9_isMinute
abbrev rmX9_isMinute : Room := { frames := 1, cells := 0, slots := 0, locals := 25 }
def fX9_isMinute (σ : sn_S) (x1 : Int64) : Option Int32 :=
  (sn_gd (sn_in (0 : Int32) 119) ((fX9_in x1 (0 : Int64) (((sn_I σ 1 (0 : Int32).toNatClampNeg) - (1 : Int32)).toInt64)).bind fun t_2 => (sn_gd (sn_b01 t_2) (some t_2))))
theorem wX9_isMinute_in (C : sn_C p s m args meth c RX9 cX9_isMinute 3 (some .boolean) D ct ad layM A) {σ : sn_S} {x1 : Int64}  {o : Int32} (hf : fX9_isMinute σ x1 = some o) (kr : sn_Kr p l e rmX9_isMinute s m args below meth c Q D ct ad layM A cX9_isMinute .ireturn (sn_b01 o) σ [.int o]) : sn_At p l e rmX9_isMinute s m args below meth c Q D ct ad layM A 3 σ 0 [(0, .ref (ad 0)), (1, .long x1)] [] := by
  intro H locs ls hw hl
  have hx := C.1
  have hb := C.2.1
  unfold fX9_isMinute at hf
  refine lv_lload_n hx hb dX9_isMinute_0 rfl (lv_at hl 1 rfl) ?_
  refine lv_lconst (v := 0) hx hb dX9_isMinute_1 rfl ?_
  refine lv_aload_n hx hb dX9_isMinute_2 rfl (lv_at hl 0 rfl) ?_
  refine sn_getC (r := 1) C hw fd_RX9_9 layM_0 rfl dX9_isMinute_3 ?_
  refine lv_iconst (v := 0) hx hb dX9_isMinute_6 rfl ?_
  obtain ⟨g_1, hf⟩ := sn_gdE hf
  refine sn_iald C hw layM_1 g_1 dX9_isMinute_7 ?_
  refine lv_iconst (v := 1) hx hb dX9_isMinute_8 rfl ?_
  refine lv_isub hx hb dX9_isMinute_9 ?_
  refine lv_i2l hx hb dX9_isMinute_10 rfl ?_
  obtain ⟨t_2, h_3, hf⟩ := sn_bd hf
  refine sn_callSi (rest := []) C hw (ctX9_in l  h_3) kl_RX9_94 rfl rfl rfl (Nat.le_of_ble_eq_true rfl) dX9_isMinute_11 hl.1 (fun H locs hw => ?_)
  obtain ⟨g_4, hf⟩ := sn_gdE hf
  cases hf
  exact kr _ _ _ _ hw g_4 dX9_isMinute_14
theorem ctX9_isMinute (l : Launch) {σ : sn_S} {x1 : Int64}  {o : Int32} (hf : fX9_isMinute σ x1 = some o) : sn_M l yX9_isMinute cX9_isMinute 3 (some .boolean) rmX9_isMinute layM (fun ad => [.ref (ad 0), .long x1]) σ (some (fun _ => .int o)) σ :=
  sn_met (by decide) (fun _ => Nat.le_of_ble_eq_true rfl) (fun p e s m args below meth c ls D ct ad A C hw hl => wX9_isMinute_in C  hf (fun H locs ls pc hw ok hd => sn_zret C hw ok hd) _ _ _ hw hl)
-- X9_isPerson
abbrev rmX9_isPerson : Room := { frames := 1, cells := 0, slots := 0, locals := 25 }
def fX9_isPerson (σ : sn_S) (x1 : Int64) : Option Int32 :=
  (sn_gd (sn_in (5 : Int32) 119) ((fX9_in x1 (0 : Int64) (((sn_I σ 1 (5 : Int32).toNatClampNeg) - (1 : Int32)).toInt64)).bind fun t_2 => (sn_gd (sn_b01 t_2) (some t_2))))
theorem wX9_isPerson_in (C : sn_C p s m args meth c RX9 cX9_isPerson 3 (some .boolean) D ct ad layM A) {σ : sn_S} {x1 : Int64}  {o : Int32} (hf : fX9_isPerson σ x1 = some o) (kr : sn_Kr p l e rmX9_isPerson s m args below meth c Q D ct ad layM A cX9_isPerson .ireturn (sn_b01 o) σ [.int o]) : sn_At p l e rmX9_isPerson s m args below meth c Q D ct ad layM A 3 σ 0 [(0, .ref (ad 0)), (1, .long x1)] [] := by
  intro H locs ls hw hl
  have hx := C.1
  have hb := C.2.1
  unfold fX9_isPerson at hf
  refine lv_lload_n hx hb dX9_isPerson_0 rfl (lv_at hl 1 rfl) ?_
  refine lv_lconst (v := 0) hx hb dX9_isPerson_1 rfl ?_
  refine lv_aload_n hx hb dX9_isPerson_2 rfl (lv_at hl 0 rfl) ?_
  refine sn_getC (r := 1) C hw fd_RX9_9 layM_0 rfl dX9_isPerson_3 ?_
  refine lv_iconst (v := 5) hx hb dX9_isPerson_6 rfl ?_
  obtain ⟨g_1, hf⟩ := sn_gdE hf
  refine sn_iald C hw layM_1 g_1 dX9_isPerson_7 ?_
  refine lv_iconst (v := 1) hx hb dX9_isPerson_8 rfl ?_
  refine lv_isub hx hb dX9_isPerson_9 ?_
  refine lv_i2l hx hb dX9_isPerson_10 rfl ?_
  obtain ⟨t_2, h_3, hf⟩ := sn_bd hf
  refine sn_callSi (rest := []) C hw (ctX9_in l  h_3) kl_RX9_94 rfl rfl rfl (Nat.le_of_ble_eq_true rfl) dX9_isPerson_11 hl.1 (fun H locs hw => ?_)
  obtain ⟨g_4, hf⟩ := sn_gdE hf
  cases hf
  exact kr _ _ _ _ hw g_4 dX9_isPerson_14
theorem ctX9_isPerson (l : Launch) {σ : sn_S} {x1 : Int64}  {o : Int32} (hf : fX9_isPerson σ x1 = some o) : sn_M l yX9_isPerson cX9_isPerson 3 (some .boolean) rmX9_isPerson layM (fun ad => [.ref (ad 0), .long x1]) σ (some (fun _ => .int o)) σ :=
  sn_met (by decide) (fun _ => Nat.le_of_ble_eq_true rfl) (fun p e s m args below meth c ls D ct ad A C hw hl => wX9_isPerson_in C  hf (fun H locs ls pc hw ok hd => sn_zret C hw ok hd) _ _ _ hw hl)
-- X9_isPolicy
abbrev rmX9_isPolicy : Room := { frames := 1, cells := 0, slots := 0, locals := 25 }
def fX9_isPolicy (σ : sn_S) (x1 : Int32) : Option Int32 :=
  (sn_gd (sn_in (8 : Int32) 119) ((fX9_in x1.toInt64 (0 : Int64) (((sn_I σ 1 (8 : Int32).toNatClampNeg) - (1 : Int32)).toInt64)).bind fun t_2 => (sn_gd (sn_b01 t_2) (some t_2))))
theorem wX9_isPolicy_in (C : sn_C p s m args meth c RX9 cX9_isPolicy 2 (some .boolean) D ct ad layM A) {σ : sn_S} {x1 : Int32}  {o : Int32} (hf : fX9_isPolicy σ x1 = some o) (kr : sn_Kr p l e rmX9_isPolicy s m args below meth c Q D ct ad layM A cX9_isPolicy .ireturn (sn_b01 o) σ [.int o]) : sn_At p l e rmX9_isPolicy s m args below meth c Q D ct ad layM A 2 σ 0 [(0, .ref (ad 0)), (1, .int x1)] [] := by
  intro H locs ls hw hl
  have hx := C.1
  have hb := C.2.1
  unfold fX9_isPolicy at hf
  refine lv_iload_n hx hb dX9_isPolicy_0 rfl (lv_at hl 1 rfl) ?_
  refine lv_i2l hx hb dX9_isPolicy_1 rfl ?_
  refine lv_lconst (v := 0) hx hb dX9_isPolicy_2 rfl ?_
  refine lv_aload_n hx hb dX9_isPolicy_3 rfl (lv_at hl 0 rfl) ?_
  refine sn_getC (r := 1) C hw fd_RX9_9 layM_0 rfl dX9_isPolicy_4 ?_
  refine lv_bipush (v := 8) hx hb dX9_isPolicy_7 (by decide) ?_
  obtain ⟨g_1, hf⟩ := sn_gdE hf
  refine sn_iald C hw layM_1 g_1 dX9_isPolicy_9 ?_
  refine lv_iconst (v := 1) hx hb dX9_isPolicy_10 rfl ?_
  refine lv_isub hx hb dX9_isPolicy_11 ?_
  refine lv_i2l hx hb dX9_isPolicy_12 rfl ?_
  obtain ⟨t_2, h_3, hf⟩ := sn_bd hf
  refine sn_callSi (rest := []) C hw (ctX9_in l  h_3) kl_RX9_94 rfl rfl rfl (Nat.le_of_ble_eq_true rfl) dX9_isPolicy_13 hl.1 (fun H locs hw => ?_)
  obtain ⟨g_4, hf⟩ := sn_gdE hf
  cases hf
  exact kr _ _ _ _ hw g_4 dX9_isPolicy_16
theorem ctX9_isPolicy (l : Launch) {σ : sn_S} {x1 : Int32}  {o : Int32} (hf : fX9_isPolicy σ x1 = some o) : sn_M l yX9_isPolicy cX9_isPolicy 2 (some .boolean) rmX9_isPolicy layM (fun ad => [.ref (ad 0), .int x1]) σ (some (fun _ => .int o)) σ :=
  sn_met (by decide) (fun _ => Nat.le_of_ble_eq_true rfl) (fun p e s m args below meth c ls D ct ad A C hw hl => wX9_isPolicy_in C  hf (fun H locs ls pc hw ok hd => sn_zret C hw ok hd) _ _ _ hw hl)
-- X9_isLaw
abbrev rmX9_isLaw : Room := { frames := 1, cells := 0, slots := 0, locals := 25 }
def fX9_isLaw (x0 : Int32) : Option Int32 :=
  ((fX9_in x0.toInt64 (0 : Int64) (3 : Int64)).bind fun t_1 => (sn_gd (sn_b01 t_1) (some t_1)))
theorem wX9_isLaw_in (C : sn_C p s m args meth c RX9 cX9_isLaw 1 (some .boolean) D ct ad layM A) {σ : sn_S} {x0 : Int32}  {o : Int32} (hf : fX9_isLaw x0 = some o) (kr : sn_Kr p l e rmX9_isLaw s m args below meth c Q D ct ad layM A cX9_isLaw .ireturn (sn_b01 o) σ [.int o]) : sn_At p l e rmX9_isLaw s m args below meth c Q D ct ad layM A 1 σ 0 [(0, .int x0)] [] := by
  intro H locs ls hw hl
  have hx := C.1
  have hb := C.2.1
  unfold fX9_isLaw at hf
  refine lv_iload_n hx hb dX9_isLaw_0 rfl (lv_at hl 0 rfl) ?_
  refine lv_i2l hx hb dX9_isLaw_1 rfl ?_
  refine lv_lconst (v := 0) hx hb dX9_isLaw_2 rfl ?_
  refine lv_ldc2 hx hb C.2.2.2.1 (C.2.2.2.2.1 _ kk_RX9_98) dX9_isLaw_3 ?_
  obtain ⟨t_1, h_2, hf⟩ := sn_bd hf
  refine sn_callSi (rest := []) C hw (ctX9_in l  h_2) kl_RX9_94 rfl rfl rfl (Nat.le_of_ble_eq_true rfl) dX9_isLaw_6 hl.1 (fun H locs hw => ?_)
  obtain ⟨g_3, hf⟩ := sn_gdE hf
  cases hf
  exact kr _ _ _ _ hw g_3 dX9_isLaw_9
theorem ctX9_isLaw (l : Launch) {σ : sn_S} {x0 : Int32}  {o : Int32} (hf : fX9_isLaw x0 = some o) : sn_M l yX9_isLaw cX9_isLaw 1 (some .boolean) rmX9_isLaw layM (fun ad => [.int x0]) σ (some (fun _ => .int o)) σ :=
  sn_met (by decide) (fun _ => Nat.le_of_ble_eq_true rfl) (fun p e s m args below meth c ls D ct ad A C hw hl => wX9_isLaw_in C  hf (fun H locs ls pc hw ok hd => sn_zret C hw ok hd) _ _ _ hw hl)
-- X9_of
abbrev rmX9_of : Room := { frames := 0, cells := 0, slots := 0, locals := 0 }
def fX9_of (σ : sn_S) (x1 : Int32) (x2 : Int32) : Option Int32 :=
  (sn_gd (sn_in (((49 : Int32) + ((5 : Int32) * x1)) + x2) 119) (some (sn_I σ 1 (((49 : Int32) + ((5 : Int32) * x1)) + x2).toNatClampNeg)))
theorem wX9_of_in (C : sn_C p s m args meth c RX9 cX9_of 3 (some .int) D ct ad layM A) {σ : sn_S} {x1 : Int32} {x2 : Int32}  {o : Int32} (hf : fX9_of σ x1 x2 = some o) (kr : sn_Kr p l e rmX9_of s m args below meth c Q D ct ad layM A cX9_of .ireturn (true) σ [.int o]) : sn_At p l e rmX9_of s m args below meth c Q D ct ad layM A 3 σ 0 [(0, .ref (ad 0)), (1, .int x1), (2, .int x2)] [] := by
  intro H locs ls hw hl
  have hx := C.1
  have hb := C.2.1
  unfold fX9_of at hf
  refine lv_aload_n hx hb dX9_of_0 rfl (lv_at hl 0 rfl) ?_
  refine sn_getC (r := 1) C hw fd_RX9_9 layM_0 rfl dX9_of_1 ?_
  refine lv_bipush (v := 49) hx hb dX9_of_4 (by decide) ?_
  refine lv_iconst (v := 5) hx hb dX9_of_6 rfl ?_
  refine lv_iload_n hx hb dX9_of_7 rfl (lv_at hl 1 rfl) ?_
  refine lv_imul hx hb dX9_of_8 ?_
  refine lv_iadd hx hb dX9_of_9 ?_
  refine lv_iload_n hx hb dX9_of_10 rfl (lv_at hl 2 rfl) ?_
  refine lv_iadd hx hb dX9_of_11 ?_
  obtain ⟨g_1, hf⟩ := sn_gdE hf
  refine sn_iald C hw layM_1 g_1 dX9_of_12 ?_
  cases hf
  exact kr _ _ _ _ hw rfl dX9_of_13
theorem ctX9_of (l : Launch) {σ : sn_S} {x1 : Int32} {x2 : Int32}  {o : Int32} (hf : fX9_of σ x1 x2 = some o) : sn_M l yX9_of cX9_of 3 (some .int) rmX9_of layM (fun ad => [.ref (ad 0), .int x1, .int x2]) σ (some (fun _ => .int o)) σ :=
  sn_met (by decide) (fun _ => Nat.le_of_ble_eq_true rfl) (fun p e s m args below meth c ls D ct ad A C hw hl => wX9_of_in C  hf (fun H locs ls pc hw ok hd => sn_iret C hw hd) _ _ _ hw hl)
-- X9_minutes
abbrev rmX9_minutes : Room := { frames := 0, cells := 0, slots := 0, locals := 0 }
def fX9_minutes (σ : sn_S) : Option Int32 :=
  (sn_gd (sn_in (0 : Int32) 119) (some (sn_I σ 1 (0 : Int32).toNatClampNeg)))
theorem wX9_minutes_in (C : sn_C p s m args meth c RX9 cX9_minutes 1 (some .int) D ct ad layM A) {σ : sn_S}  {o : Int32} (hf : fX9_minutes σ = some o) (kr : sn_Kr p l e rmX9_minutes s m args below meth c Q D ct ad layM A cX9_minutes .ireturn (true) σ [.int o]) : sn_At p l e rmX9_minutes s m args below meth c Q D ct ad layM A 1 σ 0 [(0, .ref (ad 0))] [] := by
  intro H locs ls hw hl
  have hx := C.1
  have hb := C.2.1
  unfold fX9_minutes at hf
  refine lv_aload_n hx hb dX9_minutes_0 rfl (lv_at hl 0 rfl) ?_
  refine sn_getC (r := 1) C hw fd_RX9_9 layM_0 rfl dX9_minutes_1 ?_
  refine lv_iconst (v := 0) hx hb dX9_minutes_4 rfl ?_
  obtain ⟨g_1, hf⟩ := sn_gdE hf
  refine sn_iald C hw layM_1 g_1 dX9_minutes_5 ?_
  cases hf
  exact kr _ _ _ _ hw rfl dX9_minutes_6
theorem ctX9_minutes (l : Launch) {σ : sn_S}  {o : Int32} (hf : fX9_minutes σ = some o) : sn_M l yX9_minutes cX9_minutes 1 (some .int) rmX9_minutes layM (fun ad => [.ref (ad 0)]) σ (some (fun _ => .int o)) σ :=
  sn_met (by decide) (fun _ => Nat.le_of_ble_eq_true rfl) (fun p e s m args below meth c ls D ct ad A C hw hl => wX9_minutes_in C  hf (fun H locs ls pc hw ok hd => sn_iret C hw hd) _ _ _ hw hl)
-- X9_feed
abbrev rmX9_feed : Room := { frames := 0, cells := 0, slots := 0, locals := 0 }
def BX9_feed_101 (σ : sn_S) : Option ((Int32 × sn_S)) :=
  (sn_lt (sn_pI σ 0 5 ((sn_I σ 0 5) + (20 : Int32))) fun σ_1 => (some ((sn_I σ_1 0 5), σ_1)))
def BX9_feed_55 (σ : sn_S) (x6 : Int32) : Option ((sn_S × Int32) ⊕ (sn_S)) :=
  (if (20 : Int32) ≤ x6 then
  (some (.inr (σ)))
  else
  (sn_gd (sn_in (x6 / (4 : Int32)) 5) (sn_gd (sn_in ((sn_I σ 0 5) + x6) 900) (sn_lt (sn_pI σ 4 ((sn_I σ 0 5) + x6).toNatClampNeg (vp_nar .byte (((sn_I σ 5 (x6 / (4 : Int32)).toNatClampNeg) >>> (((24 : Int32) - ((8 : Int32) * (x6 - x6 / (4 : Int32) * (4 : Int32)))) &&& 31)).toInt8.toInt32))) fun σ_4 => (sn_lt (x6 + 1) fun y_6 => (some (.inl (σ_4, y_6))))))))
def LX9_feed_55  (s : sn_S × Int32) : Option ((sn_S × Int32) ⊕ (sn_S)) := BX9_feed_55 s.1 s.2
def fX9_feed (σ : sn_S) (x1 : Int32) (x2 : Int32) (x3 : Int32) (x4 : Int32) (x5 : Int32) : Option (Int32 × sn_S) :=
  (if ((sn_I σ 0 5) + (20 : Int32)) ≤ (900 : Int32) then
  (sn_gd (sn_in (0 : Int32) 5) (sn_lt (sn_pI σ 5 (0 : Int32).toNatClampNeg x1) fun σ_3 => (sn_gd (sn_in (1 : Int32) 5) (sn_lt (sn_pI σ_3 5 (1 : Int32).toNatClampNeg x2) fun σ_6 => (sn_gd (sn_in (2 : Int32) 5) (sn_lt (sn_pI σ_6 5 (2 : Int32).toNatClampNeg x3) fun σ_9 => (sn_gd (sn_in (3 : Int32) 5) (sn_lt (sn_pI σ_9 5 (3 : Int32).toNatClampNeg x4) fun σ_12 => (sn_gd (sn_in (4 : Int32) 5) (sn_lt (sn_pI σ_12 5 (4 : Int32).toNatClampNeg x5) fun σ_15 => ((sn_it (LX9_feed_55 ) 5000 (σ_15, (0 : Int32))).bind fun t_17 => (BX9_feed_101 t_17))))))))))))
  else
  (some ((-1 : Int32), σ)))
theorem wX9_feed_101 (C : sn_C p s m args meth c RX9 cX9_feed 7 (some .int) D ct ad layM A) {σ : sn_S}  {o : (Int32 × sn_S)} (hf : BX9_feed_101 σ = some o) (kr : sn_Kr p l e rmX9_feed s m args below meth c Q D ct ad layM A cX9_feed .ireturn (true) o.2 [.int o.1]) : sn_At p l e rmX9_feed s m args below meth c Q D ct ad layM A 7 σ 101 [(0, .ref (ad 0))] [] := by
  intro H locs ls hw hl
  have hx := C.1
  have hb := C.2.1
  unfold BX9_feed_101 at hf
  refine lv_aload_n hx hb dX9_feed_101 rfl (lv_at hl 0 rfl) ?_
  refine lv_dup hx hb dX9_feed_102 rfl ?_
  refine sn_getI C hw fd_RX9_100 layM_0 rfl dX9_feed_103 ?_
  refine lv_bipush (v := 20) hx hb dX9_feed_106 (by decide) ?_
  refine lv_iadd hx hb dX9_feed_108 ?_
  refine sn_putI C hw fp_RX9_100 layM_0 rfl dX9_feed_109 (fun H locs hw => ?_)
  obtain ⟨σ_1, e_2, hf⟩ := sn_ltE hf
  rw [← e_2] at hw
  refine lv_aload_n hx hb dX9_feed_112 rfl (lv_at hl 0 rfl) ?_
  refine sn_getI C hw fd_RX9_100 layM_0 rfl dX9_feed_113 ?_
  cases hf
  exact kr _ _ _ _ hw rfl dX9_feed_116
theorem wX9_feed_55 (C : sn_C p s m args meth c RX9 cX9_feed 7 (some .int) D ct ad layM A) {σ : sn_S} {x6 : Int32}  {o : (sn_S × Int32) ⊕ (sn_S)} (hf : BX9_feed_55 σ x6 = some o) (kc : ∀ v, o = .inl v → sn_At p l e rmX9_feed s m args below meth c Q D ct ad layM A 7 v.1 55 [(0, .ref (ad 0)), (6, .int v.2)] []) (kx : ∀ v, o = .inr v → sn_At p l e rmX9_feed s m args below meth c Q D ct ad layM A 7 v 101 [(0, .ref (ad 0))] []) : sn_At p l e rmX9_feed s m args below meth c Q D ct ad layM A 7 σ 55 [(0, .ref (ad 0)), (6, .int x6)] [] := by
  intro H locs ls hw hl
  have hx := C.1
  have hb := C.2.1
  unfold BX9_feed_55 at hf
  refine lv_iload hx hb dX9_feed_55 (lv_at hl 1 rfl) ?_
  refine lv_bipush (v := 20) hx hb dX9_feed_57 (by decide) ?_
  refine lv_icmp_ge (tgt := 101) hx hb dX9_feed_59 (by decide) (fun c_1 => ?_) (fun c_1 => ?_)
  · have hf := sn_if c_1 hf
    cases hf
    exact kx _ rfl _ _ _ hw (lv_sub hl [0] rfl)
  · have hf := sn_el c_1 hf
    refine lv_aload_n hx hb dX9_feed_62 rfl (lv_at hl 0 rfl) ?_
    refine sn_getC (r := 4) C hw fd_RX9_20 layM_0 rfl dX9_feed_63 ?_
    refine lv_aload_n hx hb dX9_feed_66 rfl (lv_at hl 0 rfl) ?_
    refine sn_getI C hw fd_RX9_100 layM_0 rfl dX9_feed_67 ?_
    refine lv_iload hx hb dX9_feed_70 (lv_at hl 1 rfl) ?_
    refine lv_iadd hx hb dX9_feed_72 ?_
    refine lv_aload_n hx hb dX9_feed_73 rfl (lv_at hl 0 rfl) ?_
    refine sn_getC (r := 5) C hw fd_RX9_24 layM_0 rfl dX9_feed_74 ?_
    refine lv_iload hx hb dX9_feed_77 (lv_at hl 1 rfl) ?_
    refine lv_iconst (v := 4) hx hb dX9_feed_79 rfl ?_
    refine lv_idiv hx hb dX9_feed_80 (by decide) ?_
    obtain ⟨g_2, hf⟩ := sn_gdE hf
    refine sn_iald C hw layM_5 g_2 dX9_feed_81 ?_
    refine lv_bipush (v := 24) hx hb dX9_feed_82 (by decide) ?_
    refine lv_bipush (v := 8) hx hb dX9_feed_84 (by decide) ?_
    refine lv_iload hx hb dX9_feed_86 (lv_at hl 1 rfl) ?_
    refine lv_iconst (v := 4) hx hb dX9_feed_88 rfl ?_
    refine lv_irem hx hb dX9_feed_89 (by decide) ?_
    refine lv_imul hx hb dX9_feed_90 ?_
    refine lv_isub hx hb dX9_feed_91 ?_
    refine lv_ishr hx hb dX9_feed_92 ?_
    refine lv_i2b hx hb dX9_feed_93 rfl ?_
    obtain ⟨g_3, hf⟩ := sn_gdE hf
    refine sn_bast C hw layM_4 g_3 dX9_feed_94 (fun H locs hw => ?_)
    obtain ⟨σ_4, e_5, hf⟩ := sn_ltE hf
    rw [← e_5] at hw
    obtain ⟨y_6, e_7, hf⟩ := sn_ltE hf
    refine lv_iinc (v := y_6) (lv' := [(6, .int y_6), (0, .ref (ad 0))]) hx hb dX9_feed_95 hl (k := 1) rfl (by rw [e_7]; rfl) (by decide) rfl (fun ls hl => ?_)
    refine lv_goto (tgt := 55) hx hb dX9_feed_98 (by decide) ?_
    cases hf
    exact kc _ rfl _ _ _ hw (lv_sub hl [1, 0] rfl)
theorem wX9_feed_L55 (C : sn_C p s m args meth c RX9 cX9_feed 7 (some .int) D ct ad layM A)    {z : sn_S × Int32} {t : sn_S} (h : sn_it (LX9_feed_55 ) 5000 z = some t) (kx : ∀ v, t = v → sn_At p l e rmX9_feed s m args below meth c Q D ct ad layM A 7 v 101 [(0, .ref (ad 0))] []) : sn_At p l e rmX9_feed s m args below meth c Q D ct ad layM A 7 z.1 55 [(0, .ref (ad 0)), (6, .int z.2)] [] :=
  sn_loop (f := LX9_feed_55 ) (G := fun z => sn_At p l e rmX9_feed s m args below meth c Q D ct ad layM A 7 z.1 55 [(0, .ref (ad 0)), (6, .int z.2)] []) (E := fun t => (∀ v, t = v → sn_At p l e rmX9_feed s m args below meth c Q D ct ad layM A 7 v 101 [(0, .ref (ad 0))] []) ∧ True) (fun z o hf k1 k2 => wX9_feed_55 C  hf (fun v e => k1 v e) (fun v e => (k2 _ e).1 v rfl)) 5000 z t h ⟨kx, trivial⟩
theorem wX9_feed_in (C : sn_C p s m args meth c RX9 cX9_feed 7 (some .int) D ct ad layM A) {σ : sn_S} {x1 : Int32} {x2 : Int32} {x3 : Int32} {x4 : Int32} {x5 : Int32}  {o : (Int32 × sn_S)} (hf : fX9_feed σ x1 x2 x3 x4 x5 = some o) (kr : sn_Kr p l e rmX9_feed s m args below meth c Q D ct ad layM A cX9_feed .ireturn (true) o.2 [.int o.1]) : sn_At p l e rmX9_feed s m args below meth c Q D ct ad layM A 7 σ 0 [(0, .ref (ad 0)), (1, .int x1), (2, .int x2), (3, .int x3), (4, .int x4), (5, .int x5)] [] := by
  intro H locs ls hw hl
  have hx := C.1
  have hb := C.2.1
  unfold fX9_feed at hf
  refine lv_aload_n hx hb dX9_feed_0 rfl (lv_at hl 0 rfl) ?_
  refine sn_getI C hw fd_RX9_100 layM_0 rfl dX9_feed_1 ?_
  refine lv_bipush (v := 20) hx hb dX9_feed_4 (by decide) ?_
  refine lv_iadd hx hb dX9_feed_6 ?_
  refine lv_sipush (v := 900) hx hb dX9_feed_7 (by decide) ?_
  refine lv_icmp_le (tgt := 15) hx hb dX9_feed_10 (by decide) (fun c_1 => ?_) (fun c_1 => ?_)
  · have hf := sn_if c_1 hf
    refine lv_aload_n hx hb dX9_feed_15 rfl (lv_at hl 0 rfl) ?_
    refine sn_getC (r := 5) C hw fd_RX9_24 layM_0 rfl dX9_feed_16 ?_
    refine lv_iconst (v := 0) hx hb dX9_feed_19 rfl ?_
    refine lv_iload_n hx hb dX9_feed_20 rfl (lv_at hl 1 rfl) ?_
    obtain ⟨g_2, hf⟩ := sn_gdE hf
    refine sn_iast C hw layM_5 g_2 dX9_feed_21 (fun H locs hw => ?_)
    obtain ⟨σ_3, e_4, hf⟩ := sn_ltE hf
    rw [← e_4] at hw
    refine lv_aload_n hx hb dX9_feed_22 rfl (lv_at hl 0 rfl) ?_
    refine sn_getC (r := 5) C hw fd_RX9_24 layM_0 rfl dX9_feed_23 ?_
    refine lv_iconst (v := 1) hx hb dX9_feed_26 rfl ?_
    refine lv_iload_n hx hb dX9_feed_27 rfl (lv_at hl 2 rfl) ?_
    obtain ⟨g_5, hf⟩ := sn_gdE hf
    refine sn_iast C hw layM_5 g_5 dX9_feed_28 (fun H locs hw => ?_)
    obtain ⟨σ_6, e_7, hf⟩ := sn_ltE hf
    rw [← e_7] at hw
    refine lv_aload_n hx hb dX9_feed_29 rfl (lv_at hl 0 rfl) ?_
    refine sn_getC (r := 5) C hw fd_RX9_24 layM_0 rfl dX9_feed_30 ?_
    refine lv_iconst (v := 2) hx hb dX9_feed_33 rfl ?_
    refine lv_iload_n hx hb dX9_feed_34 rfl (lv_at hl 3 rfl) ?_
    obtain ⟨g_8, hf⟩ := sn_gdE hf
    refine sn_iast C hw layM_5 g_8 dX9_feed_35 (fun H locs hw => ?_)
    obtain ⟨σ_9, e_10, hf⟩ := sn_ltE hf
    rw [← e_10] at hw
    refine lv_aload_n hx hb dX9_feed_36 rfl (lv_at hl 0 rfl) ?_
    refine sn_getC (r := 5) C hw fd_RX9_24 layM_0 rfl dX9_feed_37 ?_
    refine lv_iconst (v := 3) hx hb dX9_feed_40 rfl ?_
    refine lv_iload hx hb dX9_feed_41 (lv_at hl 4 rfl) ?_
    obtain ⟨g_11, hf⟩ := sn_gdE hf
    refine sn_iast C hw layM_5 g_11 dX9_feed_43 (fun H locs hw => ?_)
    obtain ⟨σ_12, e_13, hf⟩ := sn_ltE hf
    rw [← e_13] at hw
    refine lv_aload_n hx hb dX9_feed_44 rfl (lv_at hl 0 rfl) ?_
    refine sn_getC (r := 5) C hw fd_RX9_24 layM_0 rfl dX9_feed_45 ?_
    refine lv_iconst (v := 4) hx hb dX9_feed_48 rfl ?_
    refine lv_iload hx hb dX9_feed_49 (lv_at hl 5 rfl) ?_
    obtain ⟨g_14, hf⟩ := sn_gdE hf
    refine sn_iast C hw layM_5 g_14 dX9_feed_51 (fun H locs hw => ?_)
    obtain ⟨σ_15, e_16, hf⟩ := sn_ltE hf
    rw [← e_16] at hw
    refine lv_iconst (v := 0) hx hb dX9_feed_52 rfl ?_
    refine lv_istore (lv' := [(6, .int (0 : Int32)), (0, .ref (ad 0)), (1, .int x1), (2, .int x2), (3, .int x3), (4, .int x4), (5, .int x5)]) hx hb dX9_feed_53 hl (by decide) rfl (fun ls hl => ?_)
    obtain ⟨t_17, h_18, hf⟩ := sn_bd hf
    exact wX9_feed_L55 C  h_18 (fun v e => by cases e; exact wX9_feed_101 C  hf kr) _ _ _ hw (lv_sub hl [1, 0] rfl)
  · have hf := sn_el c_1 hf
    refine lv_iconst (v := (-1)) hx hb dX9_feed_13 rfl ?_
    cases hf
    exact kr _ _ _ _ hw rfl dX9_feed_14
theorem ctX9_feed (l : Launch) {σ : sn_S} {x1 : Int32} {x2 : Int32} {x3 : Int32} {x4 : Int32} {x5 : Int32}  {o : (Int32 × sn_S)} (hf : fX9_feed σ x1 x2 x3 x4 x5 = some o) : sn_M l yX9_feed cX9_feed 7 (some .int) rmX9_feed layM (fun ad => [.ref (ad 0), .int x1, .int x2, .int x3, .int x4, .int x5]) σ (some (fun _ => .int o.1)) o.2 :=
  sn_met (by decide) (fun _ => Nat.le_of_ble_eq_true rfl) (fun p e s m args below meth c ls D ct ad A C hw hl => wX9_feed_in C  hf (fun H locs ls pc hw ok hd => sn_iret C hw hd) _ _ _ hw hl)
-- X9_end
abbrev rmX9_end : Room := { frames := 1, cells := 0, slots := 0, locals := 25 }
def fX9_end (σ : sn_S) (x1 : Int32) : Option (Int32 × sn_S) :=
  ((fX9_in x1.toInt64 (0 : Int64) ((sn_I σ 0 5).toInt64)).bind fun t_1 => (if t_1 = 0 then
  (some ((-1 : Int32), σ))
  else
  (sn_lt (sn_pI σ 0 5 x1) fun σ_4 => (some (x1, σ_4)))))
theorem wX9_end_in (C : sn_C p s m args meth c RX9 cX9_end 2 (some .int) D ct ad layM A) {σ : sn_S} {x1 : Int32}  {o : (Int32 × sn_S)} (hf : fX9_end σ x1 = some o) (kr : sn_Kr p l e rmX9_end s m args below meth c Q D ct ad layM A cX9_end .ireturn (true) o.2 [.int o.1]) : sn_At p l e rmX9_end s m args below meth c Q D ct ad layM A 2 σ 0 [(0, .ref (ad 0)), (1, .int x1)] [] := by
  intro H locs ls hw hl
  have hx := C.1
  have hb := C.2.1
  unfold fX9_end at hf
  refine lv_iload_n hx hb dX9_end_0 rfl (lv_at hl 1 rfl) ?_
  refine lv_i2l hx hb dX9_end_1 rfl ?_
  refine lv_lconst (v := 0) hx hb dX9_end_2 rfl ?_
  refine lv_aload_n hx hb dX9_end_3 rfl (lv_at hl 0 rfl) ?_
  refine sn_getI C hw fd_RX9_100 layM_0 rfl dX9_end_4 ?_
  refine lv_i2l hx hb dX9_end_7 rfl ?_
  obtain ⟨t_1, h_2, hf⟩ := sn_bd hf
  refine sn_callSi (rest := []) C hw (ctX9_in l  h_2) kl_RX9_94 rfl rfl rfl (Nat.le_of_ble_eq_true rfl) dX9_end_8 hl.1 (fun H locs hw => ?_)
  refine lv_if_ne (tgt := 16) hx hb dX9_end_11 (by decide) (fun c_3 => ?_) (fun c_3 => ?_)
  · have hf := sn_el c_3 hf
    refine lv_aload_n hx hb dX9_end_16 rfl (lv_at hl 0 rfl) ?_
    refine lv_iload_n hx hb dX9_end_17 rfl (lv_at hl 1 rfl) ?_
    refine sn_putI C hw fp_RX9_100 layM_0 rfl dX9_end_18 (fun H locs hw => ?_)
    obtain ⟨σ_4, e_5, hf⟩ := sn_ltE hf
    rw [← e_5] at hw
    refine lv_iload_n hx hb dX9_end_21 rfl (lv_at hl 1 rfl) ?_
    cases hf
    exact kr _ _ _ _ hw rfl dX9_end_22
  · have hf := sn_if c_3 hf
    refine lv_iconst (v := (-1)) hx hb dX9_end_14 rfl ?_
    cases hf
    exact kr _ _ _ _ hw rfl dX9_end_15
theorem ctX9_end (l : Launch) {σ : sn_S} {x1 : Int32}  {o : (Int32 × sn_S)} (hf : fX9_end σ x1 = some o) : sn_M l yX9_end cX9_end 2 (some .int) rmX9_end layM (fun ad => [.ref (ad 0), .int x1]) σ (some (fun _ => .int o.1)) o.2 :=
  sn_met (by decide) (fun _ => Nat.le_of_ble_eq_true rfl) (fun p e s m args below meth c ls D ct ad A C hw hl => wX9_end_in C  hf (fun H locs ls pc hw ok hd => sn_iret C hw hd) _ _ _ hw hl)
-- X9_see
abbrev rmX9_see : Room := { frames := 0, cells := 0, slots := 0, locals := 0 }
def fX9_see (σ : sn_S) (x1 : Int32) : Option Int32 :=
  (if (sn_I σ 0 7) ≤ x1 then
  (some (-1 : Int32))
  else
  (sn_gd (sn_in x1 900) (some ((sn_I σ 4 x1.toNatClampNeg) &&& (255 : Int32)))))
theorem wX9_see_in (C : sn_C p s m args meth c RX9 cX9_see 2 (some .int) D ct ad layM A) {σ : sn_S} {x1 : Int32}  {o : Int32} (hf : fX9_see σ x1 = some o) (kr : sn_Kr p l e rmX9_see s m args below meth c Q D ct ad layM A cX9_see .ireturn (true) σ [.int o]) : sn_At p l e rmX9_see s m args below meth c Q D ct ad layM A 2 σ 0 [(0, .ref (ad 0)), (1, .int x1)] [] := by
  intro H locs ls hw hl
  have hx := C.1
  have hb := C.2.1
  unfold fX9_see at hf
  refine lv_iload_n hx hb dX9_see_0 rfl (lv_at hl 1 rfl) ?_
  refine lv_aload_n hx hb dX9_see_1 rfl (lv_at hl 0 rfl) ?_
  refine sn_getI C hw fd_RX9_103 layM_0 rfl dX9_see_2 ?_
  refine lv_icmp_ge (tgt := 21) hx hb dX9_see_5 (by decide) (fun c_1 => ?_) (fun c_1 => ?_)
  · have hf := sn_if c_1 hf
    refine lv_iconst (v := (-1)) hx hb dX9_see_21 rfl ?_
    cases hf
    exact kr _ _ _ _ hw rfl dX9_see_22
  · have hf := sn_el c_1 hf
    refine lv_aload_n hx hb dX9_see_8 rfl (lv_at hl 0 rfl) ?_
    refine sn_getC (r := 4) C hw fd_RX9_20 layM_0 rfl dX9_see_9 ?_
    refine lv_iload_n hx hb dX9_see_12 rfl (lv_at hl 1 rfl) ?_
    obtain ⟨g_2, hf⟩ := sn_gdE hf
    refine sn_bald C hw layM_4 g_2 dX9_see_13 ?_
    refine lv_sipush (v := 255) hx hb dX9_see_14 (by decide) ?_
    refine lv_iand hx hb dX9_see_17 ?_
    refine lv_goto (tgt := 22) hx hb dX9_see_18 (by decide) ?_
    cases hf
    exact kr _ _ _ _ hw rfl dX9_see_22
theorem ctX9_see (l : Launch) {σ : sn_S} {x1 : Int32}  {o : Int32} (hf : fX9_see σ x1 = some o) : sn_M l yX9_see cX9_see 2 (some .int) rmX9_see layM (fun ad => [.ref (ad 0), .int x1]) σ (some (fun _ => .int o)) σ :=
  sn_met (by decide) (fun _ => Nat.le_of_ble_eq_true rfl) (fun p e s m args below meth c ls D ct ad A C hw hl => wX9_see_in C  hf (fun H locs ls pc hw ok hd => sn_iret C hw hd) _ _ _ hw hl)
-- X9_advance
abbrev rmX9_advance : Room := { frames := 1, cells := 0, slots := 0, locals := 32 }
def BX9_advance_226 (σ : sn_S) (t1 : Int32) : Option (sn_S) :=
  (sn_lt (sn_pI σ 0 10 t1) fun σ_1 => (sn_lt (sn_pI σ_1 0 8 ((sn_I σ_1 0 8) + (1 : Int32))) fun σ_3 => (some σ_3)))
def BX9_advance_206 (σ : sn_S) : Option (sn_S) :=
  (sn_lt (sn_pI σ 0 10 (2 : Int32)) fun σ_1 => (some σ_1))
def BX9_advance_144 (σ : sn_S) : Option ((sn_S) ⊕ (sn_S)) :=
  ((fX9_see σ (sn_I σ 0 8)).bind fun t_1 => ((fX9_in t_1.toInt64 (48 : Int64) (57 : Int64)).bind fun t_3 => (if t_3 = 0 then
  (some (.inr (σ)))
  else
  ((fX9_see σ (sn_I σ 0 8)).bind fun t_6 => (sn_lt (if ((((10 : Int32) * (sn_I σ 0 11)) + t_6) - (48 : Int32)) < (99999 : Int32) then ((((10 : Int32) * (sn_I σ 0 11)) + t_6) - (48 : Int32)) else (99999 : Int32)) fun y_8 => (sn_lt (sn_pI σ 0 11 y_8) fun σ_10 => (sn_lt (sn_pI σ_10 0 8 ((sn_I σ_10 0 8) + (1 : Int32))) fun σ_12 => (some (.inl (σ_12))))))))))
def LX9_advance_144  (s : sn_S) : Option ((sn_S) ⊕ (sn_S)) := BX9_advance_144 s
def BX9_advance_117 (σ : sn_S) : Option (sn_S) :=
  (sn_lt (sn_pI σ 0 10 (1 : Int32)) fun σ_1 => (some σ_1))
def BX9_advance_83 (σ : sn_S) : Option ((sn_S) ⊕ (sn_S)) :=
  ((fX9_see σ (sn_I σ 0 8)).bind fun t_1 => ((fX9_in t_1.toInt64 (97 : Int64) (122 : Int64)).bind fun t_3 => (if t_3 = 0 then
  (some (.inr (σ)))
  else
  (sn_lt (sn_pI σ 0 8 ((sn_I σ 0 8) + (1 : Int32))) fun σ_6 => (some (.inl (σ_6)))))))
def LX9_advance_83  (s : sn_S) : Option ((sn_S) ⊕ (sn_S)) := BX9_advance_83 s
def BX9_advance_39 (σ : sn_S) : Option (sn_S) :=
  (sn_lt (sn_pI σ 0 9 (sn_I σ 0 8)) fun σ_1 => ((fX9_see σ_1 (sn_I σ_1 0 8)).bind fun t_3 => (if t_3 = (-1 : Int32) then
  (sn_lt (sn_pI σ_1 0 10 (0 : Int32)) fun σ_19 => (some σ_19))
  else
  ((fX9_in t_3.toInt64 (97 : Int64) (122 : Int64)).bind fun t_6 => (if t_6 = 0 then
  ((fX9_in t_3.toInt64 (48 : Int64) (57 : Int64)).bind fun t_9 => (if t_9 = 0 then
  (if t_3 = (59 : Int32) then
  (BX9_advance_226 σ_1 (3 : Int32))
  else
  (BX9_advance_226 σ_1 (4 : Int32)))
  else
  (sn_lt (sn_pI σ_1 0 11 (0 : Int32)) fun σ_13 => ((sn_it (LX9_advance_144 ) 5000 (σ_13)).bind fun t_15 => (BX9_advance_206 t_15)))))
  else
  ((sn_it (LX9_advance_83 ) 5000 (σ_1)).bind fun t_17 => (BX9_advance_117 t_17)))))))
def BX9_advance_26 (σ : sn_S) : Option ((sn_S) ⊕ (sn_S)) :=
  (sn_lt (sn_pI σ 0 8 ((sn_I σ 0 8) + (1 : Int32))) fun σ_1 => (some (.inl (σ_1))))
def BX9_advance_0 (σ : sn_S) : Option ((sn_S) ⊕ (sn_S)) :=
  ((fX9_see σ (sn_I σ 0 8)).bind fun t_1 => (if t_1 = (32 : Int32) then
  (BX9_advance_26 σ)
  else
  ((fX9_see σ (sn_I σ 0 8)).bind fun t_4 => (if t_4 = (10 : Int32) then
  (BX9_advance_26 σ)
  else
  (some (.inr (σ)))))))
def LX9_advance_0  (s : sn_S) : Option ((sn_S) ⊕ (sn_S)) := BX9_advance_0 s
def fX9_advance (σ : sn_S) : Option sn_S :=
  ((sn_it (LX9_advance_0 ) 5000 (σ)).bind fun t_1 => (BX9_advance_39 t_1))
theorem wX9_advance_226 (C : sn_C p s m args meth c RX9 cX9_advance 2 none D ct ad layM A) {σ : sn_S} {t1 : Int32}  {o : sn_S} (hf : BX9_advance_226 σ t1 = some o) (kr : sn_Kr p l e rmX9_advance s m args below meth c Q D ct ad layM A cX9_advance .return_ (true) o []) : sn_At p l e rmX9_advance s m args below meth c Q D ct ad layM A 2 σ 226 [(0, .ref (ad 0))] [.int t1, .ref (ad 0)] := by
  intro H locs ls hw hl
  have hx := C.1
  have hb := C.2.1
  unfold BX9_advance_226 at hf
  refine sn_putI C hw fp_RX9_116 layM_0 rfl dX9_advance_226 (fun H locs hw => ?_)
  obtain ⟨σ_1, e_2, hf⟩ := sn_ltE hf
  rw [← e_2] at hw
  refine lv_aload_n hx hb dX9_advance_229 rfl (lv_at hl 0 rfl) ?_
  refine lv_dup hx hb dX9_advance_230 rfl ?_
  refine sn_getI C hw fd_RX9_106 layM_0 rfl dX9_advance_231 ?_
  refine lv_iconst (v := 1) hx hb dX9_advance_234 rfl ?_
  refine lv_iadd hx hb dX9_advance_235 ?_
  refine sn_putI C hw fp_RX9_106 layM_0 rfl dX9_advance_236 (fun H locs hw => ?_)
  obtain ⟨σ_3, e_4, hf⟩ := sn_ltE hf
  rw [← e_4] at hw
  cases hf
  exact kr _ _ _ _ hw rfl dX9_advance_239
theorem wX9_advance_206 (C : sn_C p s m args meth c RX9 cX9_advance 2 none D ct ad layM A) {σ : sn_S}  {o : sn_S} (hf : BX9_advance_206 σ = some o) (kr : sn_Kr p l e rmX9_advance s m args below meth c Q D ct ad layM A cX9_advance .return_ (true) o []) : sn_At p l e rmX9_advance s m args below meth c Q D ct ad layM A 2 σ 206 [(0, .ref (ad 0))] [] := by
  intro H locs ls hw hl
  have hx := C.1
  have hb := C.2.1
  unfold BX9_advance_206 at hf
  refine lv_aload_n hx hb dX9_advance_206 rfl (lv_at hl 0 rfl) ?_
  refine lv_iconst (v := 2) hx hb dX9_advance_207 rfl ?_
  refine sn_putI C hw fp_RX9_116 layM_0 rfl dX9_advance_208 (fun H locs hw => ?_)
  obtain ⟨σ_1, e_2, hf⟩ := sn_ltE hf
  rw [← e_2] at hw
  refine lv_goto (tgt := 239) hx hb dX9_advance_211 (by decide) ?_
  cases hf
  exact kr _ _ _ _ hw rfl dX9_advance_239
theorem wX9_advance_144 (C : sn_C p s m args meth c RX9 cX9_advance 2 none D ct ad layM A) {σ : sn_S}  {o : (sn_S) ⊕ (sn_S)} (hf : BX9_advance_144 σ = some o) (kc : ∀ v, o = .inl v → sn_At p l e rmX9_advance s m args below meth c Q D ct ad layM A 2 v 144 [(0, .ref (ad 0))] []) (kx : ∀ v, o = .inr v → sn_At p l e rmX9_advance s m args below meth c Q D ct ad layM A 2 v 206 [(0, .ref (ad 0))] []) : sn_At p l e rmX9_advance s m args below meth c Q D ct ad layM A 2 σ 144 [(0, .ref (ad 0))] [] := by
  intro H locs ls hw hl
  have hx := C.1
  have hb := C.2.1
  unfold BX9_advance_144 at hf
  refine lv_aload_n hx hb dX9_advance_144 rfl (lv_at hl 0 rfl) ?_
  refine lv_aload_n hx hb dX9_advance_145 rfl (lv_at hl 0 rfl) ?_
  refine sn_getI C hw fd_RX9_106 layM_0 rfl dX9_advance_146 ?_
  obtain ⟨t_1, h_2, hf⟩ := sn_bd hf
  refine sn_callVi (rest := []) C hw (ctX9_see l  h_2) kl_RX9_109 layM_0 rfl rfl rfl rfl (Nat.le_of_ble_eq_true rfl) dX9_advance_149 hl.1 (fun H locs hw => ?_)
  refine lv_i2l hx hb dX9_advance_152 rfl ?_
  refine lv_ldc2 hx hb C.2.2.2.1 (C.2.2.2.2.1 _ kk_RX9_123) dX9_advance_153 ?_
  refine lv_ldc2 hx hb C.2.2.2.1 (C.2.2.2.2.1 _ kk_RX9_125) dX9_advance_156 ?_
  obtain ⟨t_3, h_4, hf⟩ := sn_bd hf
  refine sn_callSi (rest := []) C hw (ctX9_in l  h_4) kl_RX9_94 rfl rfl rfl (Nat.le_of_ble_eq_true rfl) dX9_advance_159 hl.1 (fun H locs hw => ?_)
  refine lv_if_eq (tgt := 206) hx hb dX9_advance_162 (by decide) (fun c_5 => ?_) (fun c_5 => ?_)
  · have hf := sn_if c_5 hf
    cases hf
    exact kx _ rfl _ _ _ hw (lv_sub hl [0] rfl)
  · have hf := sn_el c_5 hf
    refine lv_aload_n hx hb dX9_advance_165 rfl (lv_at hl 0 rfl) ?_
    refine lv_ldc hx hb C.2.2.2.1 (C.2.2.2.2.1 _ kk_RX9_130) dX9_advance_166 ?_
    refine lv_bipush (v := 10) hx hb dX9_advance_168 (by decide) ?_
    refine lv_aload_n hx hb dX9_advance_170 rfl (lv_at hl 0 rfl) ?_
    refine sn_getI C hw fd_RX9_127 layM_0 rfl dX9_advance_171 ?_
    refine lv_imul hx hb dX9_advance_174 ?_
    refine lv_aload_n hx hb dX9_advance_175 rfl (lv_at hl 0 rfl) ?_
    refine lv_aload_n hx hb dX9_advance_176 rfl (lv_at hl 0 rfl) ?_
    refine sn_getI C hw fd_RX9_106 layM_0 rfl dX9_advance_177 ?_
    obtain ⟨t_6, h_7, hf⟩ := sn_bd hf
    refine sn_callVi (rest := [.int ((10 : Int32) * (sn_I σ 0 11)), .int (99999 : Int32), .ref (ad 0)]) C hw (ctX9_see l  h_7) kl_RX9_109 layM_0 rfl rfl rfl rfl (Nat.le_of_ble_eq_true rfl) dX9_advance_180 hl.1 (fun H locs hw => ?_)
    refine lv_iadd hx hb dX9_advance_183 ?_
    refine lv_bipush (v := 48) hx hb dX9_advance_184 (by decide) ?_
    refine lv_isub hx hb dX9_advance_186 ?_
    refine va_mmin hx hb (C.2.2.1.trans hl.1.symm) C.2.2.2.1 (C.2.2.2.2.1 _ km_RX9_131) (C.2.2.2.2.1 _ kst_minI) (C.2.2.2.2.1 _ ki_Math) (C.2.2.2.2.1 _ kc_minI) (Nat.le_of_ble_eq_true rfl) (Nat.le_of_ble_eq_true rfl) (Nat.zero_le _) (Nat.zero_le _) dX9_advance_187 ?_
    obtain ⟨y_8, e_9, hf⟩ := sn_ltE hf
    refine lv_topi (fun y_8_ e_9_ => ?_)
    obtain rfl : y_8 = y_8_ := e_9.trans e_9_.symm
    refine sn_putI C hw fp_RX9_127 layM_0 rfl dX9_advance_190 (fun H locs hw => ?_)
    obtain ⟨σ_10, e_11, hf⟩ := sn_ltE hf
    rw [← e_11] at hw
    refine lv_aload_n hx hb dX9_advance_193 rfl (lv_at hl 0 rfl) ?_
    refine lv_dup hx hb dX9_advance_194 rfl ?_
    refine sn_getI C hw fd_RX9_106 layM_0 rfl dX9_advance_195 ?_
    refine lv_iconst (v := 1) hx hb dX9_advance_198 rfl ?_
    refine lv_iadd hx hb dX9_advance_199 ?_
    refine sn_putI C hw fp_RX9_106 layM_0 rfl dX9_advance_200 (fun H locs hw => ?_)
    obtain ⟨σ_12, e_13, hf⟩ := sn_ltE hf
    rw [← e_13] at hw
    refine lv_goto (tgt := 144) hx hb dX9_advance_203 (by decide) ?_
    cases hf
    exact kc _ rfl _ _ _ hw (lv_sub hl [0] rfl)
theorem wX9_advance_L144 (C : sn_C p s m args meth c RX9 cX9_advance 2 none D ct ad layM A)    {z : sn_S} {t : sn_S} (h : sn_it (LX9_advance_144 ) 5000 z = some t) (kx : ∀ v, t = v → sn_At p l e rmX9_advance s m args below meth c Q D ct ad layM A 2 v 206 [(0, .ref (ad 0))] []) : sn_At p l e rmX9_advance s m args below meth c Q D ct ad layM A 2 z 144 [(0, .ref (ad 0))] [] :=
  sn_loop (f := LX9_advance_144 ) (G := fun z => sn_At p l e rmX9_advance s m args below meth c Q D ct ad layM A 2 z 144 [(0, .ref (ad 0))] []) (E := fun t => (∀ v, t = v → sn_At p l e rmX9_advance s m args below meth c Q D ct ad layM A 2 v 206 [(0, .ref (ad 0))] []) ∧ True) (fun z o hf k1 k2 => wX9_advance_144 C  hf (fun v e => k1 v e) (fun v e => (k2 _ e).1 v rfl)) 5000 z t h ⟨kx, trivial⟩
theorem wX9_advance_117 (C : sn_C p s m args meth c RX9 cX9_advance 2 none D ct ad layM A) {σ : sn_S}  {o : sn_S} (hf : BX9_advance_117 σ = some o) (kr : sn_Kr p l e rmX9_advance s m args below meth c Q D ct ad layM A cX9_advance .return_ (true) o []) : sn_At p l e rmX9_advance s m args below meth c Q D ct ad layM A 2 σ 117 [(0, .ref (ad 0))] [] := by
  intro H locs ls hw hl
  have hx := C.1
  have hb := C.2.1
  unfold BX9_advance_117 at hf
  refine lv_aload_n hx hb dX9_advance_117 rfl (lv_at hl 0 rfl) ?_
  refine lv_iconst (v := 1) hx hb dX9_advance_118 rfl ?_
  refine sn_putI C hw fp_RX9_116 layM_0 rfl dX9_advance_119 (fun H locs hw => ?_)
  obtain ⟨σ_1, e_2, hf⟩ := sn_ltE hf
  rw [← e_2] at hw
  refine lv_goto (tgt := 239) hx hb dX9_advance_122 (by decide) ?_
  cases hf
  exact kr _ _ _ _ hw rfl dX9_advance_239
theorem wX9_advance_83 (C : sn_C p s m args meth c RX9 cX9_advance 2 none D ct ad layM A) {σ : sn_S}  {o : (sn_S) ⊕ (sn_S)} (hf : BX9_advance_83 σ = some o) (kc : ∀ v, o = .inl v → sn_At p l e rmX9_advance s m args below meth c Q D ct ad layM A 2 v 83 [(0, .ref (ad 0))] []) (kx : ∀ v, o = .inr v → sn_At p l e rmX9_advance s m args below meth c Q D ct ad layM A 2 v 117 [(0, .ref (ad 0))] []) : sn_At p l e rmX9_advance s m args below meth c Q D ct ad layM A 2 σ 83 [(0, .ref (ad 0))] [] := by
  intro H locs ls hw hl
  have hx := C.1
  have hb := C.2.1
  unfold BX9_advance_83 at hf
  refine lv_aload_n hx hb dX9_advance_83 rfl (lv_at hl 0 rfl) ?_
  refine lv_aload_n hx hb dX9_advance_84 rfl (lv_at hl 0 rfl) ?_
  refine sn_getI C hw fd_RX9_106 layM_0 rfl dX9_advance_85 ?_
  obtain ⟨t_1, h_2, hf⟩ := sn_bd hf
  refine sn_callVi (rest := []) C hw (ctX9_see l  h_2) kl_RX9_109 layM_0 rfl rfl rfl rfl (Nat.le_of_ble_eq_true rfl) dX9_advance_88 hl.1 (fun H locs hw => ?_)
  refine lv_i2l hx hb dX9_advance_91 rfl ?_
  refine lv_ldc2 hx hb C.2.2.2.1 (C.2.2.2.2.1 _ kk_RX9_119) dX9_advance_92 ?_
  refine lv_ldc2 hx hb C.2.2.2.1 (C.2.2.2.2.1 _ kk_RX9_121) dX9_advance_95 ?_
  obtain ⟨t_3, h_4, hf⟩ := sn_bd hf
  refine sn_callSi (rest := []) C hw (ctX9_in l  h_4) kl_RX9_94 rfl rfl rfl (Nat.le_of_ble_eq_true rfl) dX9_advance_98 hl.1 (fun H locs hw => ?_)
  refine lv_if_eq (tgt := 117) hx hb dX9_advance_101 (by decide) (fun c_5 => ?_) (fun c_5 => ?_)
  · have hf := sn_if c_5 hf
    cases hf
    exact kx _ rfl _ _ _ hw (lv_sub hl [0] rfl)
  · have hf := sn_el c_5 hf
    refine lv_aload_n hx hb dX9_advance_104 rfl (lv_at hl 0 rfl) ?_
    refine lv_dup hx hb dX9_advance_105 rfl ?_
    refine sn_getI C hw fd_RX9_106 layM_0 rfl dX9_advance_106 ?_
    refine lv_iconst (v := 1) hx hb dX9_advance_109 rfl ?_
    refine lv_iadd hx hb dX9_advance_110 ?_
    refine sn_putI C hw fp_RX9_106 layM_0 rfl dX9_advance_111 (fun H locs hw => ?_)
    obtain ⟨σ_6, e_7, hf⟩ := sn_ltE hf
    rw [← e_7] at hw
    refine lv_goto (tgt := 83) hx hb dX9_advance_114 (by decide) ?_
    cases hf
    exact kc _ rfl _ _ _ hw (lv_sub hl [0] rfl)
theorem wX9_advance_L83 (C : sn_C p s m args meth c RX9 cX9_advance 2 none D ct ad layM A)    {z : sn_S} {t : sn_S} (h : sn_it (LX9_advance_83 ) 5000 z = some t) (kx : ∀ v, t = v → sn_At p l e rmX9_advance s m args below meth c Q D ct ad layM A 2 v 117 [(0, .ref (ad 0))] []) : sn_At p l e rmX9_advance s m args below meth c Q D ct ad layM A 2 z 83 [(0, .ref (ad 0))] [] :=
  sn_loop (f := LX9_advance_83 ) (G := fun z => sn_At p l e rmX9_advance s m args below meth c Q D ct ad layM A 2 z 83 [(0, .ref (ad 0))] []) (E := fun t => (∀ v, t = v → sn_At p l e rmX9_advance s m args below meth c Q D ct ad layM A 2 v 117 [(0, .ref (ad 0))] []) ∧ True) (fun z o hf k1 k2 => wX9_advance_83 C  hf (fun v e => k1 v e) (fun v e => (k2 _ e).1 v rfl)) 5000 z t h ⟨kx, trivial⟩
theorem wX9_advance_39 (C : sn_C p s m args meth c RX9 cX9_advance 2 none D ct ad layM A) {σ : sn_S}  {o : sn_S} (hf : BX9_advance_39 σ = some o) (kr : sn_Kr p l e rmX9_advance s m args below meth c Q D ct ad layM A cX9_advance .return_ (true) o []) : sn_At p l e rmX9_advance s m args below meth c Q D ct ad layM A 2 σ 39 [(0, .ref (ad 0))] [] := by
  intro H locs ls hw hl
  have hx := C.1
  have hb := C.2.1
  unfold BX9_advance_39 at hf
  refine lv_aload_n hx hb dX9_advance_39 rfl (lv_at hl 0 rfl) ?_
  refine lv_aload_n hx hb dX9_advance_40 rfl (lv_at hl 0 rfl) ?_
  refine sn_getI C hw fd_RX9_106 layM_0 rfl dX9_advance_41 ?_
  refine sn_putI C hw fp_RX9_113 layM_0 rfl dX9_advance_44 (fun H locs hw => ?_)
  obtain ⟨σ_1, e_2, hf⟩ := sn_ltE hf
  rw [← e_2] at hw
  refine lv_aload_n hx hb dX9_advance_47 rfl (lv_at hl 0 rfl) ?_
  refine lv_aload_n hx hb dX9_advance_48 rfl (lv_at hl 0 rfl) ?_
  refine sn_getI C hw fd_RX9_106 layM_0 rfl dX9_advance_49 ?_
  obtain ⟨t_3, h_4, hf⟩ := sn_bd hf
  refine sn_callVi (rest := []) C hw (ctX9_see l  h_4) kl_RX9_109 layM_0 rfl rfl rfl rfl (Nat.le_of_ble_eq_true rfl) dX9_advance_52 hl.1 (fun H locs hw => ?_)
  refine lv_istore_n (lv' := [(1, .int t_3), (0, .ref (ad 0))]) hx hb dX9_advance_55 rfl hl (by decide) rfl (fun ls hl => ?_)
  refine lv_iload_n hx hb dX9_advance_56 rfl (lv_at hl 0 rfl) ?_
  refine lv_iconst (v := (-1)) hx hb dX9_advance_57 rfl ?_
  refine lv_icmp_ne (tgt := 69) hx hb dX9_advance_58 (by decide) (fun c_5 => ?_) (fun c_5 => ?_)
  · have hf := sn_el c_5 hf
    refine lv_iload_n hx hb dX9_advance_69 rfl (lv_at hl 0 rfl) ?_
    refine lv_i2l hx hb dX9_advance_70 rfl ?_
    refine lv_ldc2 hx hb C.2.2.2.1 (C.2.2.2.2.1 _ kk_RX9_119) dX9_advance_71 ?_
    refine lv_ldc2 hx hb C.2.2.2.1 (C.2.2.2.2.1 _ kk_RX9_121) dX9_advance_74 ?_
    obtain ⟨t_6, h_7, hf⟩ := sn_bd hf
    refine sn_callSi (rest := []) C hw (ctX9_in l  h_7) kl_RX9_94 rfl rfl rfl (Nat.le_of_ble_eq_true rfl) dX9_advance_77 hl.1 (fun H locs hw => ?_)
    refine lv_if_eq (tgt := 125) hx hb dX9_advance_80 (by decide) (fun c_8 => ?_) (fun c_8 => ?_)
    · have hf := sn_if c_8 hf
      refine lv_iload_n hx hb dX9_advance_125 rfl (lv_at hl 0 rfl) ?_
      refine lv_i2l hx hb dX9_advance_126 rfl ?_
      refine lv_ldc2 hx hb C.2.2.2.1 (C.2.2.2.2.1 _ kk_RX9_123) dX9_advance_127 ?_
      refine lv_ldc2 hx hb C.2.2.2.1 (C.2.2.2.2.1 _ kk_RX9_125) dX9_advance_130 ?_
      obtain ⟨t_9, h_10, hf⟩ := sn_bd hf
      refine sn_callSi (rest := []) C hw (ctX9_in l  h_10) kl_RX9_94 rfl rfl rfl (Nat.le_of_ble_eq_true rfl) dX9_advance_133 hl.1 (fun H locs hw => ?_)
      refine lv_if_eq (tgt := 214) hx hb dX9_advance_136 (by decide) (fun c_11 => ?_) (fun c_11 => ?_)
      · have hf := sn_if c_11 hf
        refine lv_aload_n hx hb dX9_advance_214 rfl (lv_at hl 1 rfl) ?_
        refine lv_iload_n hx hb dX9_advance_215 rfl (lv_at hl 0 rfl) ?_
        refine lv_bipush (v := 59) hx hb dX9_advance_216 (by decide) ?_
        refine lv_icmp_ne (tgt := 225) hx hb dX9_advance_218 (by decide) (fun c_12 => ?_) (fun c_12 => ?_)
        · have hf := sn_el c_12 hf
          refine lv_iconst (v := 4) hx hb dX9_advance_225 rfl ?_
          exact wX9_advance_226 C  hf kr _ _ _ hw (lv_sub hl [1] rfl)
        · have hf := sn_if c_12 hf
          refine lv_iconst (v := 3) hx hb dX9_advance_221 rfl ?_
          refine lv_goto (tgt := 226) hx hb dX9_advance_222 (by decide) ?_
          exact wX9_advance_226 C  hf kr _ _ _ hw (lv_sub hl [1] rfl)
      · have hf := sn_el c_11 hf
        refine lv_aload_n hx hb dX9_advance_139 rfl (lv_at hl 1 rfl) ?_
        refine lv_iconst (v := 0) hx hb dX9_advance_140 rfl ?_
        refine sn_putI C hw fp_RX9_127 layM_0 rfl dX9_advance_141 (fun H locs hw => ?_)
        obtain ⟨σ_13, e_14, hf⟩ := sn_ltE hf
        rw [← e_14] at hw
        obtain ⟨t_15, h_16, hf⟩ := sn_bd hf
        exact wX9_advance_L144 C  h_16 (fun v e => by cases e; exact wX9_advance_206 C  hf kr) _ _ _ hw (lv_sub hl [1] rfl)
    · have hf := sn_el c_8 hf
      obtain ⟨t_17, h_18, hf⟩ := sn_bd hf
      exact wX9_advance_L83 C  h_18 (fun v e => by cases e; exact wX9_advance_117 C  hf kr) _ _ _ hw (lv_sub hl [1] rfl)
  · have hf := sn_if c_5 hf
    refine lv_aload_n hx hb dX9_advance_61 rfl (lv_at hl 1 rfl) ?_
    refine lv_iconst (v := 0) hx hb dX9_advance_62 rfl ?_
    refine sn_putI C hw fp_RX9_116 layM_0 rfl dX9_advance_63 (fun H locs hw => ?_)
    obtain ⟨σ_19, e_20, hf⟩ := sn_ltE hf
    rw [← e_20] at hw
    refine lv_goto (tgt := 239) hx hb dX9_advance_66 (by decide) ?_
    cases hf
    exact kr _ _ _ _ hw rfl dX9_advance_239
theorem wX9_advance_26 (C : sn_C p s m args meth c RX9 cX9_advance 2 none D ct ad layM A) {σ : sn_S}  {o : (sn_S) ⊕ (sn_S)} (hf : BX9_advance_26 σ = some o) (kc : ∀ v, o = .inl v → sn_At p l e rmX9_advance s m args below meth c Q D ct ad layM A 2 v 0 [(0, .ref (ad 0))] []) (kx : ∀ v, o = .inr v → sn_At p l e rmX9_advance s m args below meth c Q D ct ad layM A 2 v 39 [(0, .ref (ad 0))] []) : sn_At p l e rmX9_advance s m args below meth c Q D ct ad layM A 2 σ 26 [(0, .ref (ad 0))] [] := by
  intro H locs ls hw hl
  have hx := C.1
  have hb := C.2.1
  unfold BX9_advance_26 at hf
  refine lv_aload_n hx hb dX9_advance_26 rfl (lv_at hl 0 rfl) ?_
  refine lv_dup hx hb dX9_advance_27 rfl ?_
  refine sn_getI C hw fd_RX9_106 layM_0 rfl dX9_advance_28 ?_
  refine lv_iconst (v := 1) hx hb dX9_advance_31 rfl ?_
  refine lv_iadd hx hb dX9_advance_32 ?_
  refine sn_putI C hw fp_RX9_106 layM_0 rfl dX9_advance_33 (fun H locs hw => ?_)
  obtain ⟨σ_1, e_2, hf⟩ := sn_ltE hf
  rw [← e_2] at hw
  refine lv_goto (tgt := 0) hx hb dX9_advance_36 (by decide) ?_
  cases hf
  exact kc _ rfl _ _ _ hw (lv_sub hl [0] rfl)
theorem wX9_advance_0 (C : sn_C p s m args meth c RX9 cX9_advance 2 none D ct ad layM A) {σ : sn_S}  {o : (sn_S) ⊕ (sn_S)} (hf : BX9_advance_0 σ = some o) (kc : ∀ v, o = .inl v → sn_At p l e rmX9_advance s m args below meth c Q D ct ad layM A 2 v 0 [(0, .ref (ad 0))] []) (kx : ∀ v, o = .inr v → sn_At p l e rmX9_advance s m args below meth c Q D ct ad layM A 2 v 39 [(0, .ref (ad 0))] []) : sn_At p l e rmX9_advance s m args below meth c Q D ct ad layM A 2 σ 0 [(0, .ref (ad 0))] [] := by
  intro H locs ls hw hl
  have hx := C.1
  have hb := C.2.1
  unfold BX9_advance_0 at hf
  refine lv_aload_n hx hb dX9_advance_0 rfl (lv_at hl 0 rfl) ?_
  refine lv_aload_n hx hb dX9_advance_1 rfl (lv_at hl 0 rfl) ?_
  refine sn_getI C hw fd_RX9_106 layM_0 rfl dX9_advance_2 ?_
  obtain ⟨t_1, h_2, hf⟩ := sn_bd hf
  refine sn_callVi (rest := []) C hw (ctX9_see l  h_2) kl_RX9_109 layM_0 rfl rfl rfl rfl (Nat.le_of_ble_eq_true rfl) dX9_advance_5 hl.1 (fun H locs hw => ?_)
  refine lv_bipush (v := 32) hx hb dX9_advance_8 (by decide) ?_
  refine lv_icmp_eq (tgt := 26) hx hb dX9_advance_10 (by decide) (fun c_3 => ?_) (fun c_3 => ?_)
  · have hf := sn_if c_3 hf
    exact wX9_advance_26 C  hf kc kx _ _ _ hw (lv_sub hl [0] rfl)
  · have hf := sn_el c_3 hf
    refine lv_aload_n hx hb dX9_advance_13 rfl (lv_at hl 0 rfl) ?_
    refine lv_aload_n hx hb dX9_advance_14 rfl (lv_at hl 0 rfl) ?_
    refine sn_getI C hw fd_RX9_106 layM_0 rfl dX9_advance_15 ?_
    obtain ⟨t_4, h_5, hf⟩ := sn_bd hf
    refine sn_callVi (rest := []) C hw (ctX9_see l  h_5) kl_RX9_109 layM_0 rfl rfl rfl rfl (Nat.le_of_ble_eq_true rfl) dX9_advance_18 hl.1 (fun H locs hw => ?_)
    refine lv_bipush (v := 10) hx hb dX9_advance_21 (by decide) ?_
    refine lv_icmp_ne (tgt := 39) hx hb dX9_advance_23 (by decide) (fun c_6 => ?_) (fun c_6 => ?_)
    · have hf := sn_el c_6 hf
      cases hf
      exact kx _ rfl _ _ _ hw (lv_sub hl [0] rfl)
    · have hf := sn_if c_6 hf
      exact wX9_advance_26 C  hf kc kx _ _ _ hw (lv_sub hl [0] rfl)
theorem wX9_advance_L0 (C : sn_C p s m args meth c RX9 cX9_advance 2 none D ct ad layM A)    {z : sn_S} {t : sn_S} (h : sn_it (LX9_advance_0 ) 5000 z = some t) (kx : ∀ v, t = v → sn_At p l e rmX9_advance s m args below meth c Q D ct ad layM A 2 v 39 [(0, .ref (ad 0))] []) : sn_At p l e rmX9_advance s m args below meth c Q D ct ad layM A 2 z 0 [(0, .ref (ad 0))] [] :=
  sn_loop (f := LX9_advance_0 ) (G := fun z => sn_At p l e rmX9_advance s m args below meth c Q D ct ad layM A 2 z 0 [(0, .ref (ad 0))] []) (E := fun t => (∀ v, t = v → sn_At p l e rmX9_advance s m args below meth c Q D ct ad layM A 2 v 39 [(0, .ref (ad 0))] []) ∧ True) (fun z o hf k1 k2 => wX9_advance_0 C  hf (fun v e => k1 v e) (fun v e => (k2 _ e).1 v rfl)) 5000 z t h ⟨kx, trivial⟩
theorem wX9_advance_in (C : sn_C p s m args meth c RX9 cX9_advance 2 none D ct ad layM A) {σ : sn_S}  {o : sn_S} (hf : fX9_advance σ = some o) (kr : sn_Kr p l e rmX9_advance s m args below meth c Q D ct ad layM A cX9_advance .return_ (true) o []) : sn_At p l e rmX9_advance s m args below meth c Q D ct ad layM A 2 σ 0 [(0, .ref (ad 0))] [] := by
  intro H locs ls hw hl
  have hx := C.1
  have hb := C.2.1
  unfold fX9_advance at hf
  obtain ⟨t_1, h_2, hf⟩ := sn_bd hf
  exact wX9_advance_L0 C  h_2 (fun v e => by cases e; exact wX9_advance_39 C  hf kr) _ _ _ hw (lv_sub hl [0] rfl)
theorem ctX9_advance (l : Launch) {σ : sn_S}  {o : sn_S} (hf : fX9_advance σ = some o) : sn_M l yX9_advance cX9_advance 2 none rmX9_advance layM (fun ad => [.ref (ad 0)]) σ none o :=
  sn_met (by decide) (fun _ => Nat.le_of_ble_eq_true rfl) (fun p e s m args below meth c ls D ct ad A C hw hl => wX9_advance_in C  hf (fun H locs ls pc hw ok hd => sn_vret C hw hd) _ _ _ hw hl)
-- X9_good
abbrev rmX9_good : Room := { frames := 0, cells := 0, slots := 0, locals := 0 }
def fX9_good (σ : sn_S) : Option Int32 :=
  (if (sn_I σ 0 12) = 0 then
  (sn_gd (sn_b01 (1 : Int32)) (some (1 : Int32)))
  else
  (sn_gd (sn_b01 (0 : Int32)) (some (0 : Int32))))
theorem wX9_good_in (C : sn_C p s m args meth c RX9 cX9_good 1 (some .boolean) D ct ad layM A) {σ : sn_S}  {o : Int32} (hf : fX9_good σ = some o) (kr : sn_Kr p l e rmX9_good s m args below meth c Q D ct ad layM A cX9_good .ireturn (sn_b01 o) σ [.int o]) : sn_At p l e rmX9_good s m args below meth c Q D ct ad layM A 1 σ 0 [(0, .ref (ad 0))] [] := by
  intro H locs ls hw hl
  have hx := C.1
  have hb := C.2.1
  unfold fX9_good at hf
  refine lv_aload_n hx hb dX9_good_0 rfl (lv_at hl 0 rfl) ?_
  refine sn_getI C hw fd_RX9_137 layM_0 rfl dX9_good_1 ?_
  refine lv_if_ne (tgt := 11) hx hb dX9_good_4 (by decide) (fun c_1 => ?_) (fun c_1 => ?_)
  · have hf := sn_el c_1 hf
    refine lv_iconst (v := 0) hx hb dX9_good_11 rfl ?_
    obtain ⟨g_2, hf⟩ := sn_gdE hf
    cases hf
    exact kr _ _ _ _ hw g_2 dX9_good_12
  · have hf := sn_if c_1 hf
    refine lv_iconst (v := 1) hx hb dX9_good_7 rfl ?_
    refine lv_goto (tgt := 12) hx hb dX9_good_8 (by decide) ?_
    obtain ⟨g_3, hf⟩ := sn_gdE hf
    cases hf
    exact kr _ _ _ _ hw g_3 dX9_good_12
theorem ctX9_good (l : Launch) {σ : sn_S}  {o : Int32} (hf : fX9_good σ = some o) : sn_M l yX9_good cX9_good 1 (some .boolean) rmX9_good layM (fun ad => [.ref (ad 0)]) σ (some (fun _ => .int o)) σ :=
  sn_met (by decide) (fun _ => Nat.le_of_ble_eq_true rfl) (fun p e s m args below meth c ls D ct ad A C hw hl => wX9_good_in C  hf (fun H locs ls pc hw ok hd => sn_zret C hw ok hd) _ _ _ hw hl)
-- X9_errs
abbrev rmX9_errs : Room := { frames := 1, cells := 0, slots := 0, locals := 20 }
def fX9_errs (σ : sn_S) (x1 : Int32) : Option sn_S :=
  ((fX9_good σ).bind fun t_1 => (if t_1 = 0 then
  (some σ)
  else
  (sn_lt (sn_pI σ 0 12 x1) fun σ_4 => (sn_lt (sn_pI σ_4 0 13 (sn_I σ_4 0 9)) fun σ_6 => (some σ_6)))))
theorem wX9_errs_in (C : sn_C p s m args meth c RX9 cX9_errs 2 none D ct ad layM A) {σ : sn_S} {x1 : Int32}  {o : sn_S} (hf : fX9_errs σ x1 = some o) (kr : sn_Kr p l e rmX9_errs s m args below meth c Q D ct ad layM A cX9_errs .return_ (true) o []) : sn_At p l e rmX9_errs s m args below meth c Q D ct ad layM A 2 σ 0 [(0, .ref (ad 0)), (1, .int x1)] [] := by
  intro H locs ls hw hl
  have hx := C.1
  have hb := C.2.1
  unfold fX9_errs at hf
  refine lv_aload_n hx hb dX9_errs_0 rfl (lv_at hl 0 rfl) ?_
  obtain ⟨t_1, h_2, hf⟩ := sn_bd hf
  refine sn_callVi (rest := []) C hw (ctX9_good l  h_2) kl_RX9_140 layM_0 rfl rfl rfl rfl (Nat.le_of_ble_eq_true rfl) dX9_errs_1 hl.1 (fun H locs hw => ?_)
  refine lv_if_ne (tgt := 8) hx hb dX9_errs_4 (by decide) (fun c_3 => ?_) (fun c_3 => ?_)
  · have hf := sn_el c_3 hf
    refine lv_aload_n hx hb dX9_errs_8 rfl (lv_at hl 0 rfl) ?_
    refine lv_iload_n hx hb dX9_errs_9 rfl (lv_at hl 1 rfl) ?_
    refine sn_putI C hw fp_RX9_137 layM_0 rfl dX9_errs_10 (fun H locs hw => ?_)
    obtain ⟨σ_4, e_5, hf⟩ := sn_ltE hf
    rw [← e_5] at hw
    refine lv_aload_n hx hb dX9_errs_13 rfl (lv_at hl 0 rfl) ?_
    refine lv_aload_n hx hb dX9_errs_14 rfl (lv_at hl 0 rfl) ?_
    refine sn_getI C hw fd_RX9_113 layM_0 rfl dX9_errs_15 ?_
    refine sn_putI C hw fp_RX9_27 layM_0 rfl dX9_errs_18 (fun H locs hw => ?_)
    obtain ⟨σ_6, e_7, hf⟩ := sn_ltE hf
    rw [← e_7] at hw
    cases hf
    exact kr _ _ _ _ hw rfl dX9_errs_21
  · have hf := sn_if c_3 hf
    cases hf
    exact kr _ _ _ _ hw rfl dX9_errs_7
theorem ctX9_errs (l : Launch) {σ : sn_S} {x1 : Int32}  {o : sn_S} (hf : fX9_errs σ x1 = some o) : sn_M l yX9_errs cX9_errs 2 none rmX9_errs layM (fun ad => [.ref (ad 0), .int x1]) σ none o :=
  sn_met (by decide) (fun _ => Nat.le_of_ble_eq_true rfl) (fun p e s m args below meth c ls D ct ad A C hw hl => wX9_errs_in C  hf (fun H locs ls pc hw ok hd => sn_vret C hw hd) _ _ _ hw hl)
-- X9_is
abbrev rmX9_is : Room := { frames := 4, cells := 0, slots := 0, locals := 85 }
def BX9_is_82 (σ : sn_S) (k1 : Nat) (x2 : Int32) : Option (Int32) :=
  (sn_gd (sn_b01 x2) (some x2))
def BX9_is_75 (σ : sn_S) (k1 : Nat) (x2 : Int32) (x3 : Int32) (t0 : Int32) : Option ((Int32 × Int32) ⊕ (Int32)) :=
  (sn_lt (x3 + 1) fun y_1 => (some (.inl (t0, y_1))))
def BX9_is_39 (σ : sn_S) (k1 : Nat) (x2 : Int32) (x3 : Int32) : Option ((Int32 × Int32) ⊕ (Int32)) :=
  ((sn_slen k1).bind fun t_1 => (if t_1 ≤ x3 then
  (some (.inr (x2)))
  else
  (if x2 = 0 then
  (some (.inr (x2)))
  else
  (sn_gd (sn_in ((sn_I σ 0 9) + x3) 900) ((sn_sat k1 x3).bind fun t_6 => (if (sn_I σ 4 ((sn_I σ 0 9) + x3).toNatClampNeg) = t_6 then
  (BX9_is_75 σ k1 x2 x3 (1 : Int32))
  else
  (BX9_is_75 σ k1 x2 x3 (0 : Int32))))))))
def LX9_is_39 (σ : sn_S) (k1 : Nat) (s : Int32 × Int32) : Option ((Int32 × Int32) ⊕ (Int32)) := BX9_is_39 σ k1 s.1 s.2
def BX9_is_36 (σ : sn_S) (k1 : Nat) (t0 : Int32) : Option (Int32) :=
  ((sn_it (LX9_is_39 σ k1) 5000 (t0, (0 : Int32))).bind fun t_1 => (BX9_is_82 σ k1 t_1))
def BX9_is_35 (σ : sn_S) (k1 : Nat) : Option (Int32) :=
  (BX9_is_36 σ k1 (0 : Int32))
def fX9_is (σ : sn_S) (k1 : Nat) : Option Int32 :=
  ((fX9_good σ).bind fun t_1 => (if t_1 = 0 then
  (BX9_is_35 σ k1)
  else
  (if (sn_I σ 0 10) = (1 : Int32) then
  ((sn_slen k1).bind fun t_5 => (if ((sn_I σ 0 8) - (sn_I σ 0 9)) = t_5 then
  (BX9_is_36 σ k1 (1 : Int32))
  else
  (BX9_is_35 σ k1)))
  else
  (BX9_is_35 σ k1))))
theorem wX9_is_82 (C : sn_C p s m args meth c RX9 cX9_is 4 (some .boolean) D ct ad layM A) {σ : sn_S} {k1 : Nat} {x2 : Int32}  {o : Int32} (hf : BX9_is_82 σ k1 x2 = some o) (kr : sn_Kr p l e rmX9_is s m args below meth c Q D ct ad layM A cX9_is .ireturn (sn_b01 o) σ [.int o]) : sn_At p l e rmX9_is s m args below meth c Q D ct ad layM A 4 σ 82 [(2, .int x2)] [] := by
  intro H locs ls hw hl
  have hx := C.1
  have hb := C.2.1
  unfold BX9_is_82 at hf
  refine lv_iload_n hx hb dX9_is_82 rfl (lv_at hl 0 rfl) ?_
  obtain ⟨g_1, hf⟩ := sn_gdE hf
  cases hf
  exact kr _ _ _ _ hw g_1 dX9_is_83
theorem wX9_is_75 (C : sn_C p s m args meth c RX9 cX9_is 4 (some .boolean) D ct ad layM A) {σ : sn_S} {k1 : Nat} {x2 : Int32} {x3 : Int32} {t0 : Int32}  {o : (Int32 × Int32) ⊕ (Int32)} (hf : BX9_is_75 σ k1 x2 x3 t0 = some o) (kc : ∀ v, o = .inl v → sn_At p l e rmX9_is s m args below meth c Q D ct ad layM A 4 σ 39 [(0, .ref (ad 0)), (1, .ref (ad (1000 + k1))), (2, .int v.1), (3, .int v.2)] []) (kx : ∀ v, o = .inr v → sn_At p l e rmX9_is s m args below meth c Q D ct ad layM A 4 σ 82 [(2, .int v)] []) : sn_At p l e rmX9_is s m args below meth c Q D ct ad layM A 4 σ 75 [(0, .ref (ad 0)), (1, .ref (ad (1000 + k1))), (2, .int x2), (3, .int x3)] [.int t0] := by
  intro H locs ls hw hl
  have hx := C.1
  have hb := C.2.1
  unfold BX9_is_75 at hf
  refine lv_istore_n (lv' := [(2, .int t0), (0, .ref (ad 0)), (1, .ref (ad (1000 + k1))), (3, .int x3)]) hx hb dX9_is_75 rfl hl (by decide) rfl (fun ls hl => ?_)
  obtain ⟨y_1, e_2, hf⟩ := sn_ltE hf
  refine lv_iinc (v := y_1) (lv' := [(3, .int y_1), (2, .int t0), (0, .ref (ad 0)), (1, .ref (ad (1000 + k1)))]) hx hb dX9_is_76 hl (k := 3) rfl (by rw [e_2]; rfl) (by decide) rfl (fun ls hl => ?_)
  refine lv_goto (tgt := 39) hx hb dX9_is_79 (by decide) ?_
  cases hf
  exact kc _ rfl _ _ _ hw (lv_sub hl [2, 3, 1, 0] rfl)
theorem wX9_is_39 (C : sn_C p s m args meth c RX9 cX9_is 4 (some .boolean) D ct ad layM A) {σ : sn_S} {k1 : Nat} {x2 : Int32} {x3 : Int32}  {o : (Int32 × Int32) ⊕ (Int32)} (hf : BX9_is_39 σ k1 x2 x3 = some o) (kc : ∀ v, o = .inl v → sn_At p l e rmX9_is s m args below meth c Q D ct ad layM A 4 σ 39 [(0, .ref (ad 0)), (1, .ref (ad (1000 + k1))), (2, .int v.1), (3, .int v.2)] []) (kx : ∀ v, o = .inr v → sn_At p l e rmX9_is s m args below meth c Q D ct ad layM A 4 σ 82 [(2, .int v)] []) : sn_At p l e rmX9_is s m args below meth c Q D ct ad layM A 4 σ 39 [(0, .ref (ad 0)), (1, .ref (ad (1000 + k1))), (2, .int x2), (3, .int x3)] [] := by
  intro H locs ls hw hl
  have hx := C.1
  have hb := C.2.1
  unfold BX9_is_39 at hf
  refine lv_iload_n hx hb dX9_is_39 rfl (lv_at hl 3 rfl) ?_
  refine lv_aload_n hx hb dX9_is_40 rfl (lv_at hl 1 rfl) ?_
  obtain ⟨t_1, h_2, hf⟩ := sn_bd hf
  refine sn_strlen (rest := [.int x3]) C hw h_2 kl_RX9_144 rfl (Nat.le_of_ble_eq_true rfl) dX9_is_41 hl.1 (fun H locs hw => ?_)
  refine lv_icmp_ge (tgt := 82) hx hb dX9_is_44 (by decide) (fun c_3 => ?_) (fun c_3 => ?_)
  · have hf := sn_if c_3 hf
    cases hf
    exact kx _ rfl _ _ _ hw (lv_sub hl [2] rfl)
  · have hf := sn_el c_3 hf
    refine lv_iload_n hx hb dX9_is_47 rfl (lv_at hl 2 rfl) ?_
    refine lv_if_eq (tgt := 82) hx hb dX9_is_48 (by decide) (fun c_4 => ?_) (fun c_4 => ?_)
    · have hf := sn_if c_4 hf
      cases hf
      exact kx _ rfl _ _ _ hw (lv_sub hl [2] rfl)
    · have hf := sn_el c_4 hf
      refine lv_aload_n hx hb dX9_is_51 rfl (lv_at hl 0 rfl) ?_
      refine sn_getC (r := 4) C hw fd_RX9_20 layM_0 rfl dX9_is_52 ?_
      refine lv_aload_n hx hb dX9_is_55 rfl (lv_at hl 0 rfl) ?_
      refine sn_getI C hw fd_RX9_113 layM_0 rfl dX9_is_56 ?_
      refine lv_iload_n hx hb dX9_is_59 rfl (lv_at hl 3 rfl) ?_
      refine lv_iadd hx hb dX9_is_60 ?_
      obtain ⟨g_5, hf⟩ := sn_gdE hf
      refine sn_bald C hw layM_4 g_5 dX9_is_61 ?_
      refine lv_aload_n hx hb dX9_is_62 rfl (lv_at hl 1 rfl) ?_
      refine lv_iload_n hx hb dX9_is_63 rfl (lv_at hl 3 rfl) ?_
      obtain ⟨t_6, h_7, hf⟩ := sn_bd hf
      refine sn_strat (rest := [.int (sn_I σ 4 ((sn_I σ 0 9) + x3).toNatClampNeg)]) C hw h_7 kl_RX9_150 rfl (Nat.le_of_ble_eq_true rfl) dX9_is_64 hl.1 (fun H locs hw => ?_)
      refine lv_icmp_ne (tgt := 74) hx hb dX9_is_67 (by decide) (fun c_8 => ?_) (fun c_8 => ?_)
      · have hf := sn_el c_8 hf
        refine lv_iconst (v := 0) hx hb dX9_is_74 rfl ?_
        exact wX9_is_75 C  hf kc kx _ _ _ hw (lv_sub hl [0, 1, 2, 3] rfl)
      · have hf := sn_if c_8 hf
        refine lv_iconst (v := 1) hx hb dX9_is_70 rfl ?_
        refine lv_goto (tgt := 75) hx hb dX9_is_71 (by decide) ?_
        exact wX9_is_75 C  hf kc kx _ _ _ hw (lv_sub hl [0, 1, 2, 3] rfl)
theorem wX9_is_L39 (C : sn_C p s m args meth c RX9 cX9_is 4 (some .boolean) D ct ad layM A) {σ : sn_S} {k1 : Nat}   {z : Int32 × Int32} {t : Int32} (h : sn_it (LX9_is_39 σ k1) 5000 z = some t) (kx : ∀ v, t = v → sn_At p l e rmX9_is s m args below meth c Q D ct ad layM A 4 σ 82 [(2, .int v)] []) : sn_At p l e rmX9_is s m args below meth c Q D ct ad layM A 4 σ 39 [(0, .ref (ad 0)), (1, .ref (ad (1000 + k1))), (2, .int z.1), (3, .int z.2)] [] :=
  sn_loop (f := LX9_is_39 σ k1) (G := fun z => sn_At p l e rmX9_is s m args below meth c Q D ct ad layM A 4 σ 39 [(0, .ref (ad 0)), (1, .ref (ad (1000 + k1))), (2, .int z.1), (3, .int z.2)] []) (E := fun t => (∀ v, t = v → sn_At p l e rmX9_is s m args below meth c Q D ct ad layM A 4 σ 82 [(2, .int v)] []) ∧ True) (fun z o hf k1 k2 => wX9_is_39 C  hf (fun v e => k1 v e) (fun v e => (k2 _ e).1 v rfl)) 5000 z t h ⟨kx, trivial⟩
theorem wX9_is_36 (C : sn_C p s m args meth c RX9 cX9_is 4 (some .boolean) D ct ad layM A) {σ : sn_S} {k1 : Nat} {t0 : Int32}  {o : Int32} (hf : BX9_is_36 σ k1 t0 = some o) (kr : sn_Kr p l e rmX9_is s m args below meth c Q D ct ad layM A cX9_is .ireturn (sn_b01 o) σ [.int o]) : sn_At p l e rmX9_is s m args below meth c Q D ct ad layM A 4 σ 36 [(0, .ref (ad 0)), (1, .ref (ad (1000 + k1)))] [.int t0] := by
  intro H locs ls hw hl
  have hx := C.1
  have hb := C.2.1
  unfold BX9_is_36 at hf
  refine lv_istore_n (lv' := [(2, .int t0), (0, .ref (ad 0)), (1, .ref (ad (1000 + k1)))]) hx hb dX9_is_36 rfl hl (by decide) rfl (fun ls hl => ?_)
  refine lv_iconst (v := 0) hx hb dX9_is_37 rfl ?_
  refine lv_istore_n (lv' := [(3, .int (0 : Int32)), (2, .int t0), (0, .ref (ad 0)), (1, .ref (ad (1000 + k1)))]) hx hb dX9_is_38 rfl hl (by decide) rfl (fun ls hl => ?_)
  obtain ⟨t_1, h_2, hf⟩ := sn_bd hf
  exact wX9_is_L39 C  h_2 (fun v e => by cases e; exact wX9_is_82 C  hf kr) _ _ _ hw (lv_sub hl [2, 3, 1, 0] rfl)
theorem wX9_is_35 (C : sn_C p s m args meth c RX9 cX9_is 4 (some .boolean) D ct ad layM A) {σ : sn_S} {k1 : Nat}  {o : Int32} (hf : BX9_is_35 σ k1 = some o) (kr : sn_Kr p l e rmX9_is s m args below meth c Q D ct ad layM A cX9_is .ireturn (sn_b01 o) σ [.int o]) : sn_At p l e rmX9_is s m args below meth c Q D ct ad layM A 4 σ 35 [(0, .ref (ad 0)), (1, .ref (ad (1000 + k1)))] [] := by
  intro H locs ls hw hl
  have hx := C.1
  have hb := C.2.1
  unfold BX9_is_35 at hf
  refine lv_iconst (v := 0) hx hb dX9_is_35 rfl ?_
  exact wX9_is_36 C  hf kr _ _ _ hw (lv_sub hl [0, 1] rfl)
theorem wX9_is_in (C : sn_C p s m args meth c RX9 cX9_is 4 (some .boolean) D ct ad layM A) {σ : sn_S} {k1 : Nat}  {o : Int32} (hf : fX9_is σ k1 = some o) (kr : sn_Kr p l e rmX9_is s m args below meth c Q D ct ad layM A cX9_is .ireturn (sn_b01 o) σ [.int o]) : sn_At p l e rmX9_is s m args below meth c Q D ct ad layM A 4 σ 0 [(0, .ref (ad 0)), (1, .ref (ad (1000 + k1)))] [] := by
  intro H locs ls hw hl
  have hx := C.1
  have hb := C.2.1
  unfold fX9_is at hf
  refine lv_aload_n hx hb dX9_is_0 rfl (lv_at hl 0 rfl) ?_
  obtain ⟨t_1, h_2, hf⟩ := sn_bd hf
  refine sn_callVi (rest := []) C hw (ctX9_good l  h_2) kl_RX9_140 layM_0 rfl rfl rfl rfl (Nat.le_of_ble_eq_true rfl) dX9_is_1 hl.1 (fun H locs hw => ?_)
  refine lv_if_eq (tgt := 35) hx hb dX9_is_4 (by decide) (fun c_3 => ?_) (fun c_3 => ?_)
  · have hf := sn_if c_3 hf
    exact wX9_is_35 C  hf kr _ _ _ hw (lv_sub hl [0, 1] rfl)
  · have hf := sn_el c_3 hf
    refine lv_aload_n hx hb dX9_is_7 rfl (lv_at hl 0 rfl) ?_
    refine sn_getI C hw fd_RX9_116 layM_0 rfl dX9_is_8 ?_
    refine lv_iconst (v := 1) hx hb dX9_is_11 rfl ?_
    refine lv_icmp_ne (tgt := 35) hx hb dX9_is_12 (by decide) (fun c_4 => ?_) (fun c_4 => ?_)
    · have hf := sn_el c_4 hf
      exact wX9_is_35 C  hf kr _ _ _ hw (lv_sub hl [0, 1] rfl)
    · have hf := sn_if c_4 hf
      refine lv_aload_n hx hb dX9_is_15 rfl (lv_at hl 0 rfl) ?_
      refine sn_getI C hw fd_RX9_106 layM_0 rfl dX9_is_16 ?_
      refine lv_aload_n hx hb dX9_is_19 rfl (lv_at hl 0 rfl) ?_
      refine sn_getI C hw fd_RX9_113 layM_0 rfl dX9_is_20 ?_
      refine lv_isub hx hb dX9_is_23 ?_
      refine lv_aload_n hx hb dX9_is_24 rfl (lv_at hl 1 rfl) ?_
      obtain ⟨t_5, h_6, hf⟩ := sn_bd hf
      refine sn_strlen (rest := [.int ((sn_I σ 0 8) - (sn_I σ 0 9))]) C hw h_6 kl_RX9_144 rfl (Nat.le_of_ble_eq_true rfl) dX9_is_25 hl.1 (fun H locs hw => ?_)
      refine lv_icmp_ne (tgt := 35) hx hb dX9_is_28 (by decide) (fun c_7 => ?_) (fun c_7 => ?_)
      · have hf := sn_el c_7 hf
        exact wX9_is_35 C  hf kr _ _ _ hw (lv_sub hl [0, 1] rfl)
      · have hf := sn_if c_7 hf
        refine lv_iconst (v := 1) hx hb dX9_is_31 rfl ?_
        refine lv_goto (tgt := 36) hx hb dX9_is_32 (by decide) ?_
        exact wX9_is_36 C  hf kr _ _ _ hw (lv_sub hl [0, 1] rfl)
theorem ctX9_is (l : Launch) {σ : sn_S} {k1 : Nat}  {o : Int32} (hf : fX9_is σ k1 = some o) : sn_M l yX9_is cX9_is 4 (some .boolean) rmX9_is layM (fun ad => [.ref (ad 0), .ref (ad (1000 + k1))]) σ (some (fun _ => .int o)) σ :=
  sn_met (by decide) (fun _ => Nat.le_of_ble_eq_true rfl) (fun p e s m args below meth c ls D ct ad A C hw hl => wX9_is_in C  hf (fun H locs ls pc hw ok hd => sn_zret C hw ok hd) _ _ _ hw hl)
-- X9_takes
abbrev rmX9_takes : Room := { frames := 5, cells := 0, slots := 0, locals := 108 }
def fX9_takes (σ : sn_S) (k1 : Nat) : Option (Int32 × sn_S) :=
  ((fX9_is σ k1).bind fun t_1 => (if t_1 = 0 then
  (sn_gd (sn_b01 t_1) (some (t_1, σ)))
  else
  ((fX9_advance σ).bind fun t_5 => (sn_gd (sn_b01 t_1) (some (t_1, t_5))))))
theorem wX9_takes_in (C : sn_C p s m args meth c RX9 cX9_takes 3 (some .boolean) D ct ad layM A) {σ : sn_S} {k1 : Nat}  {o : (Int32 × sn_S)} (hf : fX9_takes σ k1 = some o) (kr : sn_Kr p l e rmX9_takes s m args below meth c Q D ct ad layM A cX9_takes .ireturn (sn_b01 o.1) o.2 [.int o.1]) : sn_At p l e rmX9_takes s m args below meth c Q D ct ad layM A 3 σ 0 [(0, .ref (ad 0)), (1, .ref (ad (1000 + k1)))] [] := by
  intro H locs ls hw hl
  have hx := C.1
  have hb := C.2.1
  unfold fX9_takes at hf
  refine lv_aload_n hx hb dX9_takes_0 rfl (lv_at hl 0 rfl) ?_
  refine lv_aload_n hx hb dX9_takes_1 rfl (lv_at hl 1 rfl) ?_
  obtain ⟨t_1, h_2, hf⟩ := sn_bd hf
  refine sn_callVi (rest := []) C hw (ctX9_is l  h_2) kl_RX9_154 layM_0 rfl rfl rfl rfl (Nat.le_of_ble_eq_true rfl) dX9_takes_2 hl.1 (fun H locs hw => ?_)
  refine lv_istore_n (lv' := [(2, .int t_1), (0, .ref (ad 0)), (1, .ref (ad (1000 + k1)))]) hx hb dX9_takes_5 rfl hl (by decide) rfl (fun ls hl => ?_)
  refine lv_iload_n hx hb dX9_takes_6 rfl (lv_at hl 0 rfl) ?_
  refine lv_if_eq (tgt := 14) hx hb dX9_takes_7 (by decide) (fun c_3 => ?_) (fun c_3 => ?_)
  · have hf := sn_if c_3 hf
    refine lv_iload_n hx hb dX9_takes_14 rfl (lv_at hl 0 rfl) ?_
    obtain ⟨g_4, hf⟩ := sn_gdE hf
    cases hf
    exact kr _ _ _ _ hw g_4 dX9_takes_15
  · have hf := sn_el c_3 hf
    refine lv_aload_n hx hb dX9_takes_10 rfl (lv_at hl 1 rfl) ?_
    obtain ⟨t_5, h_6, hf⟩ := sn_bd hf
    refine sn_callVv (rest := []) C hw (ctX9_advance l  h_6) kl_RX9_158 layM_0 rfl rfl rfl rfl (Nat.le_of_ble_eq_true rfl) dX9_takes_11 hl.1 (fun H locs hw => ?_)
    refine lv_iload_n hx hb dX9_takes_14 rfl (lv_at hl 0 rfl) ?_
    obtain ⟨g_7, hf⟩ := sn_gdE hf
    cases hf
    exact kr _ _ _ _ hw g_7 dX9_takes_15
theorem ctX9_takes (l : Launch) {σ : sn_S} {k1 : Nat}  {o : (Int32 × sn_S)} (hf : fX9_takes σ k1 = some o) : sn_M l yX9_takes cX9_takes 3 (some .boolean) rmX9_takes layM (fun ad => [.ref (ad 0), .ref (ad (1000 + k1))]) σ (some (fun _ => .int o.1)) o.2 :=
  sn_met (by decide) (fun _ => Nat.le_of_ble_eq_true rfl) (fun p e s m args below meth c ls D ct ad A C hw hl => wX9_takes_in C  hf (fun H locs ls pc hw ok hd => sn_zret C hw ok hd) _ _ _ hw hl)
-- X9_needs
abbrev rmX9_needs : Room := { frames := 6, cells := 0, slots := 0, locals := 130 }
def fX9_needs (σ : sn_S) (k1 : Nat) : Option sn_S :=
  ((fX9_takes σ k1).bind fun t_1 => (if t_1.1 = 0 then
  ((fX9_errs t_1.2 (1 : Int32)).bind fun t_4 => (some t_4))
  else
  (some t_1.2)))
theorem wX9_needs_in (C : sn_C p s m args meth c RX9 cX9_needs 2 none D ct ad layM A) {σ : sn_S} {k1 : Nat}  {o : sn_S} (hf : fX9_needs σ k1 = some o) (kr : sn_Kr p l e rmX9_needs s m args below meth c Q D ct ad layM A cX9_needs .return_ (true) o []) : sn_At p l e rmX9_needs s m args below meth c Q D ct ad layM A 2 σ 0 [(0, .ref (ad 0)), (1, .ref (ad (1000 + k1)))] [] := by
  intro H locs ls hw hl
  have hx := C.1
  have hb := C.2.1
  unfold fX9_needs at hf
  refine lv_aload_n hx hb dX9_needs_0 rfl (lv_at hl 0 rfl) ?_
  refine lv_aload_n hx hb dX9_needs_1 rfl (lv_at hl 1 rfl) ?_
  obtain ⟨t_1, h_2, hf⟩ := sn_bd hf
  refine sn_callVi (rest := []) C hw (ctX9_takes l  h_2) kl_RX9_161 layM_0 rfl rfl rfl rfl (Nat.le_of_ble_eq_true rfl) dX9_needs_2 hl.1 (fun H locs hw => ?_)
  refine lv_if_ne (tgt := 13) hx hb dX9_needs_5 (by decide) (fun c_3 => ?_) (fun c_3 => ?_)
  · have hf := sn_el c_3 hf
    cases hf
    exact kr _ _ _ _ hw rfl dX9_needs_13
  · have hf := sn_if c_3 hf
    refine lv_aload_n hx hb dX9_needs_8 rfl (lv_at hl 0 rfl) ?_
    refine lv_iconst (v := 1) hx hb dX9_needs_9 rfl ?_
    obtain ⟨t_4, h_5, hf⟩ := sn_bd hf
    refine sn_callVv (rest := []) C hw (ctX9_errs l  h_5) kl_RX9_164 layM_0 rfl rfl rfl rfl (Nat.le_of_ble_eq_true rfl) dX9_needs_10 hl.1 (fun H locs hw => ?_)
    cases hf
    exact kr _ _ _ _ hw rfl dX9_needs_13
theorem ctX9_needs (l : Launch) {σ : sn_S} {k1 : Nat}  {o : sn_S} (hf : fX9_needs σ k1 = some o) : sn_M l yX9_needs cX9_needs 2 none rmX9_needs layM (fun ad => [.ref (ad 0), .ref (ad (1000 + k1))]) σ none o :=
  sn_met (by decide) (fun _ => Nat.le_of_ble_eq_true rfl) (fun p e s m args below meth c ls D ct ad A C hw hl => wX9_needs_in C  hf (fun H locs ls pc hw ok hd => sn_vret C hw hd) _ _ _ hw hl)
-- X9_number
abbrev rmX9_number : Room := { frames := 2, cells := 0, slots := 0, locals := 53 }
def BX9_number_47 (σ : sn_S) : Option ((Int32 × sn_S)) :=
  ((fX9_good σ).bind fun t_1 => (if t_1 = 0 then
  (some ((0 : Int32), σ))
  else
  (sn_lt (sn_I σ 0 11) fun y_4 => ((fX9_advance σ).bind fun t_6 => (some (y_4, t_6))))))
def BX9_number_20 (σ : sn_S) (x1 : Int32) (x2 : Int32) : Option ((Int32 × sn_S)) :=
  ((fX9_good σ).bind fun t_1 => (if t_1 = 0 then
  (BX9_number_47 σ)
  else
  ((fX9_in ((sn_I σ 0 11).toInt64) x1.toInt64 x2.toInt64).bind fun t_4 => (if t_4 = 0 then
  ((fX9_errs σ (2 : Int32)).bind fun t_7 => (BX9_number_47 t_7))
  else
  (BX9_number_47 σ)))))
def fX9_number (σ : sn_S) (x1 : Int32) (x2 : Int32) : Option (Int32 × sn_S) :=
  ((fX9_good σ).bind fun t_1 => (if t_1 = 0 then
  (BX9_number_20 σ x1 x2)
  else
  (if (sn_I σ 0 10) = (2 : Int32) then
  (BX9_number_20 σ x1 x2)
  else
  ((fX9_errs σ (1 : Int32)).bind fun t_5 => (BX9_number_20 t_5 x1 x2)))))
theorem wX9_number_47 (C : sn_C p s m args meth c RX9 cX9_number 4 (some .int) D ct ad layM A) {σ : sn_S}  {o : (Int32 × sn_S)} (hf : BX9_number_47 σ = some o) (kr : sn_Kr p l e rmX9_number s m args below meth c Q D ct ad layM A cX9_number .ireturn (true) o.2 [.int o.1]) : sn_At p l e rmX9_number s m args below meth c Q D ct ad layM A 4 σ 47 [(0, .ref (ad 0))] [] := by
  intro H locs ls hw hl
  have hx := C.1
  have hb := C.2.1
  unfold BX9_number_47 at hf
  refine lv_aload_n hx hb dX9_number_47 rfl (lv_at hl 0 rfl) ?_
  obtain ⟨t_1, h_2, hf⟩ := sn_bd hf
  refine sn_callVi (rest := []) C hw (ctX9_good l  h_2) kl_RX9_140 layM_0 rfl rfl rfl rfl (Nat.le_of_ble_eq_true rfl) dX9_number_48 hl.1 (fun H locs hw => ?_)
  refine lv_if_ne (tgt := 56) hx hb dX9_number_51 (by decide) (fun c_3 => ?_) (fun c_3 => ?_)
  · have hf := sn_el c_3 hf
    refine lv_aload_n hx hb dX9_number_56 rfl (lv_at hl 0 rfl) ?_
    refine sn_getI C hw fd_RX9_127 layM_0 rfl dX9_number_57 ?_
    obtain ⟨y_4, e_5, hf⟩ := sn_ltE hf
    refine lv_topi (fun y_4_ e_5_ => ?_)
    obtain rfl : y_4 = y_4_ := e_5.trans e_5_.symm
    refine lv_istore_n (lv' := [(3, .int y_4), (0, .ref (ad 0))]) hx hb dX9_number_60 rfl hl (by decide) rfl (fun ls hl => ?_)
    refine lv_aload_n hx hb dX9_number_61 rfl (lv_at hl 1 rfl) ?_
    obtain ⟨t_6, h_7, hf⟩ := sn_bd hf
    refine sn_callVv (rest := []) C hw (ctX9_advance l  h_7) kl_RX9_158 layM_0 rfl rfl rfl rfl (Nat.le_of_ble_eq_true rfl) dX9_number_62 hl.1 (fun H locs hw => ?_)
    refine lv_iload_n hx hb dX9_number_65 rfl (lv_at hl 0 rfl) ?_
    cases hf
    exact kr _ _ _ _ hw rfl dX9_number_66
  · have hf := sn_if c_3 hf
    refine lv_iconst (v := 0) hx hb dX9_number_54 rfl ?_
    cases hf
    exact kr _ _ _ _ hw rfl dX9_number_55
theorem wX9_number_20 (C : sn_C p s m args meth c RX9 cX9_number 4 (some .int) D ct ad layM A) {σ : sn_S} {x1 : Int32} {x2 : Int32}  {o : (Int32 × sn_S)} (hf : BX9_number_20 σ x1 x2 = some o) (kr : sn_Kr p l e rmX9_number s m args below meth c Q D ct ad layM A cX9_number .ireturn (true) o.2 [.int o.1]) : sn_At p l e rmX9_number s m args below meth c Q D ct ad layM A 4 σ 20 [(0, .ref (ad 0)), (1, .int x1), (2, .int x2)] [] := by
  intro H locs ls hw hl
  have hx := C.1
  have hb := C.2.1
  unfold BX9_number_20 at hf
  refine lv_aload_n hx hb dX9_number_20 rfl (lv_at hl 0 rfl) ?_
  obtain ⟨t_1, h_2, hf⟩ := sn_bd hf
  refine sn_callVi (rest := []) C hw (ctX9_good l  h_2) kl_RX9_140 layM_0 rfl rfl rfl rfl (Nat.le_of_ble_eq_true rfl) dX9_number_21 hl.1 (fun H locs hw => ?_)
  refine lv_if_eq (tgt := 47) hx hb dX9_number_24 (by decide) (fun c_3 => ?_) (fun c_3 => ?_)
  · have hf := sn_if c_3 hf
    exact wX9_number_47 C  hf kr _ _ _ hw (lv_sub hl [0] rfl)
  · have hf := sn_el c_3 hf
    refine lv_aload_n hx hb dX9_number_27 rfl (lv_at hl 0 rfl) ?_
    refine sn_getI C hw fd_RX9_127 layM_0 rfl dX9_number_28 ?_
    refine lv_i2l hx hb dX9_number_31 rfl ?_
    refine lv_iload_n hx hb dX9_number_32 rfl (lv_at hl 1 rfl) ?_
    refine lv_i2l hx hb dX9_number_33 rfl ?_
    refine lv_iload_n hx hb dX9_number_34 rfl (lv_at hl 2 rfl) ?_
    refine lv_i2l hx hb dX9_number_35 rfl ?_
    obtain ⟨t_4, h_5, hf⟩ := sn_bd hf
    refine sn_callSi (rest := []) C hw (ctX9_in l  h_5) kl_RX9_94 rfl rfl rfl (Nat.le_of_ble_eq_true rfl) dX9_number_36 hl.1 (fun H locs hw => ?_)
    refine lv_if_ne (tgt := 47) hx hb dX9_number_39 (by decide) (fun c_6 => ?_) (fun c_6 => ?_)
    · have hf := sn_el c_6 hf
      exact wX9_number_47 C  hf kr _ _ _ hw (lv_sub hl [0] rfl)
    · have hf := sn_if c_6 hf
      refine lv_aload_n hx hb dX9_number_42 rfl (lv_at hl 0 rfl) ?_
      refine lv_iconst (v := 2) hx hb dX9_number_43 rfl ?_
      obtain ⟨t_7, h_8, hf⟩ := sn_bd hf
      refine sn_callVv (rest := []) C hw (ctX9_errs l  h_8) kl_RX9_164 layM_0 rfl rfl rfl rfl (Nat.le_of_ble_eq_true rfl) dX9_number_44 hl.1 (fun H locs hw => ?_)
      exact wX9_number_47 C  hf kr _ _ _ hw (lv_sub hl [0] rfl)
theorem wX9_number_in (C : sn_C p s m args meth c RX9 cX9_number 4 (some .int) D ct ad layM A) {σ : sn_S} {x1 : Int32} {x2 : Int32}  {o : (Int32 × sn_S)} (hf : fX9_number σ x1 x2 = some o) (kr : sn_Kr p l e rmX9_number s m args below meth c Q D ct ad layM A cX9_number .ireturn (true) o.2 [.int o.1]) : sn_At p l e rmX9_number s m args below meth c Q D ct ad layM A 4 σ 0 [(0, .ref (ad 0)), (1, .int x1), (2, .int x2)] [] := by
  intro H locs ls hw hl
  have hx := C.1
  have hb := C.2.1
  unfold fX9_number at hf
  refine lv_aload_n hx hb dX9_number_0 rfl (lv_at hl 0 rfl) ?_
  obtain ⟨t_1, h_2, hf⟩ := sn_bd hf
  refine sn_callVi (rest := []) C hw (ctX9_good l  h_2) kl_RX9_140 layM_0 rfl rfl rfl rfl (Nat.le_of_ble_eq_true rfl) dX9_number_1 hl.1 (fun H locs hw => ?_)
  refine lv_if_eq (tgt := 20) hx hb dX9_number_4 (by decide) (fun c_3 => ?_) (fun c_3 => ?_)
  · have hf := sn_if c_3 hf
    exact wX9_number_20 C  hf kr _ _ _ hw (lv_sub hl [0, 1, 2] rfl)
  · have hf := sn_el c_3 hf
    refine lv_aload_n hx hb dX9_number_7 rfl (lv_at hl 0 rfl) ?_
    refine sn_getI C hw fd_RX9_116 layM_0 rfl dX9_number_8 ?_
    refine lv_iconst (v := 2) hx hb dX9_number_11 rfl ?_
    refine lv_icmp_eq (tgt := 20) hx hb dX9_number_12 (by decide) (fun c_4 => ?_) (fun c_4 => ?_)
    · have hf := sn_if c_4 hf
      exact wX9_number_20 C  hf kr _ _ _ hw (lv_sub hl [0, 1, 2] rfl)
    · have hf := sn_el c_4 hf
      refine lv_aload_n hx hb dX9_number_15 rfl (lv_at hl 0 rfl) ?_
      refine lv_iconst (v := 1) hx hb dX9_number_16 rfl ?_
      obtain ⟨t_5, h_6, hf⟩ := sn_bd hf
      refine sn_callVv (rest := []) C hw (ctX9_errs l  h_6) kl_RX9_164 layM_0 rfl rfl rfl rfl (Nat.le_of_ble_eq_true rfl) dX9_number_17 hl.1 (fun H locs hw => ?_)
      exact wX9_number_20 C  hf kr _ _ _ hw (lv_sub hl [0, 1, 2] rfl)
theorem ctX9_number (l : Launch) {σ : sn_S} {x1 : Int32} {x2 : Int32}  {o : (Int32 × sn_S)} (hf : fX9_number σ x1 x2 = some o) : sn_M l yX9_number cX9_number 4 (some .int) rmX9_number layM (fun ad => [.ref (ad 0), .int x1, .int x2]) σ (some (fun _ => .int o.1)) o.2 :=
  sn_met (by decide) (fun _ => Nat.le_of_ble_eq_true rfl) (fun p e s m args below meth c ls D ct ad A C hw hl => wX9_number_in C  hf (fun H locs ls pc hw ok hd => sn_iret C hw hd) _ _ _ hw hl)
-- X9_told
abbrev rmX9_told : Room := { frames := 7, cells := 0, slots := 0, locals := 151 }
def fX9_told (σ : sn_S) (k1 : Nat) (x2 : Int32) (x3 : Int32) : Option (Int32 × sn_S) :=
  ((fX9_needs σ k1).bind fun t_1 => ((fX9_number t_1 x2 x3).bind fun t_3 => (some (t_3.1, t_3.2))))
theorem wX9_told_in (C : sn_C p s m args meth c RX9 cX9_told 4 (some .int) D ct ad layM A) {σ : sn_S} {k1 : Nat} {x2 : Int32} {x3 : Int32}  {o : (Int32 × sn_S)} (hf : fX9_told σ k1 x2 x3 = some o) (kr : sn_Kr p l e rmX9_told s m args below meth c Q D ct ad layM A cX9_told .ireturn (true) o.2 [.int o.1]) : sn_At p l e rmX9_told s m args below meth c Q D ct ad layM A 4 σ 0 [(0, .ref (ad 0)), (1, .ref (ad (1000 + k1))), (2, .int x2), (3, .int x3)] [] := by
  intro H locs ls hw hl
  have hx := C.1
  have hb := C.2.1
  unfold fX9_told at hf
  refine lv_aload_n hx hb dX9_told_0 rfl (lv_at hl 0 rfl) ?_
  refine lv_aload_n hx hb dX9_told_1 rfl (lv_at hl 1 rfl) ?_
  obtain ⟨t_1, h_2, hf⟩ := sn_bd hf
  refine sn_callVv (rest := []) C hw (ctX9_needs l  h_2) kl_RX9_168 layM_0 rfl rfl rfl rfl (Nat.le_of_ble_eq_true rfl) dX9_told_2 hl.1 (fun H locs hw => ?_)
  refine lv_aload_n hx hb dX9_told_5 rfl (lv_at hl 0 rfl) ?_
  refine lv_iload_n hx hb dX9_told_6 rfl (lv_at hl 2 rfl) ?_
  refine lv_iload_n hx hb dX9_told_7 rfl (lv_at hl 3 rfl) ?_
  obtain ⟨t_3, h_4, hf⟩ := sn_bd hf
  refine sn_callVi (rest := []) C hw (ctX9_number l  h_4) kl_RX9_172 layM_0 rfl rfl rfl rfl (Nat.le_of_ble_eq_true rfl) dX9_told_8 hl.1 (fun H locs hw => ?_)
  cases hf
  exact kr _ _ _ _ hw rfl dX9_told_11
theorem ctX9_told (l : Launch) {σ : sn_S} {k1 : Nat} {x2 : Int32} {x3 : Int32}  {o : (Int32 × sn_S)} (hf : fX9_told σ k1 x2 x3 = some o) : sn_M l yX9_told cX9_told 4 (some .int) rmX9_told layM (fun ad => [.ref (ad 0), .ref (ad (1000 + k1)), .int x2, .int x3]) σ (some (fun _ => .int o.1)) o.2 :=
  sn_met (by decide) (fun _ => Nat.le_of_ble_eq_true rfl) (fun p e s m args below meth c ls D ct ad A C hw hl => wX9_told_in C  hf (fun H locs ls pc hw ok hd => sn_iret C hw hd) _ _ _ hw hl)
-- X9_fault
abbrev rmX9_fault : Room := { frames := 0, cells := 0, slots := 0, locals := 0 }
def fX9_fault (σ : sn_S) (x1 : Int32) : Option Int32 :=
  (if x1 = 0 then
  (some (sn_I σ 0 12))
  else
  (if x1 = (1 : Int32) then
  (some (sn_I σ 0 13))
  else
  (some (-1 : Int32))))
theorem wX9_fault_in (C : sn_C p s m args meth c RX9 cX9_fault 2 (some .int) D ct ad layM A) {σ : sn_S} {x1 : Int32}  {o : Int32} (hf : fX9_fault σ x1 = some o) (kr : sn_Kr p l e rmX9_fault s m args below meth c Q D ct ad layM A cX9_fault .ireturn (true) σ [.int o]) : sn_At p l e rmX9_fault s m args below meth c Q D ct ad layM A 2 σ 0 [(0, .ref (ad 0)), (1, .int x1)] [] := by
  intro H locs ls hw hl
  have hx := C.1
  have hb := C.2.1
  unfold fX9_fault at hf
  refine lv_iload_n hx hb dX9_fault_0 rfl (lv_at hl 1 rfl) ?_
  refine lv_if_ne (tgt := 11) hx hb dX9_fault_1 (by decide) (fun c_1 => ?_) (fun c_1 => ?_)
  · have hf := sn_el c_1 hf
    refine lv_iload_n hx hb dX9_fault_11 rfl (lv_at hl 1 rfl) ?_
    refine lv_iconst (v := 1) hx hb dX9_fault_12 rfl ?_
    refine lv_icmp_ne (tgt := 23) hx hb dX9_fault_13 (by decide) (fun c_2 => ?_) (fun c_2 => ?_)
    · have hf := sn_el c_2 hf
      refine lv_iconst (v := (-1)) hx hb dX9_fault_23 rfl ?_
      cases hf
      exact kr _ _ _ _ hw rfl dX9_fault_24
    · have hf := sn_if c_2 hf
      refine lv_aload_n hx hb dX9_fault_16 rfl (lv_at hl 0 rfl) ?_
      refine sn_getI C hw fd_RX9_27 layM_0 rfl dX9_fault_17 ?_
      refine lv_goto (tgt := 24) hx hb dX9_fault_20 (by decide) ?_
      cases hf
      exact kr _ _ _ _ hw rfl dX9_fault_24
  · have hf := sn_if c_1 hf
    refine lv_aload_n hx hb dX9_fault_4 rfl (lv_at hl 0 rfl) ?_
    refine sn_getI C hw fd_RX9_137 layM_0 rfl dX9_fault_5 ?_
    refine lv_goto (tgt := 24) hx hb dX9_fault_8 (by decide) ?_
    cases hf
    exact kr _ _ _ _ hw rfl dX9_fault_24
theorem ctX9_fault (l : Launch) {σ : sn_S} {x1 : Int32}  {o : Int32} (hf : fX9_fault σ x1 = some o) : sn_M l yX9_fault cX9_fault 2 (some .int) rmX9_fault layM (fun ad => [.ref (ad 0), .int x1]) σ (some (fun _ => .int o)) σ :=
  sn_met (by decide) (fun _ => Nat.le_of_ble_eq_true rfl) (fun p e s m args below meth c ls D ct ad A C hw hl => wX9_fault_in C  hf (fun H locs ls pc hw ok hd => sn_iret C hw hd) _ _ _ hw hl)
-- X9_readFirst
abbrev rmX9_readFirst : Room := { frames := 8, cells := 0, slots := 0, locals := 174 }
def fX9_readFirst (σ : sn_S) : Option sn_S :=
  ((fX9_needs σ 0).bind fun t_1 => ((fX9_told t_1 1 (1 : Int32) (30 : Int32)).bind fun t_3 => (sn_gd (sn_in (0 : Int32) 119) (sn_lt (sn_pI t_3.2 6 (0 : Int32).toNatClampNeg t_3.1) fun σ_6 => ((fX9_told σ_6 2 (0 : Int32) (9 : Int32)).bind fun t_8 => (sn_gd (sn_in (1 : Int32) 119) (sn_lt (sn_pI t_8.2 6 (1 : Int32).toNatClampNeg t_8.1) fun σ_11 => ((fX9_told σ_11 3 (0 : Int32) (3 : Int32)).bind fun t_13 => (sn_gd (sn_in (2 : Int32) 119) (sn_lt (sn_pI t_13.2 6 (2 : Int32).toNatClampNeg t_13.1) fun σ_16 => ((fX9_told σ_16 4 (0 : Int32) (999 : Int32)).bind fun t_18 => (sn_gd (sn_in (3 : Int32) 119) (sn_lt (sn_pI t_18.2 6 (3 : Int32).toNatClampNeg t_18.1) fun σ_21 => ((fX9_told σ_21 5 (0 : Int32) (10 : Int32)).bind fun t_23 => (sn_gd (sn_in (4 : Int32) 119) (sn_lt (sn_pI t_23.2 6 (4 : Int32).toNatClampNeg t_23.1) fun σ_26 => (some σ_26)))))))))))))))))
theorem wX9_readFirst_in (C : sn_C p s m args meth c RX9 cX9_readFirst 1 none D ct ad layM A) {σ : sn_S}  {o : sn_S} (hf : fX9_readFirst σ = some o) (kr : sn_Kr p l e rmX9_readFirst s m args below meth c Q D ct ad layM A cX9_readFirst .return_ (true) o []) : sn_At p l e rmX9_readFirst s m args below meth c Q D ct ad layM A 1 σ 0 [(0, .ref (ad 0))] [] := by
  intro H locs ls hw hl
  have hx := C.1
  have hb := C.2.1
  unfold fX9_readFirst at hf
  refine lv_aload_n hx hb dX9_readFirst_0 rfl (lv_at hl 0 rfl) ?_
  refine va_ldcS (tx := "house") (q := ad (1000 + 0)) hx hb C.2.2.2.1 (sn_sr_16 C.2.2.2.2.2.2.2.2.2) dX9_readFirst_1 ?_
  obtain ⟨t_1, h_2, hf⟩ := sn_bd hf
  refine sn_callVv (rest := []) C hw (ctX9_needs l  h_2) kl_RX9_168 layM_0 rfl rfl rfl rfl (Nat.le_of_ble_eq_true rfl) dX9_readFirst_3 hl.1 (fun H locs hw => ?_)
  refine lv_aload_n hx hb dX9_readFirst_6 rfl (lv_at hl 0 rfl) ?_
  refine sn_getC (r := 6) C hw fd_RX9_31 layM_0 rfl dX9_readFirst_7 ?_
  refine lv_iconst (v := 0) hx hb dX9_readFirst_10 rfl ?_
  refine lv_aload_n hx hb dX9_readFirst_11 rfl (lv_at hl 0 rfl) ?_
  refine va_ldcS (tx := "minutes") (q := ad (1000 + 1)) hx hb C.2.2.2.1 (sn_sr_17 C.2.2.2.2.2.2.2.2.2) dX9_readFirst_12 ?_
  refine lv_iconst (v := 1) hx hb dX9_readFirst_14 rfl ?_
  refine lv_bipush (v := 30) hx hb dX9_readFirst_15 (by decide) ?_
  obtain ⟨t_3, h_4, hf⟩ := sn_bd hf
  refine sn_callVi (rest := [.int (0 : Int32), .ref (ad 6)]) C hw (ctX9_told l  h_4) kl_RX9_179 layM_0 rfl rfl rfl rfl (Nat.le_of_ble_eq_true rfl) dX9_readFirst_17 hl.1 (fun H locs hw => ?_)
  obtain ⟨g_5, hf⟩ := sn_gdE hf
  refine sn_iast C hw layM_6 g_5 dX9_readFirst_20 (fun H locs hw => ?_)
  obtain ⟨σ_6, e_7, hf⟩ := sn_ltE hf
  rw [← e_7] at hw
  refine lv_aload_n hx hb dX9_readFirst_21 rfl (lv_at hl 0 rfl) ?_
  refine sn_getC (r := 6) C hw fd_RX9_31 layM_0 rfl dX9_readFirst_22 ?_
  refine lv_iconst (v := 1) hx hb dX9_readFirst_25 rfl ?_
  refine lv_aload_n hx hb dX9_readFirst_26 rfl (lv_at hl 0 rfl) ?_
  refine va_ldcS (tx := "dust") (q := ad (1000 + 2)) hx hb C.2.2.2.1 (sn_sr_18 C.2.2.2.2.2.2.2.2.2) dX9_readFirst_27 ?_
  refine lv_iconst (v := 0) hx hb dX9_readFirst_29 rfl ?_
  refine lv_bipush (v := 9) hx hb dX9_readFirst_30 (by decide) ?_
  obtain ⟨t_8, h_9, hf⟩ := sn_bd hf
  refine sn_callVi (rest := [.int (1 : Int32), .ref (ad 6)]) C hw (ctX9_told l  h_9) kl_RX9_179 layM_0 rfl rfl rfl rfl (Nat.le_of_ble_eq_true rfl) dX9_readFirst_32 hl.1 (fun H locs hw => ?_)
  obtain ⟨g_10, hf⟩ := sn_gdE hf
  refine sn_iast C hw layM_6 g_10 dX9_readFirst_35 (fun H locs hw => ?_)
  obtain ⟨σ_11, e_12, hf⟩ := sn_ltE hf
  rw [← e_12] at hw
  refine lv_aload_n hx hb dX9_readFirst_36 rfl (lv_at hl 0 rfl) ?_
  refine sn_getC (r := 6) C hw fd_RX9_31 layM_0 rfl dX9_readFirst_37 ?_
  refine lv_iconst (v := 2) hx hb dX9_readFirst_40 rfl ?_
  refine lv_aload_n hx hb dX9_readFirst_41 rfl (lv_at hl 0 rfl) ?_
  refine va_ldcS (tx := "law") (q := ad (1000 + 3)) hx hb C.2.2.2.1 (sn_sr_19 C.2.2.2.2.2.2.2.2.2) dX9_readFirst_42 ?_
  refine lv_iconst (v := 0) hx hb dX9_readFirst_44 rfl ?_
  refine lv_iconst (v := 3) hx hb dX9_readFirst_45 rfl ?_
  obtain ⟨t_13, h_14, hf⟩ := sn_bd hf
  refine sn_callVi (rest := [.int (2 : Int32), .ref (ad 6)]) C hw (ctX9_told l  h_14) kl_RX9_179 layM_0 rfl rfl rfl rfl (Nat.le_of_ble_eq_true rfl) dX9_readFirst_46 hl.1 (fun H locs hw => ?_)
  obtain ⟨g_15, hf⟩ := sn_gdE hf
  refine sn_iast C hw layM_6 g_15 dX9_readFirst_49 (fun H locs hw => ?_)
  obtain ⟨σ_16, e_17, hf⟩ := sn_ltE hf
  rw [← e_17] at hw
  refine lv_aload_n hx hb dX9_readFirst_50 rfl (lv_at hl 0 rfl) ?_
  refine sn_getC (r := 6) C hw fd_RX9_31 layM_0 rfl dX9_readFirst_51 ?_
  refine lv_iconst (v := 3) hx hb dX9_readFirst_54 rfl ?_
  refine lv_aload_n hx hb dX9_readFirst_55 rfl (lv_at hl 0 rfl) ?_
  refine va_ldcS (tx := "money") (q := ad (1000 + 4)) hx hb C.2.2.2.1 (sn_sr_20 C.2.2.2.2.2.2.2.2.2) dX9_readFirst_56 ?_
  refine lv_iconst (v := 0) hx hb dX9_readFirst_58 rfl ?_
  refine lv_sipush (v := 999) hx hb dX9_readFirst_59 (by decide) ?_
  obtain ⟨t_18, h_19, hf⟩ := sn_bd hf
  refine sn_callVi (rest := [.int (3 : Int32), .ref (ad 6)]) C hw (ctX9_told l  h_19) kl_RX9_179 layM_0 rfl rfl rfl rfl (Nat.le_of_ble_eq_true rfl) dX9_readFirst_62 hl.1 (fun H locs hw => ?_)
  obtain ⟨g_20, hf⟩ := sn_gdE hf
  refine sn_iast C hw layM_6 g_20 dX9_readFirst_65 (fun H locs hw => ?_)
  obtain ⟨σ_21, e_22, hf⟩ := sn_ltE hf
  rw [← e_22] at hw
  refine lv_aload_n hx hb dX9_readFirst_66 rfl (lv_at hl 0 rfl) ?_
  refine sn_getC (r := 6) C hw fd_RX9_31 layM_0 rfl dX9_readFirst_67 ?_
  refine lv_iconst (v := 4) hx hb dX9_readFirst_70 rfl ?_
  refine lv_aload_n hx hb dX9_readFirst_71 rfl (lv_at hl 0 rfl) ?_
  refine va_ldcS (tx := "odds") (q := ad (1000 + 5)) hx hb C.2.2.2.1 (sn_sr_21 C.2.2.2.2.2.2.2.2.2) dX9_readFirst_72 ?_
  refine lv_iconst (v := 0) hx hb dX9_readFirst_74 rfl ?_
  refine lv_bipush (v := 10) hx hb dX9_readFirst_75 (by decide) ?_
  obtain ⟨t_23, h_24, hf⟩ := sn_bd hf
  refine sn_callVi (rest := [.int (4 : Int32), .ref (ad 6)]) C hw (ctX9_told l  h_24) kl_RX9_179 layM_0 rfl rfl rfl rfl (Nat.le_of_ble_eq_true rfl) dX9_readFirst_77 hl.1 (fun H locs hw => ?_)
  obtain ⟨g_25, hf⟩ := sn_gdE hf
  refine sn_iast C hw layM_6 g_25 dX9_readFirst_80 (fun H locs hw => ?_)
  obtain ⟨σ_26, e_27, hf⟩ := sn_ltE hf
  rw [← e_27] at hw
  cases hf
  exact kr _ _ _ _ hw rfl dX9_readFirst_81
theorem ctX9_readFirst (l : Launch) {σ : sn_S}  {o : sn_S} (hf : fX9_readFirst σ = some o) : sn_M l yX9_readFirst cX9_readFirst 1 none rmX9_readFirst layM (fun ad => [.ref (ad 0)]) σ none o :=
  sn_met (by decide) (fun _ => Nat.le_of_ble_eq_true rfl) (fun p e s m args below meth c ls D ct ad A C hw hl => wX9_readFirst_in C  hf (fun H locs ls pc hw ok hd => sn_vret C hw hd) _ _ _ hw hl)
end
