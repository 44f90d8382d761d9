section
variable {p : Program} {l : Launch} {e : Env} {s : State} {m : MethodId} {args : Array Value} {below : List Frame} {meth : Method} {c : Code} {Q : State → Prop} {D : va_G} {ct : Nat → ClassId} {ad : Nat → Nat}
-- X9_in
abbrev rmX9_in : Room := { frames := 0, cells := 0, slots := 0, locals := 0 }
def fX9_in (x0 : Int64) (x2 : Int64) (x4 : Int64) : Option Int32 :=
  (if (lg_cmp x0 x2) < 0 then
  (sn_gd (sn_b01 (0 : Int32)) (some (0 : Int32)))
  else
  (if 0 < (lg_cmp x0 x4) then
  (sn_gd (sn_b01 (0 : Int32)) (some (0 : Int32)))
  else
  (sn_gd (sn_b01 (1 : Int32)) (some (1 : Int32)))))
theorem wX9_in_in (C : sn_C p s m args meth c RX9 cX9_in 6 (some .boolean) D ct ad layM) {σ : sn_S} {x0 : Int64} {x2 : Int64} {x4 : Int64}  {o : Int32} (hf : fX9_in x0 x2 x4 = some o) (kr : sn_Kr p l e rmX9_in s m args below meth c Q D ct ad layM cX9_in .ireturn (sn_b01 o) σ [.int o]) : sn_At p l e rmX9_in s m args below meth c Q D ct ad layM 6 σ 0 [(0, .long x0), (2, .long x2), (4, .long x4)] [] := by
  intro H locs ls hw hl
  have hx := C.1
  have hb := C.2.1
  unfold fX9_in at hf
  refine lv_lload_n hx hb dX9_in_0 rfl (lv_at hl 0 rfl) ?_
  refine lv_lload_n hx hb dX9_in_1 rfl (lv_at hl 1 rfl) ?_
  refine W.lcmp hx hb dX9_in_2 ?_
  refine lv_if_lt (tgt := 17) hx hb dX9_in_3 (by decide) (fun c_1 => ?_) (fun c_1 => ?_)
  · have hf := sn_if c_1 hf
    refine lv_iconst (v := 0) hx hb dX9_in_17 rfl ?_
    obtain ⟨g_2, hf⟩ := sn_gdE hf
    cases hf
    exact kr _ _ _ _ hw g_2 dX9_in_18
  · have hf := sn_el c_1 hf
    refine lv_lload_n hx hb dX9_in_6 rfl (lv_at hl 0 rfl) ?_
    refine lv_lload hx hb dX9_in_7 (lv_at hl 2 rfl) ?_
    refine W.lcmp hx hb dX9_in_9 ?_
    refine lv_if_gt (tgt := 17) hx hb dX9_in_10 (by decide) (fun c_3 => ?_) (fun c_3 => ?_)
    · have hf := sn_if c_3 hf
      refine lv_iconst (v := 0) hx hb dX9_in_17 rfl ?_
      obtain ⟨g_4, hf⟩ := sn_gdE hf
      cases hf
      exact kr _ _ _ _ hw g_4 dX9_in_18
    · have hf := sn_el c_3 hf
      refine lv_iconst (v := 1) hx hb dX9_in_13 rfl ?_
      refine lv_goto (tgt := 18) hx hb dX9_in_14 (by decide) ?_
      obtain ⟨g_5, hf⟩ := sn_gdE hf
      cases hf
      exact kr _ _ _ _ hw g_5 dX9_in_18
theorem ctX9_in (l : Launch) {σ : sn_S} {x0 : Int64} {x2 : Int64} {x4 : Int64}  {o : Int32} (hf : fX9_in x0 x2 x4 = some o) : sn_M l yX9_in cX9_in 6 (some .boolean) rmX9_in layM (fun ad => [.long x0, .long x2, .long x4]) σ (some (fun _ => .int o)) σ :=
  sn_met (by decide) (fun _ => Nat.le_of_ble_eq_true rfl) (fun p e s m args below meth c ls D ct ad C hw hl => wX9_in_in C  hf (fun H locs ls pc hw ok hd => sn_zret C hw ok hd) _ _ _ hw hl)
-- X9_bits
abbrev rmX9_bits : Room := { frames := 0, cells := 0, slots := 0, locals := 0 }
def BX9_bits_24 (x1 : Int32) : Option (Int32) :=
  (some x1)
def BX9_bits_4 (x0 : Int32) (x1 : Int32) (x2 : Int32) : Option ((Int32 × Int32) ⊕ (Int32)) :=
  (if (30 : Int32) ≤ x2 then
  (some (.inr (x1)))
  else
  (sn_lt (x1 + ((x0 >>> (x2 &&& 31)) &&& (1 : Int32))) fun y_2 => (sn_lt (x2 + 1) fun y_4 => (some (.inl (y_2, y_4))))))
def LX9_bits_4 (x0 : Int32) (s : Int32 × Int32) : Option ((Int32 × Int32) ⊕ (Int32)) := BX9_bits_4 x0 s.1 s.2
def fX9_bits (x0 : Int32) : Option Int32 :=
  ((sn_it (LX9_bits_4 x0) 5000 ((0 : Int32), (0 : Int32))).bind fun t_1 => (BX9_bits_24 t_1))
theorem wX9_bits_24 (C : sn_C p s m args meth c RX9 cX9_bits 3 (some .int) D ct ad layM) {σ : sn_S} {x1 : Int32}  {o : Int32} (hf : BX9_bits_24 x1 = some o) (kr : sn_Kr p l e rmX9_bits s m args below meth c Q D ct ad layM cX9_bits .ireturn (true) σ [.int o]) : sn_At p l e rmX9_bits s m args below meth c Q D ct ad layM 3 σ 24 [(1, .int x1)] [] := by
  intro H locs ls hw hl
  have hx := C.1
  have hb := C.2.1
  unfold BX9_bits_24 at hf
  refine lv_iload_n hx hb dX9_bits_24 rfl (lv_at hl 0 rfl) ?_
  cases hf
  exact kr _ _ _ _ hw rfl dX9_bits_25
theorem wX9_bits_4 (C : sn_C p s m args meth c RX9 cX9_bits 3 (some .int) D ct ad layM) {σ : sn_S} {x0 : Int32} {x1 : Int32} {x2 : Int32}  {o : (Int32 × Int32) ⊕ (Int32)} (hf : BX9_bits_4 x0 x1 x2 = some o) (kc : ∀ v, o = .inl v → sn_At p l e rmX9_bits s m args below meth c Q D ct ad layM 3 σ 4 [(0, .int x0), (1, .int v.1), (2, .int v.2)] []) (kx : ∀ v, o = .inr v → sn_At p l e rmX9_bits s m args below meth c Q D ct ad layM 3 σ 24 [(1, .int v)] []) : sn_At p l e rmX9_bits s m args below meth c Q D ct ad layM 3 σ 4 [(0, .int x0), (1, .int x1), (2, .int x2)] [] := by
  intro H locs ls hw hl
  have hx := C.1
  have hb := C.2.1
  unfold BX9_bits_4 at hf
  refine lv_iload_n hx hb dX9_bits_4 rfl (lv_at hl 2 rfl) ?_
  refine lv_bipush (v := 30) hx hb dX9_bits_5 (by decide) ?_
  refine lv_icmp_ge (tgt := 24) hx hb dX9_bits_7 (by decide) (fun c_1 => ?_) (fun c_1 => ?_)
  · have hf := sn_if c_1 hf
    cases hf
    exact kx _ rfl _ _ _ hw (lv_sub hl [1] rfl)
  · have hf := sn_el c_1 hf
    refine lv_iload_n hx hb dX9_bits_10 rfl (lv_at hl 1 rfl) ?_
    refine lv_iload_n hx hb dX9_bits_11 rfl (lv_at hl 0 rfl) ?_
    refine lv_iload_n hx hb dX9_bits_12 rfl (lv_at hl 2 rfl) ?_
    refine lv_ishr hx hb dX9_bits_13 ?_
    refine lv_iconst (v := 1) hx hb dX9_bits_14 rfl ?_
    refine lv_iand hx hb dX9_bits_15 ?_
    refine lv_iadd hx hb dX9_bits_16 ?_
    obtain ⟨y_2, e_3, hf⟩ := sn_ltE hf
    refine lv_topi (fun y_2_ e_3_ => ?_)
    obtain rfl : y_2 = y_2_ := e_3.trans e_3_.symm
    refine lv_istore_n (lv' := [(1, .int y_2), (0, .int x0), (2, .int x2)]) hx hb dX9_bits_17 rfl hl (by decide) rfl (fun ls hl => ?_)
    obtain ⟨y_4, e_5, hf⟩ := sn_ltE hf
    refine lv_iinc (v := y_4) (lv' := [(2, .int y_4), (1, .int y_2), (0, .int x0)]) hx hb dX9_bits_18 hl (k := 2) rfl (by rw [e_5]; rfl) (by decide) rfl (fun ls hl => ?_)
    refine lv_goto (tgt := 4) hx hb dX9_bits_21 (by decide) ?_
    cases hf
    exact kc _ rfl _ _ _ hw (lv_sub hl [2, 1, 0] rfl)
theorem wX9_bits_L4 (C : sn_C p s m args meth c RX9 cX9_bits 3 (some .int) D ct ad layM) {σ : sn_S} {x0 : Int32}   {z : Int32 × Int32} {t : Int32} (h : sn_it (LX9_bits_4 x0) 5000 z = some t) (kx : ∀ v, t = v → sn_At p l e rmX9_bits s m args below meth c Q D ct ad layM 3 σ 24 [(1, .int v)] []) : sn_At p l e rmX9_bits s m args below meth c Q D ct ad layM 3 σ 4 [(0, .int x0), (1, .int z.1), (2, .int z.2)] [] :=
  sn_loop (f := LX9_bits_4 x0) (G := fun z => sn_At p l e rmX9_bits s m args below meth c Q D ct ad layM 3 σ 4 [(0, .int x0), (1, .int z.1), (2, .int z.2)] []) (E := fun t => (∀ v, t = v → sn_At p l e rmX9_bits s m args below meth c Q D ct ad layM 3 σ 24 [(1, .int v)] []) ∧ True) (fun z o hf k1 k2 => wX9_bits_4 C  hf (fun v e => k1 v e) (fun v e => (k2 _ e).1 v rfl)) 5000 z t h ⟨kx, trivial⟩
theorem wX9_bits_in (C : sn_C p s m args meth c RX9 cX9_bits 3 (some .int) D ct ad layM) {σ : sn_S} {x0 : Int32}  {o : Int32} (hf : fX9_bits x0 = some o) (kr : sn_Kr p l e rmX9_bits s m args below meth c Q D ct ad layM cX9_bits .ireturn (true) σ [.int o]) : sn_At p l e rmX9_bits s m args below meth c Q D ct ad layM 3 σ 0 [(0, .int x0)] [] := by
  intro H locs ls hw hl
  have hx := C.1
  have hb := C.2.1
  unfold fX9_bits at hf
  refine lv_iconst (v := 0) hx hb dX9_bits_0 rfl ?_
  refine lv_istore_n (lv' := [(1, .int (0 : Int32)), (0, .int x0)]) hx hb dX9_bits_1 rfl hl (by decide) rfl (fun ls hl => ?_)
  refine lv_iconst (v := 0) hx hb dX9_bits_2 rfl ?_
  refine lv_istore_n (lv' := [(2, .int (0 : Int32)), (1, .int (0 : Int32)), (0, .int x0)]) hx hb dX9_bits_3 rfl hl (by decide) rfl (fun ls hl => ?_)
  obtain ⟨t_1, h_2, hf⟩ := sn_bd hf
  exact wX9_bits_L4 C  h_2 (fun v e => by cases e; exact wX9_bits_24 C  hf kr) _ _ _ hw (lv_sub hl [2, 1, 0] rfl)
theorem ctX9_bits (l : Launch) {σ : sn_S} {x0 : Int32}  {o : Int32} (hf : fX9_bits x0 = some o) : sn_M l yX9_bits cX9_bits 3 (some .int) rmX9_bits layM (fun ad => [.int x0]) σ (some (fun _ => .int o)) σ :=
  sn_met (by decide) (fun _ => Nat.le_of_ble_eq_true rfl) (fun p e s m args below meth c ls D ct ad C hw hl => wX9_bits_in C  hf (fun H locs ls pc hw ok hd => sn_iret C hw hd) _ _ _ hw hl)
-- X9_bit
abbrev rmX9_bit : Room := { frames := 0, cells := 0, slots := 0, locals := 0 }
def fX9_bit (x0 : Int32) (x1 : Int32) : Option Int32 :=
  (some ((x0 >>> (x1 &&& 31)) &&& (1 : Int32)))
theorem wX9_bit_in (C : sn_C p s m args meth c RX9 cX9_bit 2 (some .int) D ct ad layM) {σ : sn_S} {x0 : Int32} {x1 : Int32}  {o : Int32} (hf : fX9_bit x0 x1 = some o) (kr : sn_Kr p l e rmX9_bit s m args below meth c Q D ct ad layM cX9_bit .ireturn (true) σ [.int o]) : sn_At p l e rmX9_bit s m args below meth c Q D ct ad layM 2 σ 0 [(0, .int x0), (1, .int x1)] [] := by
  intro H locs ls hw hl
  have hx := C.1
  have hb := C.2.1
  unfold fX9_bit at hf
  refine lv_iload_n hx hb dX9_bit_0 rfl (lv_at hl 0 rfl) ?_
  refine lv_iload_n hx hb dX9_bit_1 rfl (lv_at hl 1 rfl) ?_
  refine lv_ishr hx hb dX9_bit_2 ?_
  refine lv_iconst (v := 1) hx hb dX9_bit_3 rfl ?_
  refine lv_iand hx hb dX9_bit_4 ?_
  cases hf
  exact kr _ _ _ _ hw rfl dX9_bit_5
theorem ctX9_bit (l : Launch) {σ : sn_S} {x0 : Int32} {x1 : Int32}  {o : Int32} (hf : fX9_bit x0 x1 = some o) : sn_M l yX9_bit cX9_bit 2 (some .int) rmX9_bit layM (fun ad => [.int x0, .int x1]) σ (some (fun _ => .int o)) σ :=
  sn_met (by decide) (fun _ => Nat.le_of_ble_eq_true rfl) (fun p e s m args below meth c ls D ct ad C hw hl => wX9_bit_in C  hf (fun H locs ls pc hw ok hd => sn_iret C hw hd) _ _ _ hw hl)
-- X9_image
abbrev rmX9_image : Room := { frames := 1, cells := 0, slots := 0, locals := 25 }
def BX9_image_46 (σ : sn_S) (x1 : Int32) : Option ((Int32 × sn_S)) :=
  (sn_gd (sn_in x1 3) (sn_lt (sn_pI σ 3 x1.toNatClampNeg (vp_nar .boolean (1 : Int32))) fun σ_2 => (some ((0 : Int32), σ_2))))
def BX9_image_17 (σ : sn_S) (x1 : Int32) (x2 : Int32) : Option ((sn_S × Int32) ⊕ (sn_S)) :=
  (if (119 : Int32) ≤ x2 then
  (some (.inr (σ)))
  else
  (sn_gd (sn_in x2 119) (sn_gd (sn_in (((119 : Int32) * x1) + x2) 357) (sn_lt (sn_pI σ 2 (((119 : Int32) * x1) + x2).toNatClampNeg (sn_I σ 1 x2.toNatClampNeg)) fun σ_4 => (sn_lt (x2 + 1) fun y_6 => (some (.inl (σ_4, y_6))))))))
def LX9_image_17 (x1 : Int32) (s : sn_S × Int32) : Option ((sn_S × Int32) ⊕ (sn_S)) := BX9_image_17 s.1 x1 s.2
def fX9_image (σ : sn_S) (x1 : Int32) : Option (Int32 × sn_S) :=
  ((fX9_in x1.toInt64 (0 : Int64) (2 : Int64)).bind fun t_1 => (if t_1 = 0 then
  (some ((-2 : Int32), σ))
  else
  ((sn_it (LX9_image_17 x1) 5000 (σ, (0 : Int32))).bind fun t_4 => (BX9_image_46 t_4 x1))))
theorem wX9_image_46 (C : sn_C p s m args meth c RX9 cX9_image 3 (some .int) D ct ad layM) {σ : sn_S} {x1 : Int32}  {o : (Int32 × sn_S)} (hf : BX9_image_46 σ x1 = some o) (kr : sn_Kr p l e rmX9_image s m args below meth c Q D ct ad layM cX9_image .ireturn (true) o.2 [.int o.1]) : sn_At p l e rmX9_image s m args below meth c Q D ct ad layM 3 σ 46 [(0, .ref (ad 0)), (1, .int x1)] [] := by
  intro H locs ls hw hl
  have hx := C.1
  have hb := C.2.1
  unfold BX9_image_46 at hf
  refine lv_aload_n hx hb dX9_image_46 rfl (lv_at hl 0 rfl) ?_
  refine sn_getC (r := 3) C hw fd_RX9_16 layM_0 rfl dX9_image_47 ?_
  refine lv_iload_n hx hb dX9_image_50 rfl (lv_at hl 1 rfl) ?_
  refine lv_iconst (v := 1) hx hb dX9_image_51 rfl ?_
  obtain ⟨g_1, hf⟩ := sn_gdE hf
  refine sn_zast C hw layM_3 g_1 dX9_image_52 (fun H locs hw => ?_)
  obtain ⟨σ_2, e_3, hf⟩ := sn_ltE hf
  rw [← e_3] at hw
  refine lv_iconst (v := 0) hx hb dX9_image_53 rfl ?_
  cases hf
  exact kr _ _ _ _ hw rfl dX9_image_54
theorem wX9_image_17 (C : sn_C p s m args meth c RX9 cX9_image 3 (some .int) D ct ad layM) {σ : sn_S} {x1 : Int32} {x2 : Int32}  {o : (sn_S × Int32) ⊕ (sn_S)} (hf : BX9_image_17 σ x1 x2 = some o) (kc : ∀ v, o = .inl v → sn_At p l e rmX9_image s m args below meth c Q D ct ad layM 3 v.1 17 [(0, .ref (ad 0)), (1, .int x1), (2, .int v.2)] []) (kx : ∀ v, o = .inr v → sn_At p l e rmX9_image s m args below meth c Q D ct ad layM 3 v 46 [(0, .ref (ad 0)), (1, .int x1)] []) : sn_At p l e rmX9_image s m args below meth c Q D ct ad layM 3 σ 17 [(0, .ref (ad 0)), (1, .int x1), (2, .int x2)] [] := by
  intro H locs ls hw hl
  have hx := C.1
  have hb := C.2.1
  unfold BX9_image_17 at hf
  refine lv_iload_n hx hb dX9_image_17 rfl (lv_at hl 2 rfl) ?_
  refine lv_bipush (v := 119) hx hb dX9_image_18 (by decide) ?_
  refine lv_icmp_ge (tgt := 46) hx hb dX9_image_20 (by decide) (fun c_1 => ?_) (fun c_1 => ?_)
  · have hf := sn_if c_1 hf
    cases hf
    exact kx _ rfl _ _ _ hw (lv_sub hl [0, 1] rfl)
  · have hf := sn_el c_1 hf
    refine lv_aload_n hx hb dX9_image_23 rfl (lv_at hl 0 rfl) ?_
    refine sn_getC (r := 2) C hw fd_RX9_13 layM_0 rfl dX9_image_24 ?_
    refine lv_bipush (v := 119) hx hb dX9_image_27 (by decide) ?_
    refine lv_iload_n hx hb dX9_image_29 rfl (lv_at hl 1 rfl) ?_
    refine lv_imul hx hb dX9_image_30 ?_
    refine lv_iload_n hx hb dX9_image_31 rfl (lv_at hl 2 rfl) ?_
    refine lv_iadd hx hb dX9_image_32 ?_
    refine lv_aload_n hx hb dX9_image_33 rfl (lv_at hl 0 rfl) ?_
    refine sn_getC (r := 1) C hw fd_RX9_9 layM_0 rfl dX9_image_34 ?_
    refine lv_iload_n hx hb dX9_image_37 rfl (lv_at hl 2 rfl) ?_
    obtain ⟨g_2, hf⟩ := sn_gdE hf
    refine sn_iald C hw layM_1 g_2 dX9_image_38 ?_
    obtain ⟨g_3, hf⟩ := sn_gdE hf
    refine sn_iast C hw layM_2 g_3 dX9_image_39 (fun H locs hw => ?_)
    obtain ⟨σ_4, e_5, hf⟩ := sn_ltE hf
    rw [← e_5] at hw
    obtain ⟨y_6, e_7, hf⟩ := sn_ltE hf
    refine lv_iinc (v := y_6) (lv' := [(2, .int y_6), (0, .ref (ad 0)), (1, .int x1)]) hx hb dX9_image_40 hl (k := 2) rfl (by rw [e_7]; rfl) (by decide) rfl (fun ls hl => ?_)
    refine lv_goto (tgt := 17) hx hb dX9_image_43 (by decide) ?_
    cases hf
    exact kc _ rfl _ _ _ hw (lv_sub hl [1, 2, 0] rfl)
theorem wX9_image_L17 (C : sn_C p s m args meth c RX9 cX9_image 3 (some .int) D ct ad layM) {x1 : Int32}   {z : sn_S × Int32} {t : sn_S} (h : sn_it (LX9_image_17 x1) 5000 z = some t) (kx : ∀ v, t = v → sn_At p l e rmX9_image s m args below meth c Q D ct ad layM 3 v 46 [(0, .ref (ad 0)), (1, .int x1)] []) : sn_At p l e rmX9_image s m args below meth c Q D ct ad layM 3 z.1 17 [(0, .ref (ad 0)), (1, .int x1), (2, .int z.2)] [] :=
  sn_loop (f := LX9_image_17 x1) (G := fun z => sn_At p l e rmX9_image s m args below meth c Q D ct ad layM 3 z.1 17 [(0, .ref (ad 0)), (1, .int x1), (2, .int z.2)] []) (E := fun t => (∀ v, t = v → sn_At p l e rmX9_image s m args below meth c Q D ct ad layM 3 v 46 [(0, .ref (ad 0)), (1, .int x1)] []) ∧ True) (fun z o hf k1 k2 => wX9_image_17 C  hf (fun v e => k1 v e) (fun v e => (k2 _ e).1 v rfl)) 5000 z t h ⟨kx, trivial⟩
theorem wX9_image_in (C : sn_C p s m args meth c RX9 cX9_image 3 (some .int) D ct ad layM) {σ : sn_S} {x1 : Int32}  {o : (Int32 × sn_S)} (hf : fX9_image σ x1 = some o) (kr : sn_Kr p l e rmX9_image s m args below meth c Q D ct ad layM cX9_image .ireturn (true) o.2 [.int o.1]) : sn_At p l e rmX9_image s m args below meth c Q D ct ad layM 3 σ 0 [(0, .ref (ad 0)), (1, .int x1)] [] := by
  intro H locs ls hw hl
  have hx := C.1
  have hb := C.2.1
  unfold fX9_image at hf
  refine lv_iload_n hx hb dX9_image_0 rfl (lv_at hl 1 rfl) ?_
  refine lv_i2l hx hb dX9_image_1 rfl ?_
  refine lv_lconst (v := 0) hx hb dX9_image_2 rfl ?_
  refine lv_ldc2 hx hb C.2.2.2.1 (C.2.2.2.2.1 _ kk_RX9_92) dX9_image_3 ?_
  obtain ⟨t_1, h_2, hf⟩ := sn_bd hf
  refine sn_callSi (rest := []) C hw (ctX9_in l  h_2) kl_RX9_94 rfl rfl rfl (Nat.le_of_ble_eq_true rfl) dX9_image_6 hl.1 (fun H locs hw => ?_)
  refine lv_if_ne (tgt := 15) hx hb dX9_image_9 (by decide) (fun c_3 => ?_) (fun c_3 => ?_)
  · have hf := sn_el c_3 hf
    refine lv_iconst (v := 0) hx hb dX9_image_15 rfl ?_
    refine lv_istore_n (lv' := [(2, .int (0 : Int32)), (0, .ref (ad 0)), (1, .int x1)]) hx hb dX9_image_16 rfl hl (by decide) rfl (fun ls hl => ?_)
    obtain ⟨t_4, h_5, hf⟩ := sn_bd hf
    exact wX9_image_L17 C  h_5 (fun v e => by cases e; exact wX9_image_46 C  hf kr) _ _ _ hw (lv_sub hl [1, 2, 0] rfl)
  · have hf := sn_if c_3 hf
    refine lv_bipush (v := (-2)) hx hb dX9_image_12 (by decide) ?_
    cases hf
    exact kr _ _ _ _ hw rfl dX9_image_14
theorem ctX9_image (l : Launch) {σ : sn_S} {x1 : Int32}  {o : (Int32 × sn_S)} (hf : fX9_image σ x1 = some o) : sn_M l yX9_image cX9_image 3 (some .int) rmX9_image layM (fun ad => [.ref (ad 0), .int x1]) σ (some (fun _ => .int o.1)) o.2 :=
  sn_met (by decide) (fun _ => Nat.le_of_ble_eq_true rfl) (fun p e s m args below meth c ls D ct ad C hw hl => wX9_image_in C  hf (fun H locs ls pc hw ok hd => sn_iret C hw hd) _ _ _ hw hl)
-- X9_back
abbrev rmX9_back : Room := { frames := 1, cells := 0, slots := 0, locals := 25 }
def BX9_back_58 (σ : sn_S) : Option ((Int32 × sn_S)) :=
  (some ((0 : Int32), σ))
def BX9_back_29 (σ : sn_S) (x1 : Int32) (x2 : Int32) : Option ((sn_S × Int32) ⊕ (sn_S)) :=
  (if (119 : Int32) ≤ x2 then
  (some (.inr (σ)))
  else
  (sn_gd (sn_in (((119 : Int32) * x1) + x2) 357) (sn_gd (sn_in x2 119) (sn_lt (sn_pI σ 1 x2.toNatClampNeg (sn_I σ 2 (((119 : Int32) * x1) + x2).toNatClampNeg)) fun σ_4 => (sn_lt (x2 + 1) fun y_6 => (some (.inl (σ_4, y_6))))))))
def LX9_back_29 (x1 : Int32) (s : sn_S × Int32) : Option ((sn_S × Int32) ⊕ (sn_S)) := BX9_back_29 s.1 x1 s.2
def fX9_back (σ : sn_S) (x1 : Int32) : Option (Int32 × sn_S) :=
  ((fX9_in x1.toInt64 (0 : Int64) (2 : Int64)).bind fun t_1 => (if t_1 = 0 then
  (some ((-2 : Int32), σ))
  else
  (sn_gd (sn_in x1 3) (if (sn_I σ 3 x1.toNatClampNeg) = 0 then
  (some ((-6 : Int32), σ))
  else
  ((sn_it (LX9_back_29 x1) 5000 (σ, (0 : Int32))).bind fun t_6 => (BX9_back_58 t_6))))))
theorem wX9_back_58 (C : sn_C p s m args meth c RX9 cX9_back 3 (some .int) D ct ad layM) {σ : sn_S}  {o : (Int32 × sn_S)} (hf : BX9_back_58 σ = some o) (kr : sn_Kr p l e rmX9_back s m args below meth c Q D ct ad layM cX9_back .ireturn (true) o.2 [.int o.1]) : sn_At p l e rmX9_back s m args below meth c Q D ct ad layM 3 σ 58 [] [] := by
  intro H locs ls hw hl
  have hx := C.1
  have hb := C.2.1
  unfold BX9_back_58 at hf
  refine lv_iconst (v := 0) hx hb dX9_back_58 rfl ?_
  cases hf
  exact kr _ _ _ _ hw rfl dX9_back_59
theorem wX9_back_29 (C : sn_C p s m args meth c RX9 cX9_back 3 (some .int) D ct ad layM) {σ : sn_S} {x1 : Int32} {x2 : Int32}  {o : (sn_S × Int32) ⊕ (sn_S)} (hf : BX9_back_29 σ x1 x2 = some o) (kc : ∀ v, o = .inl v → sn_At p l e rmX9_back s m args below meth c Q D ct ad layM 3 v.1 29 [(0, .ref (ad 0)), (1, .int x1), (2, .int v.2)] []) (kx : ∀ v, o = .inr v → sn_At p l e rmX9_back s m args below meth c Q D ct ad layM 3 v 58 [] []) : sn_At p l e rmX9_back s m args below meth c Q D ct ad layM 3 σ 29 [(0, .ref (ad 0)), (1, .int x1), (2, .int x2)] [] := by
  intro H locs ls hw hl
  have hx := C.1
  have hb := C.2.1
  unfold BX9_back_29 at hf
  refine lv_iload_n hx hb dX9_back_29 rfl (lv_at hl 2 rfl) ?_
  refine lv_bipush (v := 119) hx hb dX9_back_30 (by decide) ?_
  refine lv_icmp_ge (tgt := 58) hx hb dX9_back_32 (by decide) (fun c_1 => ?_) (fun c_1 => ?_)
  · have hf := sn_if c_1 hf
    cases hf
    exact kx _ rfl _ _ _ hw (lv_sub hl [] rfl)
  · have hf := sn_el c_1 hf
    refine lv_aload_n hx hb dX9_back_35 rfl (lv_at hl 0 rfl) ?_
    refine sn_getC (r := 1) C hw fd_RX9_9 layM_0 rfl dX9_back_36 ?_
    refine lv_iload_n hx hb dX9_back_39 rfl (lv_at hl 2 rfl) ?_
    refine lv_aload_n hx hb dX9_back_40 rfl (lv_at hl 0 rfl) ?_
    refine sn_getC (r := 2) C hw fd_RX9_13 layM_0 rfl dX9_back_41 ?_
    refine lv_bipush (v := 119) hx hb dX9_back_44 (by decide) ?_
    refine lv_iload_n hx hb dX9_back_46 rfl (lv_at hl 1 rfl) ?_
    refine lv_imul hx hb dX9_back_47 ?_
    refine lv_iload_n hx hb dX9_back_48 rfl (lv_at hl 2 rfl) ?_
    refine lv_iadd hx hb dX9_back_49 ?_
    obtain ⟨g_2, hf⟩ := sn_gdE hf
    refine sn_iald C hw layM_2 g_2 dX9_back_50 ?_
    obtain ⟨g_3, hf⟩ := sn_gdE hf
    refine sn_iast C hw layM_1 g_3 dX9_back_51 (fun H locs hw => ?_)
    obtain ⟨σ_4, e_5, hf⟩ := sn_ltE hf
    rw [← e_5] at hw
    obtain ⟨y_6, e_7, hf⟩ := sn_ltE hf
    refine lv_iinc (v := y_6) (lv' := [(2, .int y_6), (0, .ref (ad 0)), (1, .int x1)]) hx hb dX9_back_52 hl (k := 2) rfl (by rw [e_7]; rfl) (by decide) rfl (fun ls hl => ?_)
    refine lv_goto (tgt := 29) hx hb dX9_back_55 (by decide) ?_
    cases hf
    exact kc _ rfl _ _ _ hw (lv_sub hl [1, 2, 0] rfl)
theorem wX9_back_L29 (C : sn_C p s m args meth c RX9 cX9_back 3 (some .int) D ct ad layM) {x1 : Int32}   {z : sn_S × Int32} {t : sn_S} (h : sn_it (LX9_back_29 x1) 5000 z = some t) (kx : ∀ v, t = v → sn_At p l e rmX9_back s m args below meth c Q D ct ad layM 3 v 58 [] []) : sn_At p l e rmX9_back s m args below meth c Q D ct ad layM 3 z.1 29 [(0, .ref (ad 0)), (1, .int x1), (2, .int z.2)] [] :=
  sn_loop (f := LX9_back_29 x1) (G := fun z => sn_At p l e rmX9_back s m args below meth c Q D ct ad layM 3 z.1 29 [(0, .ref (ad 0)), (1, .int x1), (2, .int z.2)] []) (E := fun t => (∀ v, t = v → sn_At p l e rmX9_back s m args below meth c Q D ct ad layM 3 v 58 [] []) ∧ True) (fun z o hf k1 k2 => wX9_back_29 C  hf (fun v e => k1 v e) (fun v e => (k2 _ e).1 v rfl)) 5000 z t h ⟨kx, trivial⟩
theorem wX9_back_in (C : sn_C p s m args meth c RX9 cX9_back 3 (some .int) D ct ad layM) {σ : sn_S} {x1 : Int32}  {o : (Int32 × sn_S)} (hf : fX9_back σ x1 = some o) (kr : sn_Kr p l e rmX9_back s m args below meth c Q D ct ad layM cX9_back .ireturn (true) o.2 [.int o.1]) : sn_At p l e rmX9_back s m args below meth c Q D ct ad layM 3 σ 0 [(0, .ref (ad 0)), (1, .int x1)] [] := by
  intro H locs ls hw hl
  have hx := C.1
  have hb := C.2.1
  unfold fX9_back at hf
  refine lv_iload_n hx hb dX9_back_0 rfl (lv_at hl 1 rfl) ?_
  refine lv_i2l hx hb dX9_back_1 rfl ?_
  refine lv_lconst (v := 0) hx hb dX9_back_2 rfl ?_
  refine lv_ldc2 hx hb C.2.2.2.1 (C.2.2.2.2.1 _ kk_RX9_92) dX9_back_3 ?_
  obtain ⟨t_1, h_2, hf⟩ := sn_bd hf
  refine sn_callSi (rest := []) C hw (ctX9_in l  h_2) kl_RX9_94 rfl rfl rfl (Nat.le_of_ble_eq_true rfl) dX9_back_6 hl.1 (fun H locs hw => ?_)
  refine lv_if_ne (tgt := 15) hx hb dX9_back_9 (by decide) (fun c_3 => ?_) (fun c_3 => ?_)
  · have hf := sn_el c_3 hf
    refine lv_aload_n hx hb dX9_back_15 rfl (lv_at hl 0 rfl) ?_
    refine sn_getC (r := 3) C hw fd_RX9_16 layM_0 rfl dX9_back_16 ?_
    refine lv_iload_n hx hb dX9_back_19 rfl (lv_at hl 1 rfl) ?_
    obtain ⟨g_4, hf⟩ := sn_gdE hf
    refine sn_zald C hw layM_3 g_4 dX9_back_20 ?_
    refine lv_if_ne (tgt := 27) hx hb dX9_back_21 (by decide) (fun c_5 => ?_) (fun c_5 => ?_)
    · have hf := sn_el c_5 hf
      refine lv_iconst (v := 0) hx hb dX9_back_27 rfl ?_
      refine lv_istore_n (lv' := [(2, .int (0 : Int32)), (0, .ref (ad 0)), (1, .int x1)]) hx hb dX9_back_28 rfl hl (by decide) rfl (fun ls hl => ?_)
      obtain ⟨t_6, h_7, hf⟩ := sn_bd hf
      exact wX9_back_L29 C  h_7 (fun v e => by cases e; exact wX9_back_58 C  hf kr) _ _ _ hw (lv_sub hl [1, 2, 0] rfl)
    · have hf := sn_if c_5 hf
      refine lv_bipush (v := (-6)) hx hb dX9_back_24 (by decide) ?_
      cases hf
      exact kr _ _ _ _ hw rfl dX9_back_26
  · have hf := sn_if c_3 hf
    refine lv_bipush (v := (-2)) hx hb dX9_back_12 (by decide) ?_
    cases hf
    exact kr _ _ _ _ hw rfl dX9_back_14
theorem ctX9_back (l : Launch) {σ : sn_S} {x1 : Int32}  {o : (Int32 × sn_S)} (hf : fX9_back σ x1 = some o) : sn_M l yX9_back cX9_back 3 (some .int) rmX9_back layM (fun ad => [.ref (ad 0), .int x1]) σ (some (fun _ => .int o.1)) o.2 :=
  sn_met (by decide) (fun _ => Nat.le_of_ble_eq_true rfl) (fun p e s m args below meth c ls D ct ad C hw hl => wX9_back_in C  hf (fun H locs ls pc hw ok hd => sn_iret C hw hd) _ _ _ hw hl)
-- X9_isHouse
abbrev rmX9_isHouse : Room := { frames := 0, cells := 0, slots := 0, locals := 0 }
def fX9_isHouse (σ : sn_S) : Option Int32 :=
  (sn_gd (sn_in (10 : Int32) 119) (if (sn_I σ 1 (10 : Int32).toNatClampNeg) ≤ 0 then
  (sn_gd (sn_b01 (0 : Int32)) (some (0 : Int32)))
  else
  (sn_gd (sn_b01 (1 : Int32)) (some (1 : Int32)))))
theorem wX9_isHouse_in (C : sn_C p s m args meth c RX9 cX9_isHouse 1 (some .boolean) D ct ad layM) {σ : sn_S}  {o : Int32} (hf : fX9_isHouse σ = some o) (kr : sn_Kr p l e rmX9_isHouse s m args below meth c Q D ct ad layM cX9_isHouse .ireturn (sn_b01 o) σ [.int o]) : sn_At p l e rmX9_isHouse s m args below meth c Q D ct ad layM 1 σ 0 [(0, .ref (ad 0))] [] := by
  intro H locs ls hw hl
  have hx := C.1
  have hb := C.2.1
  unfold fX9_isHouse at hf
  refine lv_aload_n hx hb dX9_isHouse_0 rfl (lv_at hl 0 rfl) ?_
  refine sn_getC (r := 1) C hw fd_RX9_9 layM_0 rfl dX9_isHouse_1 ?_
  refine lv_bipush (v := 10) hx hb dX9_isHouse_4 (by decide) ?_
  obtain ⟨g_1, hf⟩ := sn_gdE hf
  refine sn_iald C hw layM_1 g_1 dX9_isHouse_6 ?_
  refine lv_if_le (tgt := 14) hx hb dX9_isHouse_7 (by decide) (fun c_2 => ?_) (fun c_2 => ?_)
  · have hf := sn_if c_2 hf
    refine lv_iconst (v := 0) hx hb dX9_isHouse_14 rfl ?_
    obtain ⟨g_3, hf⟩ := sn_gdE hf
    cases hf
    exact kr _ _ _ _ hw g_3 dX9_isHouse_15
  · have hf := sn_el c_2 hf
    refine lv_iconst (v := 1) hx hb dX9_isHouse_10 rfl ?_
    refine lv_goto (tgt := 15) hx hb dX9_isHouse_11 (by decide) ?_
    obtain ⟨g_4, hf⟩ := sn_gdE hf
    cases hf
    exact kr _ _ _ _ hw g_4 dX9_isHouse_15
theorem ctX9_isHouse (l : Launch) {σ : sn_S}  {o : Int32} (hf : fX9_isHouse σ = some o) : sn_M l yX9_isHouse cX9_isHouse 1 (some .boolean) rmX9_isHouse layM (fun ad => [.ref (ad 0)]) σ (some (fun _ => .int o)) σ :=
  sn_met (by decide) (fun _ => Nat.le_of_ble_eq_true rfl) (fun p e s m args below meth c ls D ct ad C hw hl => wX9_isHouse_in C  hf (fun H locs ls pc hw ok hd => sn_zret C hw ok hd) _ _ _ hw hl)
-- X9_isMinute
abbrev rmX9_isMinute : Room := { frames := 1, cells := 0, slots := 0, locals := 25 }
def fX9_isMinute (σ : sn_S) (x1 : Int64) : Option Int32 :=
  (sn_gd (sn_in (0 : Int32) 119) ((fX9_in x1 (0 : Int64) (((sn_I σ 1 (0 : Int32).toNatClampNeg) - (1 : Int32)).toInt64)).bind fun t_2 => (sn_gd (sn_b01 t_2) (some t_2))))
theorem wX9_isMinute_in (C : sn_C p s m args meth c RX9 cX9_isMinute 3 (some .boolean) D ct ad layM) {σ : sn_S} {x1 : Int64}  {o : Int32} (hf : fX9_isMinute σ x1 = some o) (kr : sn_Kr p l e rmX9_isMinute s m args below meth c Q D ct ad layM cX9_isMinute .ireturn (sn_b01 o) σ [.int o]) : sn_At p l e rmX9_isMinute s m args below meth c Q D ct ad layM 3 σ 0 [(0, .ref (ad 0)), (1, .long x1)] [] := by
  intro H locs ls hw hl
  have hx := C.1
  have hb := C.2.1
  unfold fX9_isMinute at hf
  refine lv_lload_n hx hb dX9_isMinute_0 rfl (lv_at hl 1 rfl) ?_
  refine lv_lconst (v := 0) hx hb dX9_isMinute_1 rfl ?_
  refine lv_aload_n hx hb dX9_isMinute_2 rfl (lv_at hl 0 rfl) ?_
  refine sn_getC (r := 1) C hw fd_RX9_9 layM_0 rfl dX9_isMinute_3 ?_
  refine lv_iconst (v := 0) hx hb dX9_isMinute_6 rfl ?_
  obtain ⟨g_1, hf⟩ := sn_gdE hf
  refine sn_iald C hw layM_1 g_1 dX9_isMinute_7 ?_
  refine lv_iconst (v := 1) hx hb dX9_isMinute_8 rfl ?_
  refine lv_isub hx hb dX9_isMinute_9 ?_
  refine lv_i2l hx hb dX9_isMinute_10 rfl ?_
  obtain ⟨t_2, h_3, hf⟩ := sn_bd hf
  refine sn_callSi (rest := []) C hw (ctX9_in l  h_3) kl_RX9_94 rfl rfl rfl (Nat.le_of_ble_eq_true rfl) dX9_isMinute_11 hl.1 (fun H locs hw => ?_)
  obtain ⟨g_4, hf⟩ := sn_gdE hf
  cases hf
  exact kr _ _ _ _ hw g_4 dX9_isMinute_14
theorem ctX9_isMinute (l : Launch) {σ : sn_S} {x1 : Int64}  {o : Int32} (hf : fX9_isMinute σ x1 = some o) : sn_M l yX9_isMinute cX9_isMinute 3 (some .boolean) rmX9_isMinute layM (fun ad => [.ref (ad 0), .long x1]) σ (some (fun _ => .int o)) σ :=
  sn_met (by decide) (fun _ => Nat.le_of_ble_eq_true rfl) (fun p e s m args below meth c ls D ct ad C hw hl => wX9_isMinute_in C  hf (fun H locs ls pc hw ok hd => sn_zret C hw ok hd) _ _ _ hw hl)
-- X9_isPerson
abbrev rmX9_isPerson : Room := { frames := 1, cells := 0, slots := 0, locals := 25 }
def fX9_isPerson (σ : sn_S) (x1 : Int64) : Option Int32 :=
  (sn_gd (sn_in (5 : Int32) 119) ((fX9_in x1 (0 : Int64) (((sn_I σ 1 (5 : Int32).toNatClampNeg) - (1 : Int32)).toInt64)).bind fun t_2 => (sn_gd (sn_b01 t_2) (some t_2))))
theorem wX9_isPerson_in (C : sn_C p s m args meth c RX9 cX9_isPerson 3 (some .boolean) D ct ad layM) {σ : sn_S} {x1 : Int64}  {o : Int32} (hf : fX9_isPerson σ x1 = some o) (kr : sn_Kr p l e rmX9_isPerson s m args below meth c Q D ct ad layM cX9_isPerson .ireturn (sn_b01 o) σ [.int o]) : sn_At p l e rmX9_isPerson s m args below meth c Q D ct ad layM 3 σ 0 [(0, .ref (ad 0)), (1, .long x1)] [] := by
  intro H locs ls hw hl
  have hx := C.1
  have hb := C.2.1
  unfold fX9_isPerson at hf
  refine lv_lload_n hx hb dX9_isPerson_0 rfl (lv_at hl 1 rfl) ?_
  refine lv_lconst (v := 0) hx hb dX9_isPerson_1 rfl ?_
  refine lv_aload_n hx hb dX9_isPerson_2 rfl (lv_at hl 0 rfl) ?_
  refine sn_getC (r := 1) C hw fd_RX9_9 layM_0 rfl dX9_isPerson_3 ?_
  refine lv_iconst (v := 5) hx hb dX9_isPerson_6 rfl ?_
  obtain ⟨g_1, hf⟩ := sn_gdE hf
  refine sn_iald C hw layM_1 g_1 dX9_isPerson_7 ?_
  refine lv_iconst (v := 1) hx hb dX9_isPerson_8 rfl ?_
  refine lv_isub hx hb dX9_isPerson_9 ?_
  refine lv_i2l hx hb dX9_isPerson_10 rfl ?_
  obtain ⟨t_2, h_3, hf⟩ := sn_bd hf
  refine sn_callSi (rest := []) C hw (ctX9_in l  h_3) kl_RX9_94 rfl rfl rfl (Nat.le_of_ble_eq_true rfl) dX9_isPerson_11 hl.1 (fun H locs hw => ?_)
  obtain ⟨g_4, hf⟩ := sn_gdE hf
  cases hf
  exact kr _ _ _ _ hw g_4 dX9_isPerson_14
theorem ctX9_isPerson (l : Launch) {σ : sn_S} {x1 : Int64}  {o : Int32} (hf : fX9_isPerson σ x1 = some o) : sn_M l yX9_isPerson cX9_isPerson 3 (some .boolean) rmX9_isPerson layM (fun ad => [.ref (ad 0), .long x1]) σ (some (fun _ => .int o)) σ :=
  sn_met (by decide) (fun _ => Nat.le_of_ble_eq_true rfl) (fun p e s m args below meth c ls D ct ad C hw hl => wX9_isPerson_in C  hf (fun H locs ls pc hw ok hd => sn_zret C hw ok hd) _ _ _ hw hl)
-- X9_isPolicy
abbrev rmX9_isPolicy : Room := { frames := 1, cells := 0, slots := 0, locals := 25 }
def fX9_isPolicy (σ : sn_S) (x1 : Int32) : Option Int32 :=
  (sn_gd (sn_in (8 : Int32) 119) ((fX9_in x1.toInt64 (0 : Int64) (((sn_I σ 1 (8 : Int32).toNatClampNeg) - (1 : Int32)).toInt64)).bind fun t_2 => (sn_gd (sn_b01 t_2) (some t_2))))
theorem wX9_isPolicy_in (C : sn_C p s m args meth c RX9 cX9_isPolicy 2 (some .boolean) D ct ad layM) {σ : sn_S} {x1 : Int32}  {o : Int32} (hf : fX9_isPolicy σ x1 = some o) (kr : sn_Kr p l e rmX9_isPolicy s m args below meth c Q D ct ad layM cX9_isPolicy .ireturn (sn_b01 o) σ [.int o]) : sn_At p l e rmX9_isPolicy s m args below meth c Q D ct ad layM 2 σ 0 [(0, .ref (ad 0)), (1, .int x1)] [] := by
  intro H locs ls hw hl
  have hx := C.1
  have hb := C.2.1
  unfold fX9_isPolicy at hf
  refine lv_iload_n hx hb dX9_isPolicy_0 rfl (lv_at hl 1 rfl) ?_
  refine lv_i2l hx hb dX9_isPolicy_1 rfl ?_
  refine lv_lconst (v := 0) hx hb dX9_isPolicy_2 rfl ?_
  refine lv_aload_n hx hb dX9_isPolicy_3 rfl (lv_at hl 0 rfl) ?_
  refine sn_getC (r := 1) C hw fd_RX9_9 layM_0 rfl dX9_isPolicy_4 ?_
  refine lv_bipush (v := 8) hx hb dX9_isPolicy_7 (by decide) ?_
  obtain ⟨g_1, hf⟩ := sn_gdE hf
  refine sn_iald C hw layM_1 g_1 dX9_isPolicy_9 ?_
  refine lv_iconst (v := 1) hx hb dX9_isPolicy_10 rfl ?_
  refine lv_isub hx hb dX9_isPolicy_11 ?_
  refine lv_i2l hx hb dX9_isPolicy_12 rfl ?_
  obtain ⟨t_2, h_3, hf⟩ := sn_bd hf
  refine sn_callSi (rest := []) C hw (ctX9_in l  h_3) kl_RX9_94 rfl rfl rfl (Nat.le_of_ble_eq_true rfl) dX9_isPolicy_13 hl.1 (fun H locs hw => ?_)
  obtain ⟨g_4, hf⟩ := sn_gdE hf
  cases hf
  exact kr _ _ _ _ hw g_4 dX9_isPolicy_16
theorem ctX9_isPolicy (l : Launch) {σ : sn_S} {x1 : Int32}  {o : Int32} (hf : fX9_isPolicy σ x1 = some o) : sn_M l yX9_isPolicy cX9_isPolicy 2 (some .boolean) rmX9_isPolicy layM (fun ad => [.ref (ad 0), .int x1]) σ (some (fun _ => .int o)) σ :=
  sn_met (by decide) (fun _ => Nat.le_of_ble_eq_true rfl) (fun p e s m args below meth c ls D ct ad C hw hl => wX9_isPolicy_in C  hf (fun H locs ls pc hw ok hd => sn_zret C hw ok hd) _ _ _ hw hl)
-- X9_isLaw
abbrev rmX9_isLaw : Room := { frames := 1, cells := 0, slots := 0, locals := 25 }
def fX9_isLaw (x0 : Int32) : Option Int32 :=
  ((fX9_in x0.toInt64 (0 : Int64) (3 : Int64)).bind fun t_1 => (sn_gd (sn_b01 t_1) (some t_1)))
theorem wX9_isLaw_in (C : sn_C p s m args meth c RX9 cX9_isLaw 1 (some .boolean) D ct ad layM) {σ : sn_S} {x0 : Int32}  {o : Int32} (hf : fX9_isLaw x0 = some o) (kr : sn_Kr p l e rmX9_isLaw s m args below meth c Q D ct ad layM cX9_isLaw .ireturn (sn_b01 o) σ [.int o]) : sn_At p l e rmX9_isLaw s m args below meth c Q D ct ad layM 1 σ 0 [(0, .int x0)] [] := by
  intro H locs ls hw hl
  have hx := C.1
  have hb := C.2.1
  unfold fX9_isLaw at hf
  refine lv_iload_n hx hb dX9_isLaw_0 rfl (lv_at hl 0 rfl) ?_
  refine lv_i2l hx hb dX9_isLaw_1 rfl ?_
  refine lv_lconst (v := 0) hx hb dX9_isLaw_2 rfl ?_
  refine lv_ldc2 hx hb C.2.2.2.1 (C.2.2.2.2.1 _ kk_RX9_98) dX9_isLaw_3 ?_
  obtain ⟨t_1, h_2, hf⟩ := sn_bd hf
  refine sn_callSi (rest := []) C hw (ctX9_in l  h_2) kl_RX9_94 rfl rfl rfl (Nat.le_of_ble_eq_true rfl) dX9_isLaw_6 hl.1 (fun H locs hw => ?_)
  obtain ⟨g_3, hf⟩ := sn_gdE hf
  cases hf
  exact kr _ _ _ _ hw g_3 dX9_isLaw_9
theorem ctX9_isLaw (l : Launch) {σ : sn_S} {x0 : Int32}  {o : Int32} (hf : fX9_isLaw x0 = some o) : sn_M l yX9_isLaw cX9_isLaw 1 (some .boolean) rmX9_isLaw layM (fun ad => [.int x0]) σ (some (fun _ => .int o)) σ :=
  sn_met (by decide) (fun _ => Nat.le_of_ble_eq_true rfl) (fun p e s m args below meth c ls D ct ad C hw hl => wX9_isLaw_in C  hf (fun H locs ls pc hw ok hd => sn_zret C hw ok hd) _ _ _ hw hl)
-- X9_of
abbrev rmX9_of : Room := { frames := 0, cells := 0, slots := 0, locals := 0 }
def fX9_of (σ : sn_S) (x1 : Int32) (x2 : Int32) : Option Int32 :=
  (sn_gd (sn_in (((49 : Int32) + ((5 : Int32) * x1)) + x2) 119) (some (sn_I σ 1 (((49 : Int32) + ((5 : Int32) * x1)) + x2).toNatClampNeg)))
theorem wX9_of_in (C : sn_C p s m args meth c RX9 cX9_of 3 (some .int) D ct ad layM) {σ : sn_S} {x1 : Int32} {x2 : Int32}  {o : Int32} (hf : fX9_of σ x1 x2 = some o) (kr : sn_Kr p l e rmX9_of s m args below meth c Q D ct ad layM cX9_of .ireturn (true) σ [.int o]) : sn_At p l e rmX9_of s m args below meth c Q D ct ad layM 3 σ 0 [(0, .ref (ad 0)), (1, .int x1), (2, .int x2)] [] := by
  intro H locs ls hw hl
  have hx := C.1
  have hb := C.2.1
  unfold fX9_of at hf
  refine lv_aload_n hx hb dX9_of_0 rfl (lv_at hl 0 rfl) ?_
  refine sn_getC (r := 1) C hw fd_RX9_9 layM_0 rfl dX9_of_1 ?_
  refine lv_bipush (v := 49) hx hb dX9_of_4 (by decide) ?_
  refine lv_iconst (v := 5) hx hb dX9_of_6 rfl ?_
  refine lv_iload_n hx hb dX9_of_7 rfl (lv_at hl 1 rfl) ?_
  refine lv_imul hx hb dX9_of_8 ?_
  refine lv_iadd hx hb dX9_of_9 ?_
  refine lv_iload_n hx hb dX9_of_10 rfl (lv_at hl 2 rfl) ?_
  refine lv_iadd hx hb dX9_of_11 ?_
  obtain ⟨g_1, hf⟩ := sn_gdE hf
  refine sn_iald C hw layM_1 g_1 dX9_of_12 ?_
  cases hf
  exact kr _ _ _ _ hw rfl dX9_of_13
theorem ctX9_of (l : Launch) {σ : sn_S} {x1 : Int32} {x2 : Int32}  {o : Int32} (hf : fX9_of σ x1 x2 = some o) : sn_M l yX9_of cX9_of 3 (some .int) rmX9_of layM (fun ad => [.ref (ad 0), .int x1, .int x2]) σ (some (fun _ => .int o)) σ :=
  sn_met (by decide) (fun _ => Nat.le_of_ble_eq_true rfl) (fun p e s m args below meth c ls D ct ad C hw hl => wX9_of_in C  hf (fun H locs ls pc hw ok hd => sn_iret C hw hd) _ _ _ hw hl)
-- X9_minutes
abbrev rmX9_minutes : Room := { frames := 0, cells := 0, slots := 0, locals := 0 }
def fX9_minutes (σ : sn_S) : Option Int32 :=
  (sn_gd (sn_in (0 : Int32) 119) (some (sn_I σ 1 (0 : Int32).toNatClampNeg)))
theorem wX9_minutes_in (C : sn_C p s m args meth c RX9 cX9_minutes 1 (some .int) D ct ad layM) {σ : sn_S}  {o : Int32} (hf : fX9_minutes σ = some o) (kr : sn_Kr p l e rmX9_minutes s m args below meth c Q D ct ad layM cX9_minutes .ireturn (true) σ [.int o]) : sn_At p l e rmX9_minutes s m args below meth c Q D ct ad layM 1 σ 0 [(0, .ref (ad 0))] [] := by
  intro H locs ls hw hl
  have hx := C.1
  have hb := C.2.1
  unfold fX9_minutes at hf
  refine lv_aload_n hx hb dX9_minutes_0 rfl (lv_at hl 0 rfl) ?_
  refine sn_getC (r := 1) C hw fd_RX9_9 layM_0 rfl dX9_minutes_1 ?_
  refine lv_iconst (v := 0) hx hb dX9_minutes_4 rfl ?_
  obtain ⟨g_1, hf⟩ := sn_gdE hf
  refine sn_iald C hw layM_1 g_1 dX9_minutes_5 ?_
  cases hf
  exact kr _ _ _ _ hw rfl dX9_minutes_6
theorem ctX9_minutes (l : Launch) {σ : sn_S}  {o : Int32} (hf : fX9_minutes σ = some o) : sn_M l yX9_minutes cX9_minutes 1 (some .int) rmX9_minutes layM (fun ad => [.ref (ad 0)]) σ (some (fun _ => .int o)) σ :=
  sn_met (by decide) (fun _ => Nat.le_of_ble_eq_true rfl) (fun p e s m args below meth c ls D ct ad C hw hl => wX9_minutes_in C  hf (fun H locs ls pc hw ok hd => sn_iret C hw hd) _ _ _ hw hl)
-- X9_feed
abbrev rmX9_feed : Room := { frames := 0, cells := 0, slots := 0, locals := 0 }
def BX9_feed_101 (σ : sn_S) : Option ((Int32 × sn_S)) :=
  (sn_lt (sn_pI σ 0 5 ((sn_I σ 0 5) + (20 : Int32))) fun σ_1 => (some ((sn_I σ_1 0 5), σ_1)))
def BX9_feed_55 (σ : sn_S) (x6 : Int32) : Option ((sn_S × Int32) ⊕ (sn_S)) :=
  (if (20 : Int32) ≤ x6 then
  (some (.inr (σ)))
  else
  (sn_gd (sn_in (x6 / (4 : Int32)) 5) (sn_gd (sn_in ((sn_I σ 0 5) + x6) 900) (sn_lt (sn_pI σ 4 ((sn_I σ 0 5) + x6).toNatClampNeg (vp_nar .byte (((sn_I σ 5 (x6 / (4 : Int32)).toNatClampNeg) >>> (((24 : Int32) - ((8 : Int32) * (x6 - x6 / (4 : Int32) * (4 : Int32)))) &&& 31)).toInt8.toInt32))) fun σ_4 => (sn_lt (x6 + 1) fun y_6 => (some (.inl (σ_4, y_6))))))))
def LX9_feed_55  (s : sn_S × Int32) : Option ((sn_S × Int32) ⊕ (sn_S)) := BX9_feed_55 s.1 s.2
def fX9_feed (σ : sn_S) (x1 : Int32) (x2 : Int32) (x3 : Int32) (x4 : Int32) (x5 : Int32) : Option (Int32 × sn_S) :=
  (if ((sn_I σ 0 5) + (20 : Int32)) ≤ (900 : Int32) then
  (sn_gd (sn_in (0 : Int32) 5) (sn_lt (sn_pI σ 5 (0 : Int32).toNatClampNeg x1) fun σ_3 => (sn_gd (sn_in (1 : Int32) 5) (sn_lt (sn_pI σ_3 5 (1 : Int32).toNatClampNeg x2) fun σ_6 => (sn_gd (sn_in (2 : Int32) 5) (sn_lt (sn_pI σ_6 5 (2 : Int32).toNatClampNeg x3) fun σ_9 => (sn_gd (sn_in (3 : Int32) 5) (sn_lt (sn_pI σ_9 5 (3 : Int32).toNatClampNeg x4) fun σ_12 => (sn_gd (sn_in (4 : Int32) 5) (sn_lt (sn_pI σ_12 5 (4 : Int32).toNatClampNeg x5) fun σ_15 => ((sn_it (LX9_feed_55 ) 5000 (σ_15, (0 : Int32))).bind fun t_17 => (BX9_feed_101 t_17))))))))))))
  else
  (some ((-1 : Int32), σ)))
theorem wX9_feed_101 (C : sn_C p s m args meth c RX9 cX9_feed 7 (some .int) D ct ad layM) {σ : sn_S}  {o : (Int32 × sn_S)} (hf : BX9_feed_101 σ = some o) (kr : sn_Kr p l e rmX9_feed s m args below meth c Q D ct ad layM cX9_feed .ireturn (true) o.2 [.int o.1]) : sn_At p l e rmX9_feed s m args below meth c Q D ct ad layM 7 σ 101 [(0, .ref (ad 0))] [] := by
  intro H locs ls hw hl
  have hx := C.1
  have hb := C.2.1
  unfold BX9_feed_101 at hf
  refine lv_aload_n hx hb dX9_feed_101 rfl (lv_at hl 0 rfl) ?_
  refine lv_dup hx hb dX9_feed_102 rfl ?_
  refine sn_getI C hw fd_RX9_100 layM_0 rfl dX9_feed_103 ?_
  refine lv_bipush (v := 20) hx hb dX9_feed_106 (by decide) ?_
  refine lv_iadd hx hb dX9_feed_108 ?_
  refine sn_putI C hw fp_RX9_100 layM_0 rfl dX9_feed_109 (fun H locs hw => ?_)
  obtain ⟨σ_1, e_2, hf⟩ := sn_ltE hf
  rw [← e_2] at hw
  refine lv_aload_n hx hb dX9_feed_112 rfl (lv_at hl 0 rfl) ?_
  refine sn_getI C hw fd_RX9_100 layM_0 rfl dX9_feed_113 ?_
  cases hf
  exact kr _ _ _ _ hw rfl dX9_feed_116
theorem wX9_feed_55 (C : sn_C p s m args meth c RX9 cX9_feed 7 (some .int) D ct ad layM) {σ : sn_S} {x6 : Int32}  {o : (sn_S × Int32) ⊕ (sn_S)} (hf : BX9_feed_55 σ x6 = some o) (kc : ∀ v, o = .inl v → sn_At p l e rmX9_feed s m args below meth c Q D ct ad layM 7 v.1 55 [(0, .ref (ad 0)), (6, .int v.2)] []) (kx : ∀ v, o = .inr v → sn_At p l e rmX9_feed s m args below meth c Q D ct ad layM 7 v 101 [(0, .ref (ad 0))] []) : sn_At p l e rmX9_feed s m args below meth c Q D ct ad layM 7 σ 55 [(0, .ref (ad 0)), (6, .int x6)] [] := by
  intro H locs ls hw hl
  have hx := C.1
  have hb := C.2.1
  unfold BX9_feed_55 at hf
  refine lv_iload hx hb dX9_feed_55 (lv_at hl 1 rfl) ?_
  refine lv_bipush (v := 20) hx hb dX9_feed_57 (by decide) ?_
  refine lv_icmp_ge (tgt := 101) hx hb dX9_feed_59 (by decide) (fun c_1 => ?_) (fun c_1 => ?_)
  · have hf := sn_if c_1 hf
    cases hf
    exact kx _ rfl _ _ _ hw (lv_sub hl [0] rfl)
  · have hf := sn_el c_1 hf
    refine lv_aload_n hx hb dX9_feed_62 rfl (lv_at hl 0 rfl) ?_
    refine sn_getC (r := 4) C hw fd_RX9_20 layM_0 rfl dX9_feed_63 ?_
    refine lv_aload_n hx hb dX9_feed_66 rfl (lv_at hl 0 rfl) ?_
    refine sn_getI C hw fd_RX9_100 layM_0 rfl dX9_feed_67 ?_
    refine lv_iload hx hb dX9_feed_70 (lv_at hl 1 rfl) ?_
    refine lv_iadd hx hb dX9_feed_72 ?_
    refine lv_aload_n hx hb dX9_feed_73 rfl (lv_at hl 0 rfl) ?_
    refine sn_getC (r := 5) C hw fd_RX9_24 layM_0 rfl dX9_feed_74 ?_
    refine lv_iload hx hb dX9_feed_77 (lv_at hl 1 rfl) ?_
    refine lv_iconst (v := 4) hx hb dX9_feed_79 rfl ?_
    refine lv_idiv hx hb dX9_feed_80 (by decide) ?_
    obtain ⟨g_2, hf⟩ := sn_gdE hf
    refine sn_iald C hw layM_5 g_2 dX9_feed_81 ?_
    refine lv_bipush (v := 24) hx hb dX9_feed_82 (by decide) ?_
    refine lv_bipush (v := 8) hx hb dX9_feed_84 (by decide) ?_
    refine lv_iload hx hb dX9_feed_86 (lv_at hl 1 rfl) ?_
    refine lv_iconst (v := 4) hx hb dX9_feed_88 rfl ?_
    refine lv_irem hx hb dX9_feed_89 (by decide) ?_
    refine lv_imul hx hb dX9_feed_90 ?_
    refine lv_isub hx hb dX9_feed_91 ?_
    refine lv_ishr hx hb dX9_feed_92 ?_
    refine lv_i2b hx hb dX9_feed_93 rfl ?_
    obtain ⟨g_3, hf⟩ := sn_gdE hf
    refine sn_bast C hw layM_4 g_3 dX9_feed_94 (fun H locs hw => ?_)
    obtain ⟨σ_4, e_5, hf⟩ := sn_ltE hf
    rw [← e_5] at hw
    obtain ⟨y_6, e_7, hf⟩ := sn_ltE hf
    refine lv_iinc (v := y_6) (lv' := [(6, .int y_6), (0, .ref (ad 0))]) hx hb dX9_feed_95 hl (k := 1) rfl (by rw [e_7]; rfl) (by decide) rfl (fun ls hl => ?_)
    refine lv_goto (tgt := 55) hx hb dX9_feed_98 (by decide) ?_
    cases hf
    exact kc _ rfl _ _ _ hw (lv_sub hl [1, 0] rfl)
theorem wX9_feed_L55 (C : sn_C p s m args meth c RX9 cX9_feed 7 (some .int) D ct ad layM)    {z : sn_S × Int32} {t : sn_S} (h : sn_it (LX9_feed_55 ) 5000 z = some t) (kx : ∀ v, t = v → sn_At p l e rmX9_feed s m args below meth c Q D ct ad layM 7 v 101 [(0, .ref (ad 0))] []) : sn_At p l e rmX9_feed s m args below meth c Q D ct ad layM 7 z.1 55 [(0, .ref (ad 0)), (6, .int z.2)] [] :=
  sn_loop (f := LX9_feed_55 ) (G := fun z => sn_At p l e rmX9_feed s m args below meth c Q D ct ad layM 7 z.1 55 [(0, .ref (ad 0)), (6, .int z.2)] []) (E := fun t => (∀ v, t = v → sn_At p l e rmX9_feed s m args below meth c Q D ct ad layM 7 v 101 [(0, .ref (ad 0))] []) ∧ True) (fun z o hf k1 k2 => wX9_feed_55 C  hf (fun v e => k1 v e) (fun v e => (k2 _ e).1 v rfl)) 5000 z t h ⟨kx, trivial⟩
theorem wX9_feed_in (C : sn_C p s m args meth c RX9 cX9_feed 7 (some .int) D ct ad layM) {σ : sn_S} {x1 : Int32} {x2 : Int32} {x3 : Int32} {x4 : Int32} {x5 : Int32}  {o : (Int32 × sn_S)} (hf : fX9_feed σ x1 x2 x3 x4 x5 = some o) (kr : sn_Kr p l e rmX9_feed s m args below meth c Q D ct ad layM cX9_feed .ireturn (true) o.2 [.int o.1]) : sn_At p l e rmX9_feed s m args below meth c Q D ct ad layM 7 σ 0 [(0, .ref (ad 0)), (1, .int x1), (2, .int x2), (3, .int x3), (4, .int x4), (5, .int x5)] [] := by
  intro H locs ls hw hl
  have hx := C.1
  have hb := C.2.1
  unfold fX9_feed at hf
  refine lv_aload_n hx hb dX9_feed_0 rfl (lv_at hl 0 rfl) ?_
  refine sn_getI C hw fd_RX9_100 layM_0 rfl dX9_feed_1 ?_
  refine lv_bipush (v := 20) hx hb dX9_feed_4 (by decide) ?_
  refine lv_iadd hx hb dX9_feed_6 ?_
  refine lv_sipush (v := 900) hx hb dX9_feed_7 (by decide) ?_
  refine lv_icmp_le (tgt := 15) hx hb dX9_feed_10 (by decide) (fun c_1 => ?_) (fun c_1 => ?_)
  · have hf := sn_if c_1 hf
    refine lv_aload_n hx hb dX9_feed_15 rfl (lv_at hl 0 rfl) ?_
    refine sn_getC (r := 5) C hw fd_RX9_24 layM_0 rfl dX9_feed_16 ?_
    refine lv_iconst (v := 0) hx hb dX9_feed_19 rfl ?_
    refine lv_iload_n hx hb dX9_feed_20 rfl (lv_at hl 1 rfl) ?_
    obtain ⟨g_2, hf⟩ := sn_gdE hf
    refine sn_iast C hw layM_5 g_2 dX9_feed_21 (fun H locs hw => ?_)
    obtain ⟨σ_3, e_4, hf⟩ := sn_ltE hf
    rw [← e_4] at hw
    refine lv_aload_n hx hb dX9_feed_22 rfl (lv_at hl 0 rfl) ?_
    refine sn_getC (r := 5) C hw fd_RX9_24 layM_0 rfl dX9_feed_23 ?_
    refine lv_iconst (v := 1) hx hb dX9_feed_26 rfl ?_
    refine lv_iload_n hx hb dX9_feed_27 rfl (lv_at hl 2 rfl) ?_
    obtain ⟨g_5, hf⟩ := sn_gdE hf
    refine sn_iast C hw layM_5 g_5 dX9_feed_28 (fun H locs hw => ?_)
    obtain ⟨σ_6, e_7, hf⟩ := sn_ltE hf
    rw [← e_7] at hw
    refine lv_aload_n hx hb dX9_feed_29 rfl (lv_at hl 0 rfl) ?_
    refine sn_getC (r := 5) C hw fd_RX9_24 layM_0 rfl dX9_feed_30 ?_
    refine lv_iconst (v := 2) hx hb dX9_feed_33 rfl ?_
    refine lv_iload_n hx hb dX9_feed_34 rfl (lv_at hl 3 rfl) ?_
    obtain ⟨g_8, hf⟩ := sn_gdE hf
    refine sn_iast C hw layM_5 g_8 dX9_feed_35 (fun H locs hw => ?_)
    obtain ⟨σ_9, e_10, hf⟩ := sn_ltE hf
    rw [← e_10] at hw
    refine lv_aload_n hx hb dX9_feed_36 rfl (lv_at hl 0 rfl) ?_
    refine sn_getC (r := 5) C hw fd_RX9_24 layM_0 rfl dX9_feed_37 ?_
    refine lv_iconst (v := 3) hx hb dX9_feed_40 rfl ?_
    refine lv_iload hx hb dX9_feed_41 (lv_at hl 4 rfl) ?_
    obtain ⟨g_11, hf⟩ := sn_gdE hf
    refine sn_iast C hw layM_5 g_11 dX9_feed_43 (fun H locs hw => ?_)
    obtain ⟨σ_12, e_13, hf⟩ := sn_ltE hf
    rw [← e_13] at hw
    refine lv_aload_n hx hb dX9_feed_44 rfl (lv_at hl 0 rfl) ?_
    refine sn_getC (r := 5) C hw fd_RX9_24 layM_0 rfl dX9_feed_45 ?_
    refine lv_iconst (v := 4) hx hb dX9_feed_48 rfl ?_
    refine lv_iload hx hb dX9_feed_49 (lv_at hl 5 rfl) ?_
    obtain ⟨g_14, hf⟩ := sn_gdE hf
    refine sn_iast C hw layM_5 g_14 dX9_feed_51 (fun H locs hw => ?_)
    obtain ⟨σ_15, e_16, hf⟩ := sn_ltE hf
    rw [← e_16] at hw
    refine lv_iconst (v := 0) hx hb dX9_feed_52 rfl ?_
    refine lv_istore (lv' := [(6, .int (0 : Int32)), (0, .ref (ad 0)), (1, .int x1), (2, .int x2), (3, .int x3), (4, .int x4), (5, .int x5)]) hx hb dX9_feed_53 hl (by decide) rfl (fun ls hl => ?_)
    obtain ⟨t_17, h_18, hf⟩ := sn_bd hf
    exact wX9_feed_L55 C  h_18 (fun v e => by cases e; exact wX9_feed_101 C  hf kr) _ _ _ hw (lv_sub hl [1, 0] rfl)
  · have hf := sn_el c_1 hf
    refine lv_iconst (v := (-1)) hx hb dX9_feed_13 rfl ?_
    cases hf
    exact kr _ _ _ _ hw rfl dX9_feed_14
theorem ctX9_feed (l : Launch) {σ : sn_S} {x1 : Int32} {x2 : Int32} {x3 : Int32} {x4 : Int32} {x5 : Int32}  {o : (Int32 × sn_S)} (hf : fX9_feed σ x1 x2 x3 x4 x5 = some o) : sn_M l yX9_feed cX9_feed 7 (some .int) rmX9_feed layM (fun ad => [.ref (ad 0), .int x1, .int x2, .int x3, .int x4, .int x5]) σ (some (fun _ => .int o.1)) o.2 :=
  sn_met (by decide) (fun _ => Nat.le_of_ble_eq_true rfl) (fun p e s m args below meth c ls D ct ad C hw hl => wX9_feed_in C  hf (fun H locs ls pc hw ok hd => sn_iret C hw hd) _ _ _ hw hl)
-- X9_end
abbrev rmX9_end : Room := { frames := 1, cells := 0, slots := 0, locals := 25 }
def fX9_end (σ : sn_S) (x1 : Int32) : Option (Int32 × sn_S) :=
  ((fX9_in x1.toInt64 (0 : Int64) ((sn_I σ 0 5).toInt64)).bind fun t_1 => (if t_1 = 0 then
  (some ((-1 : Int32), σ))
  else
  (sn_lt (sn_pI σ 0 5 x1) fun σ_4 => (some (x1, σ_4)))))
theorem wX9_end_in (C : sn_C p s m args meth c RX9 cX9_end 2 (some .int) D ct ad layM) {σ : sn_S} {x1 : Int32}  {o : (Int32 × sn_S)} (hf : fX9_end σ x1 = some o) (kr : sn_Kr p l e rmX9_end s m args below meth c Q D ct ad layM cX9_end .ireturn (true) o.2 [.int o.1]) : sn_At p l e rmX9_end s m args below meth c Q D ct ad layM 2 σ 0 [(0, .ref (ad 0)), (1, .int x1)] [] := by
  intro H locs ls hw hl
  have hx := C.1
  have hb := C.2.1
  unfold fX9_end at hf
  refine lv_iload_n hx hb dX9_end_0 rfl (lv_at hl 1 rfl) ?_
  refine lv_i2l hx hb dX9_end_1 rfl ?_
  refine lv_lconst (v := 0) hx hb dX9_end_2 rfl ?_
  refine lv_aload_n hx hb dX9_end_3 rfl (lv_at hl 0 rfl) ?_
  refine sn_getI C hw fd_RX9_100 layM_0 rfl dX9_end_4 ?_
  refine lv_i2l hx hb dX9_end_7 rfl ?_
  obtain ⟨t_1, h_2, hf⟩ := sn_bd hf
  refine sn_callSi (rest := []) C hw (ctX9_in l  h_2) kl_RX9_94 rfl rfl rfl (Nat.le_of_ble_eq_true rfl) dX9_end_8 hl.1 (fun H locs hw => ?_)
  refine lv_if_ne (tgt := 16) hx hb dX9_end_11 (by decide) (fun c_3 => ?_) (fun c_3 => ?_)
  · have hf := sn_el c_3 hf
    refine lv_aload_n hx hb dX9_end_16 rfl (lv_at hl 0 rfl) ?_
    refine lv_iload_n hx hb dX9_end_17 rfl (lv_at hl 1 rfl) ?_
    refine sn_putI C hw fp_RX9_100 layM_0 rfl dX9_end_18 (fun H locs hw => ?_)
    obtain ⟨σ_4, e_5, hf⟩ := sn_ltE hf
    rw [← e_5] at hw
    refine lv_iload_n hx hb dX9_end_21 rfl (lv_at hl 1 rfl) ?_
    cases hf
    exact kr _ _ _ _ hw rfl dX9_end_22
  · have hf := sn_if c_3 hf
    refine lv_iconst (v := (-1)) hx hb dX9_end_14 rfl ?_
    cases hf
    exact kr _ _ _ _ hw rfl dX9_end_15
theorem ctX9_end (l : Launch) {σ : sn_S} {x1 : Int32}  {o : (Int32 × sn_S)} (hf : fX9_end σ x1 = some o) : sn_M l yX9_end cX9_end 2 (some .int) rmX9_end layM (fun ad => [.ref (ad 0), .int x1]) σ (some (fun _ => .int o.1)) o.2 :=
  sn_met (by decide) (fun _ => Nat.le_of_ble_eq_true rfl) (fun p e s m args below meth c ls D ct ad C hw hl => wX9_end_in C  hf (fun H locs ls pc hw ok hd => sn_iret C hw hd) _ _ _ hw hl)
-- X9_see
abbrev rmX9_see : Room := { frames := 0, cells := 0, slots := 0, locals := 0 }
def fX9_see (σ : sn_S) (x1 : Int32) : Option Int32 :=
  (if (sn_I σ 0 7) ≤ x1 then
  (some (-1 : Int32))
  else
  (sn_gd (sn_in x1 900) (some ((sn_I σ 4 x1.toNatClampNeg) &&& (255 : Int32)))))
theorem wX9_see_in (C : sn_C p s m args meth c RX9 cX9_see 2 (some .int) D ct ad layM) {σ : sn_S} {x1 : Int32}  {o : Int32} (hf : fX9_see σ x1 = some o) (kr : sn_Kr p l e rmX9_see s m args below meth c Q D ct ad layM cX9_see .ireturn (true) σ [.int o]) : sn_At p l e rmX9_see s m args below meth c Q D ct ad layM 2 σ 0 [(0, .ref (ad 0)), (1, .int x1)] [] := by
  intro H locs ls hw hl
  have hx := C.1
  have hb := C.2.1
  unfold fX9_see at hf
  refine lv_iload_n hx hb dX9_see_0 rfl (lv_at hl 1 rfl) ?_
  refine lv_aload_n hx hb dX9_see_1 rfl (lv_at hl 0 rfl) ?_
  refine sn_getI C hw fd_RX9_103 layM_0 rfl dX9_see_2 ?_
  refine lv_icmp_ge (tgt := 21) hx hb dX9_see_5 (by decide) (fun c_1 => ?_) (fun c_1 => ?_)
  · have hf := sn_if c_1 hf
    refine lv_iconst (v := (-1)) hx hb dX9_see_21 rfl ?_
    cases hf
    exact kr _ _ _ _ hw rfl dX9_see_22
  · have hf := sn_el c_1 hf
    refine lv_aload_n hx hb dX9_see_8 rfl (lv_at hl 0 rfl) ?_
    refine sn_getC (r := 4) C hw fd_RX9_20 layM_0 rfl dX9_see_9 ?_
    refine lv_iload_n hx hb dX9_see_12 rfl (lv_at hl 1 rfl) ?_
    obtain ⟨g_2, hf⟩ := sn_gdE hf
    refine sn_bald C hw layM_4 g_2 dX9_see_13 ?_
    refine lv_sipush (v := 255) hx hb dX9_see_14 (by decide) ?_
    refine lv_iand hx hb dX9_see_17 ?_
    refine lv_goto (tgt := 22) hx hb dX9_see_18 (by decide) ?_
    cases hf
    exact kr _ _ _ _ hw rfl dX9_see_22
theorem ctX9_see (l : Launch) {σ : sn_S} {x1 : Int32}  {o : Int32} (hf : fX9_see σ x1 = some o) : sn_M l yX9_see cX9_see 2 (some .int) rmX9_see layM (fun ad => [.ref (ad 0), .int x1]) σ (some (fun _ => .int o)) σ :=
  sn_met (by decide) (fun _ => Nat.le_of_ble_eq_true rfl) (fun p e s m args below meth c ls D ct ad C hw hl => wX9_see_in C  hf (fun H locs ls pc hw ok hd => sn_iret C hw hd) _ _ _ hw hl)
-- X9_advance
abbrev rmX9_advance : Room := { frames := 1, cells := 0, slots := 0, locals := 32 }
def BX9_advance_226 (σ : sn_S) (t1 : Int32) : Option (sn_S) :=
  (sn_lt (sn_pI σ 0 10 t1) fun σ_1 => (sn_lt (sn_pI σ_1 0 8 ((sn_I σ_1 0 8) + (1 : Int32))) fun σ_3 => (some σ_3)))
def BX9_advance_206 (σ : sn_S) : Option (sn_S) :=
  (sn_lt (sn_pI σ 0 10 (2 : Int32)) fun σ_1 => (some σ_1))
def BX9_advance_144 (σ : sn_S) : Option ((sn_S) ⊕ (sn_S)) :=
  ((fX9_see σ (sn_I σ 0 8)).bind fun t_1 => ((fX9_in t_1.toInt64 (48 : Int64) (57 : Int64)).bind fun t_3 => (if t_3 = 0 then
  (some (.inr (σ)))
  else
  ((fX9_see σ (sn_I σ 0 8)).bind fun t_6 => (sn_lt (if ((((10 : Int32) * (sn_I σ 0 11)) + t_6) - (48 : Int32)) < (99999 : Int32) then ((((10 : Int32) * (sn_I σ 0 11)) + t_6) - (48 : Int32)) else (99999 : Int32)) fun y_8 => (sn_lt (sn_pI σ 0 11 y_8) fun σ_10 => (sn_lt (sn_pI σ_10 0 8 ((sn_I σ_10 0 8) + (1 : Int32))) fun σ_12 => (some (.inl (σ_12))))))))))
def LX9_advance_144  (s : sn_S) : Option ((sn_S) ⊕ (sn_S)) := BX9_advance_144 s
def BX9_advance_117 (σ : sn_S) : Option (sn_S) :=
  (sn_lt (sn_pI σ 0 10 (1 : Int32)) fun σ_1 => (some σ_1))
def BX9_advance_83 (σ : sn_S) : Option ((sn_S) ⊕ (sn_S)) :=
  ((fX9_see σ (sn_I σ 0 8)).bind fun t_1 => ((fX9_in t_1.toInt64 (97 : Int64) (122 : Int64)).bind fun t_3 => (if t_3 = 0 then
  (some (.inr (σ)))
  else
  (sn_lt (sn_pI σ 0 8 ((sn_I σ 0 8) + (1 : Int32))) fun σ_6 => (some (.inl (σ_6)))))))
def LX9_advance_83  (s : sn_S) : Option ((sn_S) ⊕ (sn_S)) := BX9_advance_83 s
def BX9_advance_39 (σ : sn_S) : Option (sn_S) :=
  (sn_lt (sn_pI σ 0 9 (sn_I σ 0 8)) fun σ_1 => ((fX9_see σ_1 (sn_I σ_1 0 8)).bind fun t_3 => (if t_3 = (-1 : Int32) then
  (sn_lt (sn_pI σ_1 0 10 (0 : Int32)) fun σ_19 => (some σ_19))
  else
  ((fX9_in t_3.toInt64 (97 : Int64) (122 : Int64)).bind fun t_6 => (if t_6 = 0 then
  ((fX9_in t_3.toInt64 (48 : Int64) (57 : Int64)).bind fun t_9 => (if t_9 = 0 then
  (if t_3 = (59 : Int32) then
  (BX9_advance_226 σ_1 (3 : Int32))
  else
  (BX9_advance_226 σ_1 (4 : Int32)))
  else
  (sn_lt (sn_pI σ_1 0 11 (0 : Int32)) fun σ_13 => ((sn_it (LX9_advance_144 ) 5000 (σ_13)).bind fun t_15 => (BX9_advance_206 t_15)))))
  else
  ((sn_it (LX9_advance_83 ) 5000 (σ_1)).bind fun t_17 => (BX9_advance_117 t_17)))))))
def BX9_advance_26 (σ : sn_S) : Option ((sn_S) ⊕ (sn_S)) :=
  (sn_lt (sn_pI σ 0 8 ((sn_I σ 0 8) + (1 : Int32))) fun σ_1 => (some (.inl (σ_1))))
def BX9_advance_0 (σ : sn_S) : Option ((sn_S) ⊕ (sn_S)) :=
  ((fX9_see σ (sn_I σ 0 8)).bind fun t_1 => (if t_1 = (32 : Int32) then
  (BX9_advance_26 σ)
  else
  ((fX9_see σ (sn_I σ 0 8)).bind fun t_4 => (if t_4 = (10 : Int32) then
  (BX9_advance_26 σ)
  else
  (some (.inr (σ)))))))
def LX9_advance_0  (s : sn_S) : Option ((sn_S) ⊕ (sn_S)) := BX9_advance_0 s
def fX9_advance (σ : sn_S) : Option sn_S :=
  ((sn_it (LX9_advance_0 ) 5000 (σ)).bind fun t_1 => (BX9_advance_39 t_1))
theorem wX9_advance_226 (C : sn_C p s m args meth c RX9 cX9_advance 2 none D ct ad layM) {σ : sn_S} {t1 : Int32}  {o : sn_S} (hf : BX9_advance_226 σ t1 = some o) (kr : sn_Kr p l e rmX9_advance s m args below meth c Q D ct ad layM cX9_advance .return_ (true) o []) : sn_At p l e rmX9_advance s m args below meth c Q D ct ad layM 2 σ 226 [(0, .ref (ad 0))] [.int t1, .ref (ad 0)] := by
  intro H locs ls hw hl
  have hx := C.1
  have hb := C.2.1
  unfold BX9_advance_226 at hf
  refine sn_putI C hw fp_RX9_116 layM_0 rfl dX9_advance_226 (fun H locs hw => ?_)
  obtain ⟨σ_1, e_2, hf⟩ := sn_ltE hf
  rw [← e_2] at hw
  refine lv_aload_n hx hb dX9_advance_229 rfl (lv_at hl 0 rfl) ?_
  refine lv_dup hx hb dX9_advance_230 rfl ?_
  refine sn_getI C hw fd_RX9_106 layM_0 rfl dX9_advance_231 ?_
  refine lv_iconst (v := 1) hx hb dX9_advance_234 rfl ?_
  refine lv_iadd hx hb dX9_advance_235 ?_
  refine sn_putI C hw fp_RX9_106 layM_0 rfl dX9_advance_236 (fun H locs hw => ?_)
  obtain ⟨σ_3, e_4, hf⟩ := sn_ltE hf
  rw [← e_4] at hw
  cases hf
  exact kr _ _ _ _ hw rfl dX9_advance_239
theorem wX9_advance_206 (C : sn_C p s m args meth c RX9 cX9_advance 2 none D ct ad layM) {σ : sn_S}  {o : sn_S} (hf : BX9_advance_206 σ = some o) (kr : sn_Kr p l e rmX9_advance s m args below meth c Q D ct ad layM cX9_advance .return_ (true) o []) : sn_At p l e rmX9_advance s m args below meth c Q D ct ad layM 2 σ 206 [(0, .ref (ad 0))] [] := by
  intro H locs ls hw hl
  have hx := C.1
  have hb := C.2.1
  unfold BX9_advance_206 at hf
  refine lv_aload_n hx hb dX9_advance_206 rfl (lv_at hl 0 rfl) ?_
  refine lv_iconst (v := 2) hx hb dX9_advance_207 rfl ?_
  refine sn_putI C hw fp_RX9_116 layM_0 rfl dX9_advance_208 (fun H locs hw => ?_)
  obtain ⟨σ_1, e_2, hf⟩ := sn_ltE hf
  rw [← e_2] at hw
  refine lv_goto (tgt := 239) hx hb dX9_advance_211 (by decide) ?_
  cases hf
  exact kr _ _ _ _ hw rfl dX9_advance_239
theorem wX9_advance_144 (C : sn_C p s m args meth c RX9 cX9_advance 2 none D ct ad layM) {σ : sn_S}  {o : (sn_S) ⊕ (sn_S)} (hf : BX9_advance_144 σ = some o) (kc : ∀ v, o = .inl v → sn_At p l e rmX9_advance s m args below meth c Q D ct ad layM 2 v 144 [(0, .ref (ad 0))] []) (kx : ∀ v, o = .inr v → sn_At p l e rmX9_advance s m args below meth c Q D ct ad layM 2 v 206 [(0, .ref (ad 0))] []) : sn_At p l e rmX9_advance s m args below meth c Q D ct ad layM 2 σ 144 [(0, .ref (ad 0))] [] := by
  intro H locs ls hw hl
  have hx := C.1
  have hb := C.2.1
  unfold BX9_advance_144 at hf
  refine lv_aload_n hx hb dX9_advance_144 rfl (lv_at hl 0 rfl) ?_
  refine lv_aload_n hx hb dX9_advance_145 rfl (lv_at hl 0 rfl) ?_
  refine sn_getI C hw fd_RX9_106 layM_0 rfl dX9_advance_146 ?_
  obtain ⟨t_1, h_2, hf⟩ := sn_bd hf
  refine sn_callVi (rest := []) C hw (ctX9_see l  h_2) kl_RX9_109 layM_0 rfl rfl rfl rfl (Nat.le_of_ble_eq_true rfl) dX9_advance_149 hl.1 (fun H locs hw => ?_)
  refine lv_i2l hx hb dX9_advance_152 rfl ?_
  refine lv_ldc2 hx hb C.2.2.2.1 (C.2.2.2.2.1 _ kk_RX9_123) dX9_advance_153 ?_
  refine lv_ldc2 hx hb C.2.2.2.1 (C.2.2.2.2.1 _ kk_RX9_125) dX9_advance_156 ?_
  obtain ⟨t_3, h_4, hf⟩ := sn_bd hf
  refine sn_callSi (rest := []) C hw (ctX9_in l  h_4) kl_RX9_94 rfl rfl rfl (Nat.le_of_ble_eq_true rfl) dX9_advance_159 hl.1 (fun H locs hw => ?_)
  refine lv_if_eq (tgt := 206) hx hb dX9_advance_162 (by decide) (fun c_5 => ?_) (fun c_5 => ?_)
  · have hf := sn_if c_5 hf
    cases hf
    exact kx _ rfl _ _ _ hw (lv_sub hl [0] rfl)
  · have hf := sn_el c_5 hf
    refine lv_aload_n hx hb dX9_advance_165 rfl (lv_at hl 0 rfl) ?_
    refine lv_ldc hx hb C.2.2.2.1 (C.2.2.2.2.1 _ kk_RX9_130) dX9_advance_166 ?_
    refine lv_bipush (v := 10) hx hb dX9_advance_168 (by decide) ?_
    refine lv_aload_n hx hb dX9_advance_170 rfl (lv_at hl 0 rfl) ?_
    refine sn_getI C hw fd_RX9_127 layM_0 rfl dX9_advance_171 ?_
    refine lv_imul hx hb dX9_advance_174 ?_
    refine lv_aload_n hx hb dX9_advance_175 rfl (lv_at hl 0 rfl) ?_
    refine lv_aload_n hx hb dX9_advance_176 rfl (lv_at hl 0 rfl) ?_
    refine sn_getI C hw fd_RX9_106 layM_0 rfl dX9_advance_177 ?_
    obtain ⟨t_6, h_7, hf⟩ := sn_bd hf
    refine sn_callVi (rest := [.int ((10 : Int32) * (sn_I σ 0 11)), .int (99999 : Int32), .ref (ad 0)]) C hw (ctX9_see l  h_7) kl_RX9_109 layM_0 rfl rfl rfl rfl (Nat.le_of_ble_eq_true rfl) dX9_advance_180 hl.1 (fun H locs hw => ?_)
    refine lv_iadd hx hb dX9_advance_183 ?_
    refine lv_bipush (v := 48) hx hb dX9_advance_184 (by decide) ?_
    refine lv_isub hx hb dX9_advance_186 ?_
    refine va_mmin hx hb (C.2.2.1.trans hl.1.symm) C.2.2.2.1 (C.2.2.2.2.1 _ km_RX9_131) (C.2.2.2.2.1 _ kst_minI) (C.2.2.2.2.1 _ ki_Math) (C.2.2.2.2.1 _ kc_minI) (Nat.le_of_ble_eq_true rfl) (Nat.le_of_ble_eq_true rfl) (Nat.zero_le _) (Nat.zero_le _) dX9_advance_187 ?_
    obtain ⟨y_8, e_9, hf⟩ := sn_ltE hf
    refine lv_topi (fun y_8_ e_9_ => ?_)
    obtain rfl : y_8 = y_8_ := e_9.trans e_9_.symm
    refine sn_putI C hw fp_RX9_127 layM_0 rfl dX9_advance_190 (fun H locs hw => ?_)
    obtain ⟨σ_10, e_11, hf⟩ := sn_ltE hf
    rw [← e_11] at hw
    refine lv_aload_n hx hb dX9_advance_193 rfl (lv_at hl 0 rfl) ?_
    refine lv_dup hx hb dX9_advance_194 rfl ?_
    refine sn_getI C hw fd_RX9_106 layM_0 rfl dX9_advance_195 ?_
    refine lv_iconst (v := 1) hx hb dX9_advance_198 rfl ?_
    refine lv_iadd hx hb dX9_advance_199 ?_
    refine sn_putI C hw fp_RX9_106 layM_0 rfl dX9_advance_200 (fun H locs hw => ?_)
    obtain ⟨σ_12, e_13, hf⟩ := sn_ltE hf
    rw [← e_13] at hw
    refine lv_goto (tgt := 144) hx hb dX9_advance_203 (by decide) ?_
    cases hf
    exact kc _ rfl _ _ _ hw (lv_sub hl [0] rfl)
theorem wX9_advance_L144 (C : sn_C p s m args meth c RX9 cX9_advance 2 none D ct ad layM)    {z : sn_S} {t : sn_S} (h : sn_it (LX9_advance_144 ) 5000 z = some t) (kx : ∀ v, t = v → sn_At p l e rmX9_advance s m args below meth c Q D ct ad layM 2 v 206 [(0, .ref (ad 0))] []) : sn_At p l e rmX9_advance s m args below meth c Q D ct ad layM 2 z 144 [(0, .ref (ad 0))] [] :=
  sn_loop (f := LX9_advance_144 ) (G := fun z => sn_At p l e rmX9_advance s m args below meth c Q D ct ad layM 2 z 144 [(0, .ref (ad 0))] []) (E := fun t => (∀ v, t = v → sn_At p l e rmX9_advance s m args below meth c Q D ct ad layM 2 v 206 [(0, .ref (ad 0))] []) ∧ True) (fun z o hf k1 k2 => wX9_advance_144 C  hf (fun v e => k1 v e) (fun v e => (k2 _ e).1 v rfl)) 5000 z t h ⟨kx, trivial⟩
theorem wX9_advance_117 (C : sn_C p s m args meth c RX9 cX9_advance 2 none D ct ad layM) {σ : sn_S}  {o : sn_S} (hf : BX9_advance_117 σ = some o) (kr : sn_Kr p l e rmX9_advance s m args below meth c Q D ct ad layM cX9_advance .return_ (true) o []) : sn_At p l e rmX9_advance s m args below meth c Q D ct ad layM 2 σ 117 [(0, .ref (ad 0))] [] := by
  intro H locs ls hw hl
  have hx := C.1
  have hb := C.2.1
  unfold BX9_advance_117 at hf
  refine lv_aload_n hx hb dX9_advance_117 rfl (lv_at hl 0 rfl) ?_
  refine lv_iconst (v := 1) hx hb dX9_advance_118 rfl ?_
  refine sn_putI C hw fp_RX9_116 layM_0 rfl dX9_advance_119 (fun H locs hw => ?_)
  obtain ⟨σ_1, e_2, hf⟩ := sn_ltE hf
  rw [← e_2] at hw
  refine lv_goto (tgt := 239) hx hb dX9_advance_122 (by decide) ?_
  cases hf
  exact kr _ _ _ _ hw rfl dX9_advance_239
theorem wX9_advance_83 (C : sn_C p s m args meth c RX9 cX9_advance 2 none D ct ad layM) {σ : sn_S}  {o : (sn_S) ⊕ (sn_S)} (hf : BX9_advance_83 σ = some o) (kc : ∀ v, o = .inl v → sn_At p l e rmX9_advance s m args below meth c Q D ct ad layM 2 v 83 [(0, .ref (ad 0))] []) (kx : ∀ v, o = .inr v → sn_At p l e rmX9_advance s m args below meth c Q D ct ad layM 2 v 117 [(0, .ref (ad 0))] []) : sn_At p l e rmX9_advance s m args below meth c Q D ct ad layM 2 σ 83 [(0, .ref (ad 0))] [] := by
  intro H locs ls hw hl
  have hx := C.1
  have hb := C.2.1
  unfold BX9_advance_83 at hf
  refine lv_aload_n hx hb dX9_advance_83 rfl (lv_at hl 0 rfl) ?_
  refine lv_aload_n hx hb dX9_advance_84 rfl (lv_at hl 0 rfl) ?_
  refine sn_getI C hw fd_RX9_106 layM_0 rfl dX9_advance_85 ?_
  obtain ⟨t_1, h_2, hf⟩ := sn_bd hf
  refine sn_callVi (rest := []) C hw (ctX9_see l  h_2) kl_RX9_109 layM_0 rfl rfl rfl rfl (Nat.le_of_ble_eq_true rfl) dX9_advance_88 hl.1 (fun H locs hw => ?_)
  refine lv_i2l hx hb dX9_advance_91 rfl ?_
  refine lv_ldc2 hx hb C.2.2.2.1 (C.2.2.2.2.1 _ kk_RX9_119) dX9_advance_92 ?_
  refine lv_ldc2 hx hb C.2.2.2.1 (C.2.2.2.2.1 _ kk_RX9_121) dX9_advance_95 ?_
  obtain ⟨t_3, h_4, hf⟩ := sn_bd hf
  refine sn_callSi (rest := []) C hw (ctX9_in l  h_4) kl_RX9_94 rfl rfl rfl (Nat.le_of_ble_eq_true rfl) dX9_advance_98 hl.1 (fun H locs hw => ?_)
  refine lv_if_eq (tgt := 117) hx hb dX9_advance_101 (by decide) (fun c_5 => ?_) (fun c_5 => ?_)
  · have hf := sn_if c_5 hf
    cases hf
    exact kx _ rfl _ _ _ hw (lv_sub hl [0] rfl)
  · have hf := sn_el c_5 hf
    refine lv_aload_n hx hb dX9_advance_104 rfl (lv_at hl 0 rfl) ?_
    refine lv_dup hx hb dX9_advance_105 rfl ?_
    refine sn_getI C hw fd_RX9_106 layM_0 rfl dX9_advance_106 ?_
    refine lv_iconst (v := 1) hx hb dX9_advance_109 rfl ?_
    refine lv_iadd hx hb dX9_advance_110 ?_
    refine sn_putI C hw fp_RX9_106 layM_0 rfl dX9_advance_111 (fun H locs hw => ?_)
    obtain ⟨σ_6, e_7, hf⟩ := sn_ltE hf
    rw [← e_7] at hw
    refine lv_goto (tgt := 83) hx hb dX9_advance_114 (by decide) ?_
    cases hf
    exact kc _ rfl _ _ _ hw (lv_sub hl [0] rfl)
theorem wX9_advance_L83 (C : sn_C p s m args meth c RX9 cX9_advance 2 none D ct ad layM)    {z : sn_S} {t : sn_S} (h : sn_it (LX9_advance_83 ) 5000 z = some t) (kx : ∀ v, t = v → sn_At p l e rmX9_advance s m args below meth c Q D ct ad layM 2 v 117 [(0, .ref (ad 0))] []) : sn_At p l e rmX9_advance s m args below meth c Q D ct ad layM 2 z 83 [(0, .ref (ad 0))] [] :=
  sn_loop (f := LX9_advance_83 ) (G := fun z => sn_At p l e rmX9_advance s m args below meth c Q D ct ad layM 2 z 83 [(0, .ref (ad 0))] []) (E := fun t => (∀ v, t = v → sn_At p l e rmX9_advance s m args below meth c Q D ct ad layM 2 v 117 [(0, .ref (ad 0))] []) ∧ True) (fun z o hf k1 k2 => wX9_advance_83 C  hf (fun v e => k1 v e) (fun v e => (k2 _ e).1 v rfl)) 5000 z t h ⟨kx, trivial⟩
theorem wX9_advance_39 (C : sn_C p s m args meth c RX9 cX9_advance 2 none D ct ad layM) {σ : sn_S}  {o : sn_S} (hf : BX9_advance_39 σ = some o) (kr : sn_Kr p l e rmX9_advance s m args below meth c Q D ct ad layM cX9_advance .return_ (true) o []) : sn_At p l e rmX9_advance s m args below meth c Q D ct ad layM 2 σ 39 [(0, .ref (ad 0))] [] := by
  intro H locs ls hw hl
  have hx := C.1
  have hb := C.2.1
  unfold BX9_advance_39 at hf
  refine lv_aload_n hx hb dX9_advance_39 rfl (lv_at hl 0 rfl) ?_
  refine lv_aload_n hx hb dX9_advance_40 rfl (lv_at hl 0 rfl) ?_
  refine sn_getI C hw fd_RX9_106 layM_0 rfl dX9_advance_41 ?_
  refine sn_putI C hw fp_RX9_113 layM_0 rfl dX9_advance_44 (fun H locs hw => ?_)
  obtain ⟨σ_1, e_2, hf⟩ := sn_ltE hf
  rw [← e_2] at hw
  refine lv_aload_n hx hb dX9_advance_47 rfl (lv_at hl 0 rfl) ?_
  refine lv_aload_n hx hb dX9_advance_48 rfl (lv_at hl 0 rfl) ?_
  refine sn_getI C hw fd_RX9_106 layM_0 rfl dX9_advance_49 ?_
  obtain ⟨t_3, h_4, hf⟩ := sn_bd hf
  refine sn_callVi (rest := []) C hw (ctX9_see l  h_4) kl_RX9_109 layM_0 rfl rfl rfl rfl (Nat.le_of_ble_eq_true rfl) dX9_advance_52 hl.1 (fun H locs hw => ?_)
  refine lv_istore_n (lv' := [(1, .int t_3), (0, .ref (ad 0))]) hx hb dX9_advance_55 rfl hl (by decide) rfl (fun ls hl => ?_)
  refine lv_iload_n hx hb dX9_advance_56 rfl (lv_at hl 0 rfl) ?_
  refine lv_iconst (v := (-1)) hx hb dX9_advance_57 rfl ?_
  refine lv_icmp_ne (tgt := 69) hx hb dX9_advance_58 (by decide) (fun c_5 => ?_) (fun c_5 => ?_)
  · have hf := sn_el c_5 hf
    refine lv_iload_n hx hb dX9_advance_69 rfl (lv_at hl 0 rfl) ?_
    refine lv_i2l hx hb dX9_advance_70 rfl ?_
    refine lv_ldc2 hx hb C.2.2.2.1 (C.2.2.2.2.1 _ kk_RX9_119) dX9_advance_71 ?_
    refine lv_ldc2 hx hb C.2.2.2.1 (C.2.2.2.2.1 _ kk_RX9_121) dX9_advance_74 ?_
    obtain ⟨t_6, h_7, hf⟩ := sn_bd hf
    refine sn_callSi (rest := []) C hw (ctX9_in l  h_7) kl_RX9_94 rfl rfl rfl (Nat.le_of_ble_eq_true rfl) dX9_advance_77 hl.1 (fun H locs hw => ?_)
    refine lv_if_eq (tgt := 125) hx hb dX9_advance_80 (by decide) (fun c_8 => ?_) (fun c_8 => ?_)
    · have hf := sn_if c_8 hf
      refine lv_iload_n hx hb dX9_advance_125 rfl (lv_at hl 0 rfl) ?_
      refine lv_i2l hx hb dX9_advance_126 rfl ?_
      refine lv_ldc2 hx hb C.2.2.2.1 (C.2.2.2.2.1 _ kk_RX9_123) dX9_advance_127 ?_
      refine lv_ldc2 hx hb C.2.2.2.1 (C.2.2.2.2.1 _ kk_RX9_125) dX9_advance_130 ?_
      obtain ⟨t_9, h_10, hf⟩ := sn_bd hf
      refine sn_callSi (rest := []) C hw (ctX9_in l  h_10) kl_RX9_94 rfl rfl rfl (Nat.le_of_ble_eq_true rfl) dX9_advance_133 hl.1 (fun H locs hw => ?_)
      refine lv_if_eq (tgt := 214) hx hb dX9_advance_136 (by decide) (fun c_11 => ?_) (fun c_11 => ?_)
      · have hf := sn_if c_11 hf
        refine lv_aload_n hx hb dX9_advance_214 rfl (lv_at hl 1 rfl) ?_
        refine lv_iload_n hx hb dX9_advance_215 rfl (lv_at hl 0 rfl) ?_
        refine lv_bipush (v := 59) hx hb dX9_advance_216 (by decide) ?_
        refine lv_icmp_ne (tgt := 225) hx hb dX9_advance_218 (by decide) (fun c_12 => ?_) (fun c_12 => ?_)
        · have hf := sn_el c_12 hf
          refine lv_iconst (v := 4) hx hb dX9_advance_225 rfl ?_
          exact wX9_advance_226 C  hf kr _ _ _ hw (lv_sub hl [1] rfl)
        · have hf := sn_if c_12 hf
          refine lv_iconst (v := 3) hx hb dX9_advance_221 rfl ?_
          refine lv_goto (tgt := 226) hx hb dX9_advance_222 (by decide) ?_
          exact wX9_advance_226 C  hf kr _ _ _ hw (lv_sub hl [1] rfl)
      · have hf := sn_el c_11 hf
        refine lv_aload_n hx hb dX9_advance_139 rfl (lv_at hl 1 rfl) ?_
        refine lv_iconst (v := 0) hx hb dX9_advance_140 rfl ?_
        refine sn_putI C hw fp_RX9_127 layM_0 rfl dX9_advance_141 (fun H locs hw => ?_)
        obtain ⟨σ_13, e_14, hf⟩ := sn_ltE hf
        rw [← e_14] at hw
        obtain ⟨t_15, h_16, hf⟩ := sn_bd hf
        exact wX9_advance_L144 C  h_16 (fun v e => by cases e; exact wX9_advance_206 C  hf kr) _ _ _ hw (lv_sub hl [1] rfl)
    · have hf := sn_el c_8 hf
      obtain ⟨t_17, h_18, hf⟩ := sn_bd hf
      exact wX9_advance_L83 C  h_18 (fun v e => by cases e; exact wX9_advance_117 C  hf kr) _ _ _ hw (lv_sub hl [1] rfl)
  · have hf := sn_if c_5 hf
    refine lv_aload_n hx hb dX9_advance_61 rfl (lv_at hl 1 rfl) ?_
    refine lv_iconst (v := 0) hx hb dX9_advance_62 rfl ?_
    refine sn_putI C hw fp_RX9_116 layM_0 rfl dX9_advance_63 (fun H locs hw => ?_)
    obtain ⟨σ_19, e_20, hf⟩ := sn_ltE hf
    rw [← e_20] at hw
    refine lv_goto (tgt := 239) hx hb dX9_advance_66 (by decide) ?_
    cases hf
    exact kr _ _ _ _ hw rfl dX9_advance_239
theorem wX9_advance_26 (C : sn_C p s m args meth c RX9 cX9_advance 2 none D ct ad layM) {σ : sn_S}  {o : (sn_S) ⊕ (sn_S)} (hf : BX9_advance_26 σ = some o) (kc : ∀ v, o = .inl v → sn_At p l e rmX9_advance s m args below meth c Q D ct ad layM 2 v 0 [(0, .ref (ad 0))] []) (kx : ∀ v, o = .inr v → sn_At p l e rmX9_advance s m args below meth c Q D ct ad layM 2 v 39 [(0, .ref (ad 0))] []) : sn_At p l e rmX9_advance s m args below meth c Q D ct ad layM 2 σ 26 [(0, .ref (ad 0))] [] := by
  intro H locs ls hw hl
  have hx := C.1
  have hb := C.2.1
  unfold BX9_advance_26 at hf
  refine lv_aload_n hx hb dX9_advance_26 rfl (lv_at hl 0 rfl) ?_
  refine lv_dup hx hb dX9_advance_27 rfl ?_
  refine sn_getI C hw fd_RX9_106 layM_0 rfl dX9_advance_28 ?_
  refine lv_iconst (v := 1) hx hb dX9_advance_31 rfl ?_
  refine lv_iadd hx hb dX9_advance_32 ?_
  refine sn_putI C hw fp_RX9_106 layM_0 rfl dX9_advance_33 (fun H locs hw => ?_)
  obtain ⟨σ_1, e_2, hf⟩ := sn_ltE hf
  rw [← e_2] at hw
  refine lv_goto (tgt := 0) hx hb dX9_advance_36 (by decide) ?_
  cases hf
  exact kc _ rfl _ _ _ hw (lv_sub hl [0] rfl)
theorem wX9_advance_0 (C : sn_C p s m args meth c RX9 cX9_advance 2 none D ct ad layM) {σ : sn_S}  {o : (sn_S) ⊕ (sn_S)} (hf : BX9_advance_0 σ = some o) (kc : ∀ v, o = .inl v → sn_At p l e rmX9_advance s m args below meth c Q D ct ad layM 2 v 0 [(0, .ref (ad 0))] []) (kx : ∀ v, o = .inr v → sn_At p l e rmX9_advance s m args below meth c Q D ct ad layM 2 v 39 [(0, .ref (ad 0))] []) : sn_At p l e rmX9_advance s m args below meth c Q D ct ad layM 2 σ 0 [(0, .ref (ad 0))] [] := by
  intro H locs ls hw hl
  have hx := C.1
  have hb := C.2.1
  unfold BX9_advance_0 at hf
  refine lv_aload_n hx hb dX9_advance_0 rfl (lv_at hl 0 rfl) ?_
  refine lv_aload_n hx hb dX9_advance_1 rfl (lv_at hl 0 rfl) ?_
  refine sn_getI C hw fd_RX9_106 layM_0 rfl dX9_advance_2 ?_
  obtain ⟨t_1, h_2, hf⟩ := sn_bd hf
  refine sn_callVi (rest := []) C hw (ctX9_see l  h_2) kl_RX9_109 layM_0 rfl rfl rfl rfl (Nat.le_of_ble_eq_true rfl) dX9_advance_5 hl.1 (fun H locs hw => ?_)
  refine lv_bipush (v := 32) hx hb dX9_advance_8 (by decide) ?_
  refine lv_icmp_eq (tgt := 26) hx hb dX9_advance_10 (by decide) (fun c_3 => ?_) (fun c_3 => ?_)
  · have hf := sn_if c_3 hf
    exact wX9_advance_26 C  hf kc kx _ _ _ hw (lv_sub hl [0] rfl)
  · have hf := sn_el c_3 hf
    refine lv_aload_n hx hb dX9_advance_13 rfl (lv_at hl 0 rfl) ?_
    refine lv_aload_n hx hb dX9_advance_14 rfl (lv_at hl 0 rfl) ?_
    refine sn_getI C hw fd_RX9_106 layM_0 rfl dX9_advance_15 ?_
    obtain ⟨t_4, h_5, hf⟩ := sn_bd hf
    refine sn_callVi (rest := []) C hw (ctX9_see l  h_5) kl_RX9_109 layM_0 rfl rfl rfl rfl (Nat.le_of_ble_eq_true rfl) dX9_advance_18 hl.1 (fun H locs hw => ?_)
    refine lv_bipush (v := 10) hx hb dX9_advance_21 (by decide) ?_
    refine lv_icmp_ne (tgt := 39) hx hb dX9_advance_23 (by decide) (fun c_6 => ?_) (fun c_6 => ?_)
    · have hf := sn_el c_6 hf
      cases hf
      exact kx _ rfl _ _ _ hw (lv_sub hl [0] rfl)
    · have hf := sn_if c_6 hf
      exact wX9_advance_26 C  hf kc kx _ _ _ hw (lv_sub hl [0] rfl)
theorem wX9_advance_L0 (C : sn_C p s m args meth c RX9 cX9_advance 2 none D ct ad layM)    {z : sn_S} {t : sn_S} (h : sn_it (LX9_advance_0 ) 5000 z = some t) (kx : ∀ v, t = v → sn_At p l e rmX9_advance s m args below meth c Q D ct ad layM 2 v 39 [(0, .ref (ad 0))] []) : sn_At p l e rmX9_advance s m args below meth c Q D ct ad layM 2 z 0 [(0, .ref (ad 0))] [] :=
  sn_loop (f := LX9_advance_0 ) (G := fun z => sn_At p l e rmX9_advance s m args below meth c Q D ct ad layM 2 z 0 [(0, .ref (ad 0))] []) (E := fun t => (∀ v, t = v → sn_At p l e rmX9_advance s m args below meth c Q D ct ad layM 2 v 39 [(0, .ref (ad 0))] []) ∧ True) (fun z o hf k1 k2 => wX9_advance_0 C  hf (fun v e => k1 v e) (fun v e => (k2 _ e).1 v rfl)) 5000 z t h ⟨kx, trivial⟩
theorem wX9_advance_in (C : sn_C p s m args meth c RX9 cX9_advance 2 none D ct ad layM) {σ : sn_S}  {o : sn_S} (hf : fX9_advance σ = some o) (kr : sn_Kr p l e rmX9_advance s m args below meth c Q D ct ad layM cX9_advance .return_ (true) o []) : sn_At p l e rmX9_advance s m args below meth c Q D ct ad layM 2 σ 0 [(0, .ref (ad 0))] [] := by
  intro H locs ls hw hl
  have hx := C.1
  have hb := C.2.1
  unfold fX9_advance at hf
  obtain ⟨t_1, h_2, hf⟩ := sn_bd hf
  exact wX9_advance_L0 C  h_2 (fun v e => by cases e; exact wX9_advance_39 C  hf kr) _ _ _ hw (lv_sub hl [0] rfl)
theorem ctX9_advance (l : Launch) {σ : sn_S}  {o : sn_S} (hf : fX9_advance σ = some o) : sn_M l yX9_advance cX9_advance 2 none rmX9_advance layM (fun ad => [.ref (ad 0)]) σ none o :=
  sn_met (by decide) (fun _ => Nat.le_of_ble_eq_true rfl) (fun p e s m args below meth c ls D ct ad C hw hl => wX9_advance_in C  hf (fun H locs ls pc hw ok hd => sn_vret C hw hd) _ _ _ hw hl)
end
