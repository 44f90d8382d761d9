section
section
variable {p : Program} {l : Launch} {e : Env} {s : State} {m : MethodId} {args : Array Value} {below : List Frame} {meth : Method} {c : Code} {Q : State → Prop} {D : va_G} {ct : Nat → ClassId} {ad : Nat → Nat} {A : Nat → Prop} {lay : List sn_E}
-- X9_in
abbrev rmX9_in : Room := { frames := 0, cells := 0, slots := 0, locals := 0 }
def fX9_in (x0 : Int64) (x2 : Int64) (x4 : Int64) : Option Int32 :=
  (if (lg_cmp x0 x2) < 0 then
  (sn_gd (sn_b01 (0 : Int32)) (some (0 : Int32)))
  else
  (if 0 < (lg_cmp x0 x4) then
  (sn_gd (sn_b01 (0 : Int32)) (some (0 : Int32)))
  else
  (sn_gd (sn_b01 (1 : Int32)) (some (1 : Int32)))))
theorem wX9_in_in (C : sn_C p s m args meth c RX9 cX9_in 6 (some .boolean) D ct ad layM A) {σ : sn_S} {x0 : Int64} {x2 : Int64} {x4 : Int64}  {o : Int32} (hf : fX9_in x0 x2 x4 = some o) (kr : sn_Kr p l e rmX9_in s m args below meth c Q D ct ad layM A cX9_in .ireturn (sn_b01 o) σ [.int o]) : sn_At p l e rmX9_in s m args below meth c Q D ct ad layM A 6 σ 0 [(0, .long x0), (2, .long x2), (4, .long x4)] [] := by
  intro H locs ls hw hl
  have hx := C.1
  have hb := C.2.1
  unfold fX9_in at hf
  refine lv_lload_n hx hb dX9_in_0 rfl (lv_at hl 0 rfl) ?_
  refine lv_lload_n hx hb dX9_in_1 rfl (lv_at hl 1 rfl) ?_
  refine W.lcmp hx hb dX9_in_2 ?_
  refine lv_if_lt (tgt := 17) hx hb dX9_in_3 (by decide) (fun c_1 => ?_) (fun c_1 => ?_)
  · have hf := sn_if c_1 hf
    refine lv_iconst (v := 0) hx hb dX9_in_17 rfl ?_
    obtain ⟨g_2, hf⟩ := sn_gdE hf
    cases hf
    exact kr _ _ _ _ hw g_2 dX9_in_18
  · have hf := sn_el c_1 hf
    refine lv_lload_n hx hb dX9_in_6 rfl (lv_at hl 0 rfl) ?_
    refine lv_lload hx hb dX9_in_7 (lv_at hl 2 rfl) ?_
    refine W.lcmp hx hb dX9_in_9 ?_
    refine lv_if_gt (tgt := 17) hx hb dX9_in_10 (by decide) (fun c_3 => ?_) (fun c_3 => ?_)
    · have hf := sn_if c_3 hf
      refine lv_iconst (v := 0) hx hb dX9_in_17 rfl ?_
      obtain ⟨g_4, hf⟩ := sn_gdE hf
      cases hf
      exact kr _ _ _ _ hw g_4 dX9_in_18
    · have hf := sn_el c_3 hf
      refine lv_iconst (v := 1) hx hb dX9_in_13 rfl ?_
      refine lv_goto (tgt := 18) hx hb dX9_in_14 (by decide) ?_
      obtain ⟨g_5, hf⟩ := sn_gdE hf
      cases hf
      exact kr _ _ _ _ hw g_5 dX9_in_18
theorem ctX9_in (l : Launch) {σ : sn_S} {x0 : Int64} {x2 : Int64} {x4 : Int64}  {o : Int32} (hf : fX9_in x0 x2 x4 = some o) : sn_M l yX9_in cX9_in 6 (some .boolean) rmX9_in layM (fun ad => [.long x0, .long x2, .long x4]) σ (some (fun _ => .int o)) σ :=
  sn_met (by decide) (fun _ => Nat.le_of_ble_eq_true rfl) (fun p e s m args below meth c ls D ct ad A C hw hl => wX9_in_in C  hf (fun H locs ls pc hw ok hd => sn_zret C hw ok hd) _ _ _ hw hl)
-- X9_bits
abbrev rmX9_bits : Room := { frames := 0, cells := 0, slots := 0, locals := 0 }
def BX9_bits_24 (x1 : Int32) : Option (Int32) :=
  (some x1)
def BX9_bits_4 (x0 : Int32) (x1 : Int32) (x2 : Int32) : Option ((Int32 × Int32) ⊕ (Int32)) :=
  (if (30 : Int32) ≤ x2 then
  (some (.inr (x1)))
  else
  (sn_lt (x1 + ((x0 >>> (x2 &&& 31)) &&& (1 : Int32))) fun y_2 => (sn_lt (x2 + 1) fun y_4 => (some (.inl (y_2, y_4))))))
def LX9_bits_4 (x0 : Int32) (s : Int32 × Int32) : Option ((Int32 × Int32) ⊕ (Int32)) := BX9_bits_4 x0 s.1 s.2
def fX9_bits (x0 : Int32) : Option Int32 :=
  ((sn_it (LX9_bits_4 x0) 5000 ((0 : Int32), (0 : Int32))).bind fun t_1 => (BX9_bits_24 t_1))
theorem wX9_bits_24 (C : sn_C p s m args meth c RX9 cX9_bits 3 (some .int) D ct ad layM A) {σ : sn_S} {x1 : Int32}  {o : Int32} (hf : BX9_bits_24 x1 = some o) (kr : sn_Kr p l e rmX9_bits s m args below meth c Q D ct ad layM A cX9_bits .ireturn (true) σ [.int o]) : sn_At p l e rmX9_bits s m args below meth c Q D ct ad layM A 3 σ 24 [(1, .int x1)] [] := by
  intro H locs ls hw hl
  have hx := C.1
  have hb := C.2.1
  unfold BX9_bits_24 at hf
  refine lv_iload_n hx hb dX9_bits_24 rfl (lv_at hl 0 rfl) ?_
  cases hf
  exact kr _ _ _ _ hw rfl dX9_bits_25
theorem wX9_bits_4 (C : sn_C p s m args meth c RX9 cX9_bits 3 (some .int) D ct ad layM A) {σ : sn_S} {x0 : Int32} {x1 : Int32} {x2 : Int32}  {o : (Int32 × Int32) ⊕ (Int32)} (hf : BX9_bits_4 x0 x1 x2 = some o) (kc : ∀ v, o = .inl v → sn_At p l e rmX9_bits s m args below meth c Q D ct ad layM A 3 σ 4 [(0, .int x0), (1, .int v.1), (2, .int v.2)] []) (kx : ∀ v, o = .inr v → sn_At p l e rmX9_bits s m args below meth c Q D ct ad layM A 3 σ 24 [(1, .int v)] []) : sn_At p l e rmX9_bits s m args below meth c Q D ct ad layM A 3 σ 4 [(0, .int x0), (1, .int x1), (2, .int x2)] [] := by
  intro H locs ls hw hl
  have hx := C.1
  have hb := C.2.1
  unfold BX9_bits_4 at hf
  refine lv_iload_n hx hb dX9_bits_4 rfl (lv_at hl 2 rfl) ?_
  refine lv_bipush (v := 30) hx hb dX9_bits_5 (by decide) ?_
  refine lv_icmp_ge (tgt := 24) hx hb dX9_bits_7 (by decide) (fun c_1 => ?_) (fun c_1 => ?_)
  · have hf := sn_if c_1 hf
    cases hf
    exact kx _ rfl _ _ _ hw (lv_sub hl [1] rfl)
  · have hf := sn_el c_1 hf
    refine lv_iload_n hx hb dX9_bits_10 rfl (lv_at hl 1 rfl) ?_
    refine lv_iload_n hx hb dX9_bits_11 rfl (lv_at hl 0 rfl) ?_
    refine lv_iload_n hx hb dX9_bits_12 rfl (lv_at hl 2 rfl) ?_
    refine lv_ishr hx hb dX9_bits_13 ?_
    refine lv_iconst (v := 1) hx hb dX9_bits_14 rfl ?_
    refine lv_iand hx hb dX9_bits_15 ?_
    refine lv_iadd hx hb dX9_bits_16 ?_
    obtain ⟨y_2, e_3, hf⟩ := sn_ltE hf
    refine lv_topi (fun y_2_ e_3_ => ?_)
    obtain rfl : y_2 = y_2_ := e_3.trans e_3_.symm
    refine lv_istore_n (lv' := [(1, .int y_2), (0, .int x0), (2, .int x2)]) hx hb dX9_bits_17 rfl hl (by decide) rfl (fun ls hl => ?_)
    obtain ⟨y_4, e_5, hf⟩ := sn_ltE hf
    refine lv_iinc (v := y_4) (lv' := [(2, .int y_4), (1, .int y_2), (0, .int x0)]) hx hb dX9_bits_18 hl (k := 2) rfl (by rw [e_5]; rfl) (by decide) rfl (fun ls hl => ?_)
    refine lv_goto (tgt := 4) hx hb dX9_bits_21 (by decide) ?_
    cases hf
    exact kc _ rfl _ _ _ hw (lv_sub hl [2, 1, 0] rfl)
theorem wX9_bits_L4 (C : sn_C p s m args meth c RX9 cX9_bits 3 (some .int) D ct ad layM A) {σ : sn_S} {x0 : Int32}   {z : Int32 × Int32} {t : Int32} (h : sn_it (LX9_bits_4 x0) 5000 z = some t) (kx : ∀ v, t = v → sn_At p l e rmX9_bits s m args below meth c Q D ct ad layM A 3 σ 24 [(1, .int v)] []) : sn_At p l e rmX9_bits s m args below meth c Q D ct ad layM A 3 σ 4 [(0, .int x0), (1, .int z.1), (2, .int z.2)] [] :=
  sn_loop (f := LX9_bits_4 x0) (G := fun z => sn_At p l e rmX9_bits s m args below meth c Q D ct ad layM A 3 σ 4 [(0, .int x0), (1, .int z.1), (2, .int z.2)] []) (E := fun t => (∀ v, t = v → sn_At p l e rmX9_bits s m args below meth c Q D ct ad layM A 3 σ 24 [(1, .int v)] []) ∧ True) (fun z o hf k1 k2 => wX9_bits_4 C  hf (fun v e => k1 v e) (fun v e => (k2 _ e).1 v rfl)) 5000 z t h ⟨kx, trivial⟩
theorem wX9_bits_in (C : sn_C p s m args meth c RX9 cX9_bits 3 (some .int) D ct ad layM A) {σ : sn_S} {x0 : Int32}  {o : Int32} (hf : fX9_bits x0 = some o) (kr : sn_Kr p l e rmX9_bits s m args below meth c Q D ct ad layM A cX9_bits .ireturn (true) σ [.int o]) : sn_At p l e rmX9_bits s m args below meth c Q D ct ad layM A 3 σ 0 [(0, .int x0)] [] := by
  intro H locs ls hw hl
  have hx := C.1
  have hb := C.2.1
  unfold fX9_bits at hf
  refine lv_iconst (v := 0) hx hb dX9_bits_0 rfl ?_
  refine lv_istore_n (lv' := [(1, .int (0 : Int32)), (0, .int x0)]) hx hb dX9_bits_1 rfl hl (by decide) rfl (fun ls hl => ?_)
  refine lv_iconst (v := 0) hx hb dX9_bits_2 rfl ?_
  refine lv_istore_n (lv' := [(2, .int (0 : Int32)), (1, .int (0 : Int32)), (0, .int x0)]) hx hb dX9_bits_3 rfl hl (by decide) rfl (fun ls hl => ?_)
  obtain ⟨t_1, h_2, hf⟩ := sn_bd hf
  exact wX9_bits_L4 C  h_2 (fun v e => by cases e; exact wX9_bits_24 C  hf kr) _ _ _ hw (lv_sub hl [2, 1, 0] rfl)
theorem ctX9_bits (l : Launch) {σ : sn_S} {x0 : Int32}  {o : Int32} (hf : fX9_bits x0 = some o) : sn_M l yX9_bits cX9_bits 3 (some .int) rmX9_bits layM (fun ad => [.int x0]) σ (some (fun _ => .int o)) σ :=
  sn_met (by decide) (fun _ => Nat.le_of_ble_eq_true rfl) (fun p e s m args below meth c ls D ct ad A C hw hl => wX9_bits_in C  hf (fun H locs ls pc hw ok hd => sn_iret C hw hd) _ _ _ hw hl)
-- X9_bit
abbrev rmX9_bit : Room := { frames := 0, cells := 0, slots := 0, locals := 0 }
def fX9_bit (x0 : Int32) (x1 : Int32) : Option Int32 :=
  (some ((x0 >>> (x1 &&& 31)) &&& (1 : Int32)))
theorem wX9_bit_in (C : sn_C p s m args meth c RX9 cX9_bit 2 (some .int) D ct ad layM A) {σ : sn_S} {x0 : Int32} {x1 : Int32}  {o : Int32} (hf : fX9_bit x0 x1 = some o) (kr : sn_Kr p l e rmX9_bit s m args below meth c Q D ct ad layM A cX9_bit .ireturn (true) σ [.int o]) : sn_At p l e rmX9_bit s m args below meth c Q D ct ad layM A 2 σ 0 [(0, .int x0), (1, .int x1)] [] := by
  intro H locs ls hw hl
  have hx := C.1
  have hb := C.2.1
  unfold fX9_bit at hf
  refine lv_iload_n hx hb dX9_bit_0 rfl (lv_at hl 0 rfl) ?_
  refine lv_iload_n hx hb dX9_bit_1 rfl (lv_at hl 1 rfl) ?_
  refine lv_ishr hx hb dX9_bit_2 ?_
  refine lv_iconst (v := 1) hx hb dX9_bit_3 rfl ?_
  refine lv_iand hx hb dX9_bit_4 ?_
  cases hf
  exact kr _ _ _ _ hw rfl dX9_bit_5
theorem ctX9_bit (l : Launch) {σ : sn_S} {x0 : Int32} {x1 : Int32}  {o : Int32} (hf : fX9_bit x0 x1 = some o) : sn_M l yX9_bit cX9_bit 2 (some .int) rmX9_bit layM (fun ad => [.int x0, .int x1]) σ (some (fun _ => .int o)) σ :=
  sn_met (by decide) (fun _ => Nat.le_of_ble_eq_true rfl) (fun p e s m args below meth c ls D ct ad A C hw hl => wX9_bit_in C  hf (fun H locs ls pc hw ok hd => sn_iret C hw hd) _ _ _ hw hl)
-- X9_image
abbrev rmX9_image : Room := { frames := 1, cells := 0, slots := 0, locals := 25 }
def BX9_image_46 (σ : sn_S) (x1 : Int32) : Option ((Int32 × sn_S)) :=
  (sn_gd (sn_in x1 3) (sn_lt (sn_pI σ 3 x1.toNatClampNeg (vp_nar .boolean (1 : Int32))) fun σ_2 => (some ((0 : Int32), σ_2))))
def BX9_image_17 (σ : sn_S) (x1 : Int32) (x2 : Int32) : Option ((sn_S × Int32) ⊕ (sn_S)) :=
  (if (119 : Int32) ≤ x2 then
  (some (.inr (σ)))
  else
  (sn_gd (sn_in x2 119) (sn_gd (sn_in (((119 : Int32) * x1) + x2) 357) (sn_lt (sn_pI σ 2 (((119 : Int32) * x1) + x2).toNatClampNeg (sn_I σ 1 x2.toNatClampNeg)) fun σ_4 => (sn_lt (x2 + 1) fun y_6 => (some (.inl (σ_4, y_6))))))))
def LX9_image_17 (x1 : Int32) (s : sn_S × Int32) : Option ((sn_S × Int32) ⊕ (sn_S)) := BX9_image_17 s.1 x1 s.2
def fX9_image (σ : sn_S) (x1 : Int32) : Option (Int32 × sn_S) :=
  ((fX9_in x1.toInt64 (0 : Int64) (2 : Int64)).bind fun t_1 => (if t_1 = 0 then
  (some ((-2 : Int32), σ))
  else
  ((sn_it (LX9_image_17 x1) 5000 (σ, (0 : Int32))).bind fun t_4 => (BX9_image_46 t_4 x1))))
theorem wX9_image_46 (C : sn_C p s m args meth c RX9 cX9_image 3 (some .int) D ct ad layM A) {σ : sn_S} {x1 : Int32}  {o : (Int32 × sn_S)} (hf : BX9_image_46 σ x1 = some o) (kr : sn_Kr p l e rmX9_image s m args below meth c Q D ct ad layM A cX9_image .ireturn (true) o.2 [.int o.1]) : sn_At p l e rmX9_image s m args below meth c Q D ct ad layM A 3 σ 46 [(0, .ref (ad 0)), (1, .int x1)] [] := by
  intro H locs ls hw hl
  have hx := C.1
  have hb := C.2.1
  unfold BX9_image_46 at hf
  refine lv_aload_n hx hb dX9_image_46 rfl (lv_at hl 0 rfl) ?_
  refine sn_getC (r := 3) C hw fd_RX9_16 layM_0 rfl dX9_image_47 ?_
  refine lv_iload_n hx hb dX9_image_50 rfl (lv_at hl 1 rfl) ?_
  refine lv_iconst (v := 1) hx hb dX9_image_51 rfl ?_
  obtain ⟨g_1, hf⟩ := sn_gdE hf
  refine sn_zast C hw layM_3 g_1 dX9_image_52 (fun H locs hw => ?_)
  obtain ⟨σ_2, e_3, hf⟩ := sn_ltE hf
  rw [← e_3] at hw
  refine lv_iconst (v := 0) hx hb dX9_image_53 rfl ?_
  cases hf
  exact kr _ _ _ _ hw rfl dX9_image_54
theorem wX9_image_17 (C : sn_C p s m args meth c RX9 cX9_image 3 (some .int) D ct ad layM A) {σ : sn_S} {x1 : Int32} {x2 : Int32}  {o : (sn_S × Int32) ⊕ (sn_S)} (hf : BX9_image_17 σ x1 x2 = some o) (kc : ∀ v, o = .inl v → sn_At p l e rmX9_image s m args below meth c Q D ct ad layM A 3 v.1 17 [(0, .ref (ad 0)), (1, .int x1), (2, .int v.2)] []) (kx : ∀ v, o = .inr v → sn_At p l e rmX9_image s m args below meth c Q D ct ad layM A 3 v 46 [(0, .ref (ad 0)), (1, .int x1)] []) : sn_At p l e rmX9_image s m args below meth c Q D ct ad layM A 3 σ 17 [(0, .ref (ad 0)), (1, .int x1), (2, .int x2)] [] := by
  intro H locs ls hw hl
  have hx := C.1
  have hb := C.2.1
  unfold BX9_image_17 at hf
  refine lv_iload_n hx hb dX9_image_17 rfl (lv_at hl 2 rfl) ?_
  refine lv_bipush (v := 119) hx hb dX9_image_18 (by decide) ?_
  refine lv_icmp_ge (tgt := 46) hx hb dX9_image_20 (by decide) (fun c_1 => ?_) (fun c_1 => ?_)
  · have hf := sn_if c_1 hf
    cases hf
    exact kx _ rfl _ _ _ hw (lv_sub hl [0, 1] rfl)
  · have hf := sn_el c_1 hf
    refine lv_aload_n hx hb dX9_image_23 rfl (lv_at hl 0 rfl) ?_
    refine sn_getC (r := 2) C hw fd_RX9_13 layM_0 rfl dX9_image_24 ?_
    refine lv_bipush (v := 119) hx hb dX9_image_27 (by decide) ?_
    refine lv_iload_n hx hb dX9_image_29 rfl (lv_at hl 1 rfl) ?_
    refine lv_imul hx hb dX9_image_30 ?_
    refine lv_iload_n hx hb dX9_image_31 rfl (lv_at hl 2 rfl) ?_
    refine lv_iadd hx hb dX9_image_32 ?_
    refine lv_aload_n hx hb dX9_image_33 rfl (lv_at hl 0 rfl) ?_
    refine sn_getC (r := 1) C hw fd_RX9_9 layM_0 rfl dX9_image_34 ?_
    refine lv_iload_n hx hb dX9_image_37 rfl (lv_at hl 2 rfl) ?_
    obtain ⟨g_2, hf⟩ := sn_gdE hf
    refine sn_iald C hw layM_1 g_2 dX9_image_38 ?_
    obtain ⟨g_3, hf⟩ := sn_gdE hf
    refine sn_iast C hw layM_2 g_3 dX9_image_39 (fun H locs hw => ?_)
    obtain ⟨σ_4, e_5, hf⟩ := sn_ltE hf
    rw [← e_5] at hw
    obtain ⟨y_6, e_7, hf⟩ := sn_ltE hf
    refine lv_iinc (v := y_6) (lv' := [(2, .int y_6), (0, .ref (ad 0)), (1, .int x1)]) hx hb dX9_image_40 hl (k := 2) rfl (by rw [e_7]; rfl) (by decide) rfl (fun ls hl => ?_)
    refine lv_goto (tgt := 17) hx hb dX9_image_43 (by decide) ?_
    cases hf
    exact kc _ rfl _ _ _ hw (lv_sub hl [1, 2, 0] rfl)
theorem wX9_image_L17 (C : sn_C p s m args meth c RX9 cX9_image 3 (some .int) D ct ad layM A) {x1 : Int32}   {z : sn_S × Int32} {t : sn_S} (h : sn_it (LX9_image_17 x1) 5000 z = some t) (kx : ∀ v, t = v → sn_At p l e rmX9_image s m args below meth c Q D ct ad layM A 3 v 46 [(0, .ref (ad 0)), (1, .int x1)] []) : sn_At p l e rmX9_image s m args below meth c Q D ct ad layM A 3 z.1 17 [(0, .ref (ad 0)), (1, .int x1), (2, .int z.2)] [] :=
  sn_loop (f := LX9_image_17 x1) (G := fun z => sn_At p l e rmX9_image s m args below meth c Q D ct ad layM A 3 z.1 17 [(0, .ref (ad 0)), (1, .int x1), (2, .int z.2)] []) (E := fun t => (∀ v, t = v → sn_At p l e rmX9_image s m args below meth c Q D ct ad layM A 3 v 46 [(0, .ref (ad 0)), (1, .int x1)] []) ∧ True) (fun z o hf k1 k2 => wX9_image_17 C  hf (fun v e => k1 v e) (fun v e => (k2 _ e).1 v rfl)) 5000 z t h ⟨kx, trivial⟩
theorem wX9_image_in (C : sn_C p s m args meth c RX9 cX9_image 3 (some .int) D ct ad layM A) {σ : sn_S} {x1 : Int32}  {o : (Int32 × sn_S)} (hf : fX9_image σ x1 = some o) (kr : sn_Kr p l e rmX9_image s m args below meth c Q D ct ad layM A cX9_image .ireturn (true) o.2 [.int o.1]) : sn_At p l e rmX9_image s m args below meth c Q D ct ad layM A 3 σ 0 [(0, .ref (ad 0)), (1, .int x1)] [] := by
  intro H locs ls hw hl
  have hx := C.1
  have hb := C.2.1
  unfold fX9_image at hf
  refine lv_iload_n hx hb dX9_image_0 rfl (lv_at hl 1 rfl) ?_
  refine lv_i2l hx hb dX9_image_1 rfl ?_
  refine lv_lconst (v := 0) hx hb dX9_image_2 rfl ?_
  refine lv_ldc2 hx hb C.2.2.2.1 (C.2.2.2.2.1 _ kk_RX9_92) dX9_image_3 ?_
  obtain ⟨t_1, h_2, hf⟩ := sn_bd hf
  refine sn_callSi (rest := []) C hw (ctX9_in l  h_2) kl_RX9_94 rfl rfl rfl (Nat.le_of_ble_eq_true rfl) dX9_image_6 hl.1 (fun H locs hw => ?_)
  refine lv_if_ne (tgt := 15) hx hb dX9_image_9 (by decide) (fun c_3 => ?_) (fun c_3 => ?_)
  · have hf := sn_el c_3 hf
    refine lv_iconst (v := 0) hx hb dX9_image_15 rfl ?_
    refine lv_istore_n (lv' := [(2, .int (0 : Int32)), (0, .ref (ad 0)), (1, .int x1)]) hx hb dX9_image_16 rfl hl (by decide) rfl (fun ls hl => ?_)
    obtain ⟨t_4, h_5, hf⟩ := sn_bd hf
    exact wX9_image_L17 C  h_5 (fun v e => by cases e; exact wX9_image_46 C  hf kr) _ _ _ hw (lv_sub hl [1, 2, 0] rfl)
  · have hf := sn_if c_3 hf
    refine lv_bipush (v := (-2)) hx hb dX9_image_12 (by decide) ?_
    cases hf
    exact kr _ _ _ _ hw rfl dX9_image_14
theorem ctX9_image (l : Launch) {σ : sn_S} {x1 : Int32}  {o : (Int32 × sn_S)} (hf : fX9_image σ x1 = some o) : sn_M l yX9_image cX9_image 3 (some .int) rmX9_image layM (fun ad => [.ref (ad 0), .int x1]) σ (some (fun _ => .int o.1)) o.2 :=
  sn_met (by decide) (fun _ => Nat.le_of_ble_eq_true rfl) (fun p e s m args below meth c ls D ct ad A C hw hl => wX9_image_in C  hf (fun H locs ls pc hw ok hd => sn_iret C hw hd) _ _ _ hw hl)
-- X9_back
abbrev rmX9_back : Room := { frames := 1, cells := 0, slots := 0, locals := 25 }
def BX9_back_58 (σ : sn_S) : Option ((Int32 × sn_S)) :=
  (some ((0 : Int32), σ))
def BX9_back_29 (σ : sn_S) (x1 : Int32) (x2 : Int32) : Option ((sn_S × Int32) ⊕ (sn_S)) :=
  (if (119 : Int32) ≤ x2 then
  (some (.inr (σ)))
  else
  (sn_gd (sn_in (((119 : Int32) * x1) + x2) 357) (sn_gd (sn_in x2 119) (sn_lt (sn_pI σ 1 x2.toNatClampNeg (sn_I σ 2 (((119 : Int32) * x1) + x2).toNatClampNeg)) fun σ_4 => (sn_lt (x2 + 1) fun y_6 => (some (.inl (σ_4, y_6))))))))
def LX9_back_29 (x1 : Int32) (s : sn_S × Int32) : Option ((sn_S × Int32) ⊕ (sn_S)) := BX9_back_29 s.1 x1 s.2
def fX9_back (σ : sn_S) (x1 : Int32) : Option (Int32 × sn_S) :=
  ((fX9_in x1.toInt64 (0 : Int64) (2 : Int64)).bind fun t_1 => (if t_1 = 0 then
  (some ((-2 : Int32), σ))
  else
  (sn_gd (sn_in x1 3) (if (sn_I σ 3 x1.toNatClampNeg) = 0 then
  (some ((-6 : Int32), σ))
  else
  ((sn_it (LX9_back_29 x1) 5000 (σ, (0 : Int32))).bind fun t_6 => (BX9_back_58 t_6))))))
theorem wX9_back_58 (C : sn_C p s m args meth c RX9 cX9_back 3 (some .int) D ct ad layM A) {σ : sn_S}  {o : (Int32 × sn_S)} (hf : BX9_back_58 σ = some o) (kr : sn_Kr p l e rmX9_back s m args below meth c Q D ct ad layM A cX9_back .ireturn (true) o.2 [.int o.1]) : sn_At p l e rmX9_back s m args below meth c Q D ct ad layM A 3 σ 58 [] [] := by
  intro H locs ls hw hl
  have hx := C.1
  have hb := C.2.1
  unfold BX9_back_58 at hf
  refine lv_iconst (v := 0) hx hb dX9_back_58 rfl ?_
  cases hf
  exact kr _ _ _ _ hw rfl dX9_back_59
theorem wX9_back_29 (C : sn_C p s m args meth c RX9 cX9_back 3 (some .int) D ct ad layM A) {σ : sn_S} {x1 : Int32} {x2 : Int32}  {o : (sn_S × Int32) ⊕ (sn_S)} (hf : BX9_back_29 σ x1 x2 = some o) (kc : ∀ v, o = .inl v → sn_At p l e rmX9_back s m args below meth c Q D ct ad layM A 3 v.1 29 [(0, .ref (ad 0)), (1, .int x1), (2, .int v.2)] []) (kx : ∀ v, o = .inr v → sn_At p l e rmX9_back s m args below meth c Q D ct ad layM A 3 v 58 [] []) : sn_At p l e rmX9_back s m args below meth c Q D ct ad layM A 3 σ 29 [(0, .ref (ad 0)), (1, .int x1), (2, .int x2)] [] := by
  intro H locs ls hw hl
  have hx := C.1
  have hb := C.2.1
  unfold BX9_back_29 at hf
  refine lv_iload_n hx hb dX9_back_29 rfl (lv_at hl 2 rfl) ?_
  refine lv_bipush (v := 119) hx hb dX9_back_30 (by decide) ?_
  refine lv_icmp_ge (tgt := 58) hx hb dX9_back_32 (by decide) (fun c_1 => ?_) (fun c_1 => ?_)
  · have hf := sn_if c_1 hf
    cases hf
    exact kx _ rfl _ _ _ hw (lv_sub hl [] rfl)
  · have hf := sn_el c_1 hf
    refine lv_aload_n hx hb dX9_back_35 rfl (lv_at hl 0 rfl) ?_
    refine sn_getC (r := 1) C hw fd_RX9_9 layM_0 rfl dX9_back_36 ?_
    refine lv_iload_n hx hb dX9_back_39 rfl (lv_at hl 2 rfl) ?_
    refine lv_aload_n hx hb dX9_back_40 rfl (lv_at hl 0 rfl) ?_
    refine sn_getC (r := 2) C hw fd_RX9_13 layM_0 rfl dX9_back_41 ?_
    refine lv_bipush (v := 119) hx hb dX9_back_44 (by decide) ?_
    refine lv_iload_n hx hb dX9_back_46 rfl (lv_at hl 1 rfl) ?_
    refine lv_imul hx hb dX9_back_47 ?_
    refine lv_iload_n hx hb dX9_back_48 rfl (lv_at hl 2 rfl) ?_
    refine lv_iadd hx hb dX9_back_49 ?_
    obtain ⟨g_2, hf⟩ := sn_gdE hf
    refine sn_iald C hw layM_2 g_2 dX9_back_50 ?_
    obtain ⟨g_3, hf⟩ := sn_gdE hf
    refine sn_iast C hw layM_1 g_3 dX9_back_51 (fun H locs hw => ?_)
    obtain ⟨σ_4, e_5, hf⟩ := sn_ltE hf
    rw [← e_5] at hw
    obtain ⟨y_6, e_7, hf⟩ := sn_ltE hf
    refine lv_iinc (v := y_6) (lv' := [(2, .int y_6), (0, .ref (ad 0)), (1, .int x1)]) hx hb dX9_back_52 hl (k := 2) rfl (by rw [e_7]; rfl) (by decide) rfl (fun ls hl => ?_)
    refine lv_goto (tgt := 29) hx hb dX9_back_55 (by decide) ?_
    cases hf
    exact kc _ rfl _ _ _ hw (lv_sub hl [1, 2, 0] rfl)
theorem wX9_back_L29 (C : sn_C p s m args meth c RX9 cX9_back 3 (some .int) D ct ad layM A) {x1 : Int32}   {z : sn_S × Int32} {t : sn_S} (h : sn_it (LX9_back_29 x1) 5000 z = some t) (kx : ∀ v, t = v → sn_At p l e rmX9_back s m args below meth c Q D ct ad layM A 3 v 58 [] []) : sn_At p l e rmX9_back s m args below meth c Q D ct ad layM A 3 z.1 29 [(0, .ref (ad 0)), (1, .int x1), (2, .int z.2)] [] :=
  sn_loop (f := LX9_back_29 x1) (G := fun z => sn_At p l e rmX9_back s m args below meth c Q D ct ad layM A 3 z.1 29 [(0, .ref (ad 0)), (1, .int x1), (2, .int z.2)] []) (E := fun t => (∀ v, t = v → sn_At p l e rmX9_back s m args below meth c Q D ct ad layM A 3 v 58 [] []) ∧ True) (fun z o hf k1 k2 => wX9_back_29 C  hf (fun v e => k1 v e) (fun v e => (k2 _ e).1 v rfl)) 5000 z t h ⟨kx, trivial⟩
theorem wX9_back_in (C : sn_C p s m args meth c RX9 cX9_back 3 (some .int) D ct ad layM A) {σ : sn_S} {x1 : Int32}  {o : (Int32 × sn_S)} (hf : fX9_back σ x1 = some o) (kr : sn_Kr p l e rmX9_back s m args below meth c Q D ct ad layM A cX9_back .ireturn (true) o.2 [.int o.1]) : sn_At p l e rmX9_back s m args below meth c Q D ct ad layM A 3 σ 0 [(0, .ref (ad 0)), (1, .int x1)] [] := by
  intro H locs ls hw hl
  have hx := C.1
  have hb := C.2.1
  unfold fX9_back at hf
  refine lv_iload_n hx hb dX9_back_0 rfl (lv_at hl 1 rfl) ?_
  refine lv_i2l hx hb dX9_back_1 rfl ?_
  refine lv_lconst (v := 0) hx hb dX9_back_2 rfl ?_
  refine lv_ldc2 hx hb C.2.2.2.1 (C.2.2.2.2.1 _ kk_RX9_92) dX9_back_3 ?_
  obtain ⟨t_1, h_2, hf⟩ := sn_bd hf
  refine sn_callSi (rest := []) C hw (ctX9_in l  h_2) kl_RX9_94 rfl rfl rfl (Nat.le_of_ble_eq_true rfl) dX9_back_6 hl.1 (fun H locs hw => ?_)
  refine lv_if_ne (tgt := 15) hx hb dX9_back_9 (by decide) (fun c_3 => ?_) (fun c_3 => ?_)
  · have hf := sn_el c_3 hf
    refine lv_aload_n hx hb dX9_back_15 rfl (lv_at hl 0 rfl) ?_
    refine sn_getC (r := 3) C hw fd_RX9_16 layM_0 rfl dX9_back_16 ?_
    refine lv_iload_n hx hb dX9_back_19 rfl (lv_at hl 1 rfl) ?_
    obtain ⟨g_4, hf⟩ := sn_gdE hf
    refine sn_zald C hw layM_3 g_4 dX9_back_20 ?_
    refine lv_if_ne (tgt := 27) hx hb dX9_back_21 (by decide) (fun c_5 => ?_) (fun c_5 => ?_)
    · have hf := sn_el c_5 hf
      refine lv_iconst (v := 0) hx hb dX9_back_27 rfl ?_
      refine lv_istore_n (lv' := [(2, .int (0 : Int32)), (0, .ref (ad 0)), (1, .int x1)]) hx hb dX9_back_28 rfl hl (by decide) rfl (fun ls hl => ?_)
      obtain ⟨t_6, h_7, hf⟩ := sn_bd hf
      exact wX9_back_L29 C  h_7 (fun v e => by cases e; exact wX9_back_58 C  hf kr) _ _ _ hw (lv_sub hl [1, 2, 0] rfl)
    · have hf := sn_if c_5 hf
      refine lv_bipush (v := (-6)) hx hb dX9_back_24 (by decide) ?_
      cases hf
      exact kr _ _ _ _ hw rfl dX9_back_26
  · have hf := sn_if c_3 hf
    refine lv_bipush (v := (-2)) hx hb dX9_back_12 (by decide) ?_
    cases hf
    exact kr _ _ _ _ hw rfl dX9_back_14
theorem ctX9_back (l : Launch) {σ : sn_S} {x1 : Int32}  {o : (Int32 × sn_S)} (hf : fX9_back σ x1 = some o) : sn_M l yX9_back cX9_back 3 (some .int) rmX9_back layM (fun ad => [.ref (ad 0), .int x1]) σ (some (fun _ => .int o.1)) o.2 :=
  sn_met (by decide) (fun _ => Nat.le_of_ble_eq_true rfl) (fun p e s m args below meth c ls D ct ad A C hw hl => wX9_back_in C  hf (fun H locs ls pc hw ok hd => sn_iret C hw hd) _ _ _ hw hl)
-- X9_isHouse
abbrev rmX9_isHouse : Room := { frames := 0, cells := 0, slots := 0, locals := 0 }
def fX9_isHouse (σ : sn_S) : Option Int32 :=
  (sn_gd (sn_in (10 : Int32) 119) (if (sn_I σ 1 (10 : Int32).toNatClampNeg) ≤ 0 then
  (sn_gd (sn_b01 (0 : Int32)) (some (0 : Int32)))
  else
  (sn_gd (sn_b01 (1 : Int32)) (some (1 : Int32)))))
theorem wX9_isHouse_in (C : sn_C p s m args meth c RX9 cX9_isHouse 1 (some .boolean) D ct ad layM A) {σ : sn_S}  {o : Int32} (hf : fX9_isHouse σ = some o) (kr : sn_Kr p l e rmX9_isHouse s m args below meth c Q D ct ad layM A cX9_isHouse .ireturn (sn_b01 o) σ [.int o]) : sn_At p l e rmX9_isHouse s m args below meth c Q D ct ad layM A 1 σ 0 [(0, .ref (ad 0))] [] := by
  intro H locs ls hw hl
  have hx := C.1
  have hb := C.2.1
  unfold fX9_isHouse at hf
  refine lv_aload_n hx hb dX9_isHouse_0 rfl (lv_at hl 0 rfl) ?_
  refine sn_getC (r := 1) C hw fd_RX9_9 layM_0 rfl dX9_isHouse_1 ?_
  refine lv_bipush (v := 10) hx hb dX9_isHouse_4 (by decide) ?_
  obtain ⟨g_1, hf⟩ := sn_gdE hf
  refine sn_iald C hw layM_1 g_1 dX9_isHouse_6 ?_
  refine lv_if_le (tgt := 14) hx hb dX9_isHouse_7 (by decide) (fun c_2 => ?_) (fun c_2 => ?_)
  · have hf := sn_if c_2 hf
    refine lv_iconst (v := 0) hx hb dX9_isHouse_14 rfl ?_
    obtain ⟨g_3, hf⟩ := sn_gdE hf
    cases hf
    exact kr _ _ _ _ hw g_3 dX9_isHouse_15
  · have hf := sn_el c_2 hf
    refine lv_iconst (v := 1) hx hb dX9_isHouse_10 rfl ?_
    refine lv_goto (tgt := 15) hx hb dX9_isHouse_11 (by decide) ?_
    obtain ⟨g_4, hf⟩ := sn_gdE hf
    cases hf
    exact kr _ _ _ _ hw g_4 dX9_isHouse_15
theorem ctX9_isHouse (l : Launch) {σ : sn_S}  {o : Int32} (hf : fX9_isHouse σ = some o) : sn_M l yX9_isHouse cX9_isHouse 1 (some .boolean) rmX9_isHouse layM (fun ad => [.ref (ad 0)]) σ (some (fun _ => .int o)) σ :=
  sn_met (by decide) (fun _ => Nat.le_of_ble_eq_true rfl) (fun p e s m args below meth c ls D ct ad A C hw hl => wX9_isHouse_in C  hf (fun H locs ls pc hw ok hd => sn_zret C hw ok hd) _ _ _ hw hl)
-- X9_isMinute
abbrev rmX9_isMinute : Room := { frames := 1, cells := 0, slots := 0, locals := 25 }
def fX9_isMinute (σ : sn_S) (x1 : Int64) : Option Int32 :=
  (sn_gd (sn_in (0 : Int32) 119) ((fX9_in x1 (0 : Int64) (((sn_I σ 1 (0 : Int32).toNatClampNeg) - (1 : Int32)).toInt64)).bind fun t_2 => (sn_gd (sn_b01 t_2) (some t_2))))
theorem wX9_isMinute_in (C : sn_C p s m args meth c RX9 cX9_isMinute 3 (some .boolean) D ct ad layM A) {σ : sn_S} {x1 : Int64}  {o : Int32} (hf : fX9_isMinute σ x1 = some o) (kr : sn_Kr p l e rmX9_isMinute s m args below meth c Q D ct ad layM A cX9_isMinute .ireturn (sn_b01 o) σ [.int o]) : sn_At p l e rmX9_isMinute s m args below meth c Q D ct ad layM A 3 σ 0 [(0, .ref (ad 0)), (1, .long x1)] [] := by
  intro H locs ls hw hl
  have hx := C.1
  have hb := C.2.1
  unfold fX9_isMinute at hf
  refine lv_lload_n hx hb dX9_isMinute_0 rfl (lv_at hl 1 rfl) ?_
  refine lv_lconst (v := 0) hx hb dX9_isMinute_1 rfl ?_
  refine lv_aload_n hx hb dX9_isMinute_2 rfl (lv_at hl 0 rfl) ?_
  refine sn_getC (r := 1) C hw fd_RX9_9 layM_0 rfl dX9_isMinute_3 ?_
  refine lv_iconst (v := 0) hx hb dX9_isMinute_6 rfl ?_
  obtain ⟨g_1, hf⟩ := sn_gdE hf
  refine sn_iald C hw layM_1 g_1 dX9_isMinute_7 ?_
  refine lv_iconst (v := 1) hx hb dX9_isMinute_8 rfl ?_
  refine lv_isub hx hb dX9_isMinute_9 ?_
  refine lv_i2l hx hb dX9_isMinute_10 rfl ?_
  obtain ⟨t_2, h_3, hf⟩ := sn_bd hf
  refine sn_callSi (rest := []) C hw (ctX9_in l  h_3) kl_RX9_94 rfl rfl rfl (Nat.le_of_ble_eq_true rfl) dX9_isMinute_11 hl.1 (fun H locs hw => ?_)
  obtain ⟨g_4, hf⟩ := sn_gdE hf
  cases hf
  exact kr _ _ _ _ hw g_4 dX9_isMinute_14
theorem ctX9_isMinute (l : Launch) {σ : sn_S} {x1 : Int64}  {o : Int32} (hf : fX9_isMinute σ x1 = some o) : sn_M l yX9_isMinute cX9_isMinute 3 (some .boolean) rmX9_isMinute layM (fun ad => [.ref (ad 0), .long x1]) σ (some (fun _ => .int o)) σ :=
  sn_met (by decide) (fun _ => Nat.le_of_ble_eq_true rfl) (fun p e s m args below meth c ls D ct ad A C hw hl => wX9_isMinute_in C  hf (fun H locs ls pc hw ok hd => sn_zret C hw ok hd) _ _ _ hw hl)
-- X9_isPerson
abbrev rmX9_isPerson : Room := { frames := 1, cells := 0, slots := 0, locals := 25 }
def fX9_isPerson (σ : sn_S) (x1 : Int64) : Option Int32 :=
  (sn_gd (sn_in (5 : Int32) 119) ((fX9_in x1 (0 : Int64) (((sn_I σ 1 (5 : Int32).toNatClampNeg) - (1 : Int32)).toInt64)).bind fun t_2 => (sn_gd (sn_b01 t_2) (some t_2))))
theorem wX9_isPerson_in (C : sn_C p s m args meth c RX9 cX9_isPerson 3 (some .boolean) D ct ad layM A) {σ : sn_S} {x1 : Int64}  {o : Int32} (hf : fX9_isPerson σ x1 = some o) (kr : sn_Kr p l e rmX9_isPerson s m args below meth c Q D ct ad layM A cX9_isPerson .ireturn (sn_b01 o) σ [.int o]) : sn_At p l e rmX9_isPerson s m args below meth c Q D ct ad layM A 3 σ 0 [(0, .ref (ad 0)), (1, .long x1)] [] := by
  intro H locs ls hw hl
  have hx := C.1
  have hb := C.2.1
  unfold fX9_isPerson at hf
  refine lv_lload_n hx hb dX9_isPerson_0 rfl (lv_at hl 1 rfl) ?_
  refine lv_lconst (v := 0) hx hb dX9_isPerson_1 rfl ?_
  refine lv_aload_n hx hb dX9_isPerson_2 rfl (lv_at hl 0 rfl) ?_
  refine sn_getC (r := 1) C hw fd_RX9_9 layM_0 rfl dX9_isPerson_3 ?_
  refine lv_iconst (v := 5) hx hb dX9_isPerson_6 rfl ?_
  obtain ⟨g_1, hf⟩ := sn_gdE hf
  refine sn_iald C hw layM_1 g_1 dX9_isPerson_7 ?_
  refine lv_iconst (v := 1) hx hb dX9_isPerson_8 rfl ?_
  refine lv_isub hx hb dX9_isPerson_9 ?_
  refine lv_i2l hx hb dX9_isPerson_10 rfl ?_
  obtain ⟨t_2, h_3, hf⟩ := sn_bd hf
  refine sn_callSi (rest := []) C hw (ctX9_in l  h_3) kl_RX9_94 rfl rfl rfl (Nat.le_of_ble_eq_true rfl) dX9_isPerson_11 hl.1 (fun H locs hw => ?_)
  obtain ⟨g_4, hf⟩ := sn_gdE hf
  cases hf
  exact kr _ _ _ _ hw g_4 dX9_isPerson_14
theorem ctX9_isPerson (l : Launch) {σ : sn_S} {x1 : Int64}  {o : Int32} (hf : fX9_isPerson σ x1 = some o) : sn_M l yX9_isPerson cX9_isPerson 3 (some .boolean) rmX9_isPerson layM (fun ad => [.ref (ad 0), .long x1]) σ (some (fun _ => .int o)) σ :=
  sn_met (by decide) (fun _ => Nat.le_of_ble_eq_true rfl) (fun p e s m args below meth c ls D ct ad A C hw hl => wX9_isPerson_in C  hf (fun H locs ls pc hw ok hd => sn_zret C hw ok hd) _ _ _ hw hl)
-- X9_isPolicy
abbrev rmX9_isPolicy : Room := { frames := 1, cells := 0, slots := 0, locals := 25 }
def fX9_isPolicy (σ : sn_S) (x1 : Int32) : Option Int32 :=
  (sn_gd (sn_in (8 : Int32) 119) ((fX9_in x1.toInt64 (0 : Int64) (((sn_I σ 1 (8 : Int32).toNatClampNeg) - (1 : Int32)).toInt64)).bind fun t_2 => (sn_gd (sn_b01 t_2) (some t_2))))
theorem wX9_isPolicy_in (C : sn_C p s m args meth c RX9 cX9_isPolicy 2 (some .boolean) D ct ad layM A) {σ : sn_S} {x1 : Int32}  {o : Int32} (hf : fX9_isPolicy σ x1 = some o) (kr : sn_Kr p l e rmX9_isPolicy s m args below meth c Q D ct ad layM A cX9_isPolicy .ireturn (sn_b01 o) σ [.int o]) : sn_At p l e rmX9_isPolicy s m args below meth c Q D ct ad layM A 2 σ 0 [(0, .ref (ad 0)), (1, .int x1)] [] := by
  intro H locs ls hw hl
  have hx := C.1
  have hb := C.2.1
  unfold fX9_isPolicy at hf
  refine lv_iload_n hx hb dX9_isPolicy_0 rfl (lv_at hl 1 rfl) ?_
  refine lv_i2l hx hb dX9_isPolicy_1 rfl ?_
  refine lv_lconst (v := 0) hx hb dX9_isPolicy_2 rfl ?_
  refine lv_aload_n hx hb dX9_isPolicy_3 rfl (lv_at hl 0 rfl) ?_
  refine sn_getC (r := 1) C hw fd_RX9_9 layM_0 rfl dX9_isPolicy_4 ?_
  refine lv_bipush (v := 8) hx hb dX9_isPolicy_7 (by decide) ?_
  obtain ⟨g_1, hf⟩ := sn_gdE hf
  refine sn_iald C hw layM_1 g_1 dX9_isPolicy_9 ?_
  refine lv_iconst (v := 1) hx hb dX9_isPolicy_10 rfl ?_
  refine lv_isub hx hb dX9_isPolicy_11 ?_
  refine lv_i2l hx hb dX9_isPolicy_12 rfl ?_
  obtain ⟨t_2, h_3, hf⟩ := sn_bd hf
  refine sn_callSi (rest := []) C hw (ctX9_in l  h_3) kl_RX9_94 rfl rfl rfl (Nat.le_of_ble_eq_true rfl) dX9_isPolicy_13 hl.1 (fun H locs hw => ?_)
  obtain ⟨g_4, hf⟩ := sn_gdE hf
  cases hf
  exact kr _ _ _ _ hw g_4 dX9_isPolicy_16
theorem ctX9_isPolicy (l : Launch) {σ : sn_S} {x1 : Int32}  {o : Int32} (hf : fX9_isPolicy σ x1 = some o) : sn_M l yX9_isPolicy cX9_isPolicy 2 (some .boolean) rmX9_isPolicy layM (fun ad => [.ref (ad 0), .int x1]) σ (some (fun _ => .int o)) σ :=
  sn_met (by decide) (fun _ => Nat.le_of_ble_eq_true rfl) (fun p e s m args below meth c ls D ct ad A C hw hl => wX9_isPolicy_in C  hf (fun H locs ls pc hw ok hd => sn_zret C hw ok hd) _ _ _ hw hl)
-- X9_isLaw
abbrev rmX9_isLaw : Room := { frames := 1, cells := 0, slots := 0, locals := 25 }
def fX9_isLaw (x0 : Int32) : Option Int32 :=
  ((fX9_in x0.toInt64 (0 : Int64) (3 : Int64)).bind fun t_1 => (sn_gd (sn_b01 t_1) (some t_1)))
theorem wX9_isLaw_in (C : sn_C p s m args meth c RX9 cX9_isLaw 1 (some .boolean) D ct ad layM A) {σ : sn_S} {x0 : Int32}  {o : Int32} (hf : fX9_isLaw x0 = some o) (kr : sn_Kr p l e rmX9_isLaw s m args below meth c Q D ct ad layM A cX9_isLaw .ireturn (sn_b01 o) σ [.int o]) : sn_At p l e rmX9_isLaw s m args below meth c Q D ct ad layM A 1 σ 0 [(0, .int x0)] [] := by
  intro H locs ls hw hl
  have hx := C.1
  have hb := C.2.1
  unfold fX9_isLaw at hf
  refine lv_iload_n hx hb dX9_isLaw_0 rfl (lv_at hl 0 rfl) ?_
  refine lv_i2l hx hb dX9_isLaw_1 rfl ?_
  refine lv_lconst (v := 0) hx hb dX9_isLaw_2 rfl ?_
  refine lv_ldc2 hx hb C.2.2.2.1 (C.2.2.2.2.1 _ kk_RX9_98) dX9_isLaw_3 ?_
  obtain ⟨t_1, h_2, hf⟩ := sn_bd hf
  refine sn_callSi (rest := []) C hw (ctX9_in l  h_2) kl_RX9_94 rfl rfl rfl (Nat.le_of_ble_eq_true rfl) dX9_isLaw_6 hl.1 (fun H locs hw => ?_)
  obtain ⟨g_3, hf⟩ := sn_gdE hf
  cases hf
  exact kr _ _ _ _ hw g_3 dX9_isLaw_9
theorem ctX9_isLaw (l : Launch) {σ : sn_S} {x0 : Int32}  {o : Int32} (hf : fX9_isLaw x0 = some o) : sn_M l yX9_isLaw cX9_isLaw 1 (some .boolean) rmX9_isLaw layM (fun ad => [.int x0]) σ (some (fun _ => .int o)) σ :=
  sn_met (by decide) (fun _ => Nat.le_of_ble_eq_true rfl) (fun p e s m args below meth c ls D ct ad A C hw hl => wX9_isLaw_in C  hf (fun H locs ls pc hw ok hd => sn_zret C hw ok hd) _ _ _ hw hl)
-- X9_of
abbrev rmX9_of : Room := { frames := 0, cells := 0, slots := 0, locals := 0 }
def fX9_of (σ : sn_S) (x1 : Int32) (x2 : Int32) : Option Int32 :=
  (sn_gd (sn_in (((49 : Int32) + ((5 : Int32) * x1)) + x2) 119) (some (sn_I σ 1 (((49 : Int32) + ((5 : Int32) * x1)) + x2).toNatClampNeg)))
theorem wX9_of_in (C : sn_C p s m args meth c RX9 cX9_of 3 (some .int) D ct ad layM A) {σ : sn_S} {x1 : Int32} {x2 : Int32}  {o : Int32} (hf : fX9_of σ x1 x2 = some o) (kr : sn_Kr p l e rmX9_of s m args below meth c Q D ct ad layM A cX9_of .ireturn (true) σ [.int o]) : sn_At p l e rmX9_of s m args below meth c Q D ct ad layM A 3 σ 0 [(0, .ref (ad 0)), (1, .int x1), (2, .int x2)] [] := by
  intro H locs ls hw hl
  have hx := C.1
  have hb := C.2.1
  unfold fX9_of at hf
  refine lv_aload_n hx hb dX9_of_0 rfl (lv_at hl 0 rfl) ?_
  refine sn_getC (r := 1) C hw fd_RX9_9 layM_0 rfl dX9_of_1 ?_
  refine lv_bipush (v := 49) hx hb dX9_of_4 (by decide) ?_
  refine lv_iconst (v := 5) hx hb dX9_of_6 rfl ?_
  refine lv_iload_n hx hb dX9_of_7 rfl (lv_at hl 1 rfl) ?_
  refine lv_imul hx hb dX9_of_8 ?_
  refine lv_iadd hx hb dX9_of_9 ?_
  refine lv_iload_n hx hb dX9_of_10 rfl (lv_at hl 2 rfl) ?_
  refine lv_iadd hx hb dX9_of_11 ?_
  obtain ⟨g_1, hf⟩ := sn_gdE hf
  refine sn_iald C hw layM_1 g_1 dX9_of_12 ?_
  cases hf
  exact kr _ _ _ _ hw rfl dX9_of_13
theorem ctX9_of (l : Launch) {σ : sn_S} {x1 : Int32} {x2 : Int32}  {o : Int32} (hf : fX9_of σ x1 x2 = some o) : sn_M l yX9_of cX9_of 3 (some .int) rmX9_of layM (fun ad => [.ref (ad 0), .int x1, .int x2]) σ (some (fun _ => .int o)) σ :=
  sn_met (by decide) (fun _ => Nat.le_of_ble_eq_true rfl) (fun p e s m args below meth c ls D ct ad A C hw hl => wX9_of_in C  hf (fun H locs ls pc hw ok hd => sn_iret C hw hd) _ _ _ hw hl)
-- X9_minutes
abbrev rmX9_minutes : Room := { frames := 0, cells := 0, slots := 0, locals := 0 }
def fX9_minutes (σ : sn_S) : Option Int32 :=
  (sn_gd (sn_in (0 : Int32) 119) (some (sn_I σ 1 (0 : Int32).toNatClampNeg)))
theorem wX9_minutes_in (C : sn_C p s m args meth c RX9 cX9_minutes 1 (some .int) D ct ad layM A) {σ : sn_S}  {o : Int32} (hf : fX9_minutes σ = some o) (kr : sn_Kr p l e rmX9_minutes s m args below meth c Q D ct ad layM A cX9_minutes .ireturn (true) σ [.int o]) : sn_At p l e rmX9_minutes s m args below meth c Q D ct ad layM A 1 σ 0 [(0, .ref (ad 0))] [] := by
  intro H locs ls hw hl
  have hx := C.1
  have hb := C.2.1
  unfold fX9_minutes at hf
  refine lv_aload_n hx hb dX9_minutes_0 rfl (lv_at hl 0 rfl) ?_
  refine sn_getC (r := 1) C hw fd_RX9_9 layM_0 rfl dX9_minutes_1 ?_
  refine lv_iconst (v := 0) hx hb dX9_minutes_4 rfl ?_
  obtain ⟨g_1, hf⟩ := sn_gdE hf
  refine sn_iald C hw layM_1 g_1 dX9_minutes_5 ?_
  cases hf
  exact kr _ _ _ _ hw rfl dX9_minutes_6
theorem ctX9_minutes (l : Launch) {σ : sn_S}  {o : Int32} (hf : fX9_minutes σ = some o) : sn_M l yX9_minutes cX9_minutes 1 (some .int) rmX9_minutes layM (fun ad => [.ref (ad 0)]) σ (some (fun _ => .int o)) σ :=
  sn_met (by decide) (fun _ => Nat.le_of_ble_eq_true rfl) (fun p e s m args below meth c ls D ct ad A C hw hl => wX9_minutes_in C  hf (fun H locs ls pc hw ok hd => sn_iret C hw hd) _ _ _ hw hl)
-- X9_feed
abbrev rmX9_feed : Room := { frames := 0, cells := 0, slots := 0, locals := 0 }
def BX9_feed_101 (σ : sn_S) : Option ((Int32 × sn_S)) :=
  (sn_lt (sn_pI σ 0 5 ((sn_I σ 0 5) + (20 : Int32))) fun σ_1 => (some ((sn_I σ_1 0 5), σ_1)))
def BX9_feed_55 (σ : sn_S) (x6 : Int32) : Option ((sn_S × Int32) ⊕ (sn_S)) :=
  (if (20 : Int32) ≤ x6 then
  (some (.inr (σ)))
  else
  (sn_gd (sn_in (x6 / (4 : Int32)) 5) (sn_gd (sn_in ((sn_I σ 0 5) + x6) 900) (sn_lt (sn_pI σ 4 ((sn_I σ 0 5) + x6).toNatClampNeg (vp_nar .byte (((sn_I σ 5 (x6 / (4 : Int32)).toNatClampNeg) >>> (((24 : Int32) - ((8 : Int32) * (x6 - x6 / (4 : Int32) * (4 : Int32)))) &&& 31)).toInt8.toInt32))) fun σ_4 => (sn_lt (x6 + 1) fun y_6 => (some (.inl (σ_4, y_6))))))))
def LX9_feed_55  (s : sn_S × Int32) : Option ((sn_S × Int32) ⊕ (sn_S)) := BX9_feed_55 s.1 s.2
def fX9_feed (σ : sn_S) (x1 : Int32) (x2 : Int32) (x3 : Int32) (x4 : Int32) (x5 : Int32) : Option (Int32 × sn_S) :=
  (if ((sn_I σ 0 5) + (20 : Int32)) ≤ (900 : Int32) then
  (sn_gd (sn_in (0 : Int32) 5) (sn_lt (sn_pI σ 5 (0 : Int32).toNatClampNeg x1) fun σ_3 => (sn_gd (sn_in (1 : Int32) 5) (sn_lt (sn_pI σ_3 5 (1 : Int32).toNatClampNeg x2) fun σ_6 => (sn_gd (sn_in (2 : Int32) 5) (sn_lt (sn_pI σ_6 5 (2 : Int32).toNatClampNeg x3) fun σ_9 => (sn_gd (sn_in (3 : Int32) 5) (sn_lt (sn_pI σ_9 5 (3 : Int32).toNatClampNeg x4) fun σ_12 => (sn_gd (sn_in (4 : Int32) 5) (sn_lt (sn_pI σ_12 5 (4 : Int32).toNatClampNeg x5) fun σ_15 => ((sn_it (LX9_feed_55 ) 5000 (σ_15, (0 : Int32))).bind fun t_17 => (BX9_feed_101 t_17))))))))))))
  else
  (some ((-1 : Int32), σ)))
theorem wX9_feed_101 (C : sn_C p s m args meth c RX9 cX9_feed 7 (some .int) D ct ad layM A) {σ : sn_S}  {o : (Int32 × sn_S)} (hf : BX9_feed_101 σ = some o) (kr : sn_Kr p l e rmX9_feed s m args below meth c Q D ct ad layM A cX9_feed .ireturn (true) o.2 [.int o.1]) : sn_At p l e rmX9_feed s m args below meth c Q D ct ad layM A 7 σ 101 [(0, .ref (ad 0))] [] := by
  intro H locs ls hw hl
  have hx := C.1
  have hb := C.2.1
  unfold BX9_feed_101 at hf
  refine lv_aload_n hx hb dX9_feed_101 rfl (lv_at hl 0 rfl) ?_
  refine lv_dup hx hb dX9_feed_102 rfl ?_
  refine sn_getI C hw fd_RX9_100 layM_0 rfl dX9_feed_103 ?_
  refine lv_bipush (v := 20) hx hb dX9_feed_106 (by decide) ?_
  refine lv_iadd hx hb dX9_feed_108 ?_
  refine sn_putI C hw fp_RX9_100 layM_0 rfl dX9_feed_109 (fun H locs hw => ?_)
  obtain ⟨σ_1, e_2, hf⟩ := sn_ltE hf
  rw [← e_2] at hw
  refine lv_aload_n hx hb dX9_feed_112 rfl (lv_at hl 0 rfl) ?_
  refine sn_getI C hw fd_RX9_100 layM_0 rfl dX9_feed_113 ?_
  cases hf
  exact kr _ _ _ _ hw rfl dX9_feed_116
theorem wX9_feed_55 (C : sn_C p s m args meth c RX9 cX9_feed 7 (some .int) D ct ad layM A) {σ : sn_S} {x6 : Int32}  {o : (sn_S × Int32) ⊕ (sn_S)} (hf : BX9_feed_55 σ x6 = some o) (kc : ∀ v, o = .inl v → sn_At p l e rmX9_feed s m args below meth c Q D ct ad layM A 7 v.1 55 [(0, .ref (ad 0)), (6, .int v.2)] []) (kx : ∀ v, o = .inr v → sn_At p l e rmX9_feed s m args below meth c Q D ct ad layM A 7 v 101 [(0, .ref (ad 0))] []) : sn_At p l e rmX9_feed s m args below meth c Q D ct ad layM A 7 σ 55 [(0, .ref (ad 0)), (6, .int x6)] [] := by
  intro H locs ls hw hl
  have hx := C.1
  have hb := C.2.1
  unfold BX9_feed_55 at hf
  refine lv_iload hx hb dX9_feed_55 (lv_at hl 1 rfl) ?_
  refine lv_bipush (v := 20) hx hb dX9_feed_57 (by decide) ?_
  refine lv_icmp_ge (tgt := 101) hx hb dX9_feed_59 (by decide) (fun c_1 => ?_) (fun c_1 => ?_)
  · have hf := sn_if c_1 hf
    cases hf
    exact kx _ rfl _ _ _ hw (lv_sub hl [0] rfl)
  · have hf := sn_el c_1 hf
    refine lv_aload_n hx hb dX9_feed_62 rfl (lv_at hl 0 rfl) ?_
    refine sn_getC (r := 4) C hw fd_RX9_20 layM_0 rfl dX9_feed_63 ?_
    refine lv_aload_n hx hb dX9_feed_66 rfl (lv_at hl 0 rfl) ?_
    refine sn_getI C hw fd_RX9_100 layM_0 rfl dX9_feed_67 ?_
    refine lv_iload hx hb dX9_feed_70 (lv_at hl 1 rfl) ?_
    refine lv_iadd hx hb dX9_feed_72 ?_
    refine lv_aload_n hx hb dX9_feed_73 rfl (lv_at hl 0 rfl) ?_
    refine sn_getC (r := 5) C hw fd_RX9_24 layM_0 rfl dX9_feed_74 ?_
    refine lv_iload hx hb dX9_feed_77 (lv_at hl 1 rfl) ?_
    refine lv_iconst (v := 4) hx hb dX9_feed_79 rfl ?_
    refine lv_idiv hx hb dX9_feed_80 (by decide) ?_
    obtain ⟨g_2, hf⟩ := sn_gdE hf
    refine sn_iald C hw layM_5 g_2 dX9_feed_81 ?_
    refine lv_bipush (v := 24) hx hb dX9_feed_82 (by decide) ?_
    refine lv_bipush (v := 8) hx hb dX9_feed_84 (by decide) ?_
    refine lv_iload hx hb dX9_feed_86 (lv_at hl 1 rfl) ?_
    refine lv_iconst (v := 4) hx hb dX9_feed_88 rfl ?_
    refine lv_irem hx hb dX9_feed_89 (by decide) ?_
    refine lv_imul hx hb dX9_feed_90 ?_
    refine lv_isub hx hb dX9_feed_91 ?_
    refine lv_ishr hx hb dX9_feed_92 ?_
    refine lv_i2b hx hb dX9_feed_93 rfl ?_
    obtain ⟨g_3, hf⟩ := sn_gdE hf
    refine sn_bast C hw layM_4 g_3 dX9_feed_94 (fun H locs hw => ?_)
    obtain ⟨σ_4, e_5, hf⟩ := sn_ltE hf
    rw [← e_5] at hw
    obtain ⟨y_6, e_7, hf⟩ := sn_ltE hf
    refine lv_iinc (v := y_6) (lv' := [(6, .int y_6), (0, .ref (ad 0))]) hx hb dX9_feed_95 hl (k := 1) rfl (by rw [e_7]; rfl) (by decide) rfl (fun ls hl => ?_)
    refine lv_goto (tgt := 55) hx hb dX9_feed_98 (by decide) ?_
    cases hf
    exact kc _ rfl _ _ _ hw (lv_sub hl [1, 0] rfl)
theorem wX9_feed_L55 (C : sn_C p s m args meth c RX9 cX9_feed 7 (some .int) D ct ad layM A)    {z : sn_S × Int32} {t : sn_S} (h : sn_it (LX9_feed_55 ) 5000 z = some t) (kx : ∀ v, t = v → sn_At p l e rmX9_feed s m args below meth c Q D ct ad layM A 7 v 101 [(0, .ref (ad 0))] []) : sn_At p l e rmX9_feed s m args below meth c Q D ct ad layM A 7 z.1 55 [(0, .ref (ad 0)), (6, .int z.2)] [] :=
  sn_loop (f := LX9_feed_55 ) (G := fun z => sn_At p l e rmX9_feed s m args below meth c Q D ct ad layM A 7 z.1 55 [(0, .ref (ad 0)), (6, .int z.2)] []) (E := fun t => (∀ v, t = v → sn_At p l e rmX9_feed s m args below meth c Q D ct ad layM A 7 v 101 [(0, .ref (ad 0))] []) ∧ True) (fun z o hf k1 k2 => wX9_feed_55 C  hf (fun v e => k1 v e) (fun v e => (k2 _ e).1 v rfl)) 5000 z t h ⟨kx, trivial⟩
theorem wX9_feed_in (C : sn_C p s m args meth c RX9 cX9_feed 7 (some .int) D ct ad layM A) {σ : sn_S} {x1 : Int32} {x2 : Int32} {x3 : Int32} {x4 : Int32} {x5 : Int32}  {o : (Int32 × sn_S)} (hf : fX9_feed σ x1 x2 x3 x4 x5 = some o) (kr : sn_Kr p l e rmX9_feed s m args below meth c Q D ct ad layM A cX9_feed .ireturn (true) o.2 [.int o.1]) : sn_At p l e rmX9_feed s m args below meth c Q D ct ad layM A 7 σ 0 [(0, .ref (ad 0)), (1, .int x1), (2, .int x2), (3, .int x3), (4, .int x4), (5, .int x5)] [] := by
  intro H locs ls hw hl
  have hx := C.1
  have hb := C.2.1
  unfold fX9_feed at hf
  refine lv_aload_n hx hb dX9_feed_0 rfl (lv_at hl 0 rfl) ?_
  refine sn_getI C hw fd_RX9_100 layM_0 rfl dX9_feed_1 ?_
  refine lv_bipush (v := 20) hx hb dX9_feed_4 (by decide) ?_
  refine lv_iadd hx hb dX9_feed_6 ?_
  refine lv_sipush (v := 900) hx hb dX9_feed_7 (by decide) ?_
  refine lv_icmp_le (tgt := 15) hx hb dX9_feed_10 (by decide) (fun c_1 => ?_) (fun c_1 => ?_)
  · have hf := sn_if c_1 hf
    refine lv_aload_n hx hb dX9_feed_15 rfl (lv_at hl 0 rfl) ?_
    refine sn_getC (r := 5) C hw fd_RX9_24 layM_0 rfl dX9_feed_16 ?_
    refine lv_iconst (v := 0) hx hb dX9_feed_19 rfl ?_
    refine lv_iload_n hx hb dX9_feed_20 rfl (lv_at hl 1 rfl) ?_
    obtain ⟨g_2, hf⟩ := sn_gdE hf
    refine sn_iast C hw layM_5 g_2 dX9_feed_21 (fun H locs hw => ?_)
    obtain ⟨σ_3, e_4, hf⟩ := sn_ltE hf
    rw [← e_4] at hw
    refine lv_aload_n hx hb dX9_feed_22 rfl (lv_at hl 0 rfl) ?_
    refine sn_getC (r := 5) C hw fd_RX9_24 layM_0 rfl dX9_feed_23 ?_
    refine lv_iconst (v := 1) hx hb dX9_feed_26 rfl ?_
    refine lv_iload_n hx hb dX9_feed_27 rfl (lv_at hl 2 rfl) ?_
    obtain ⟨g_5, hf⟩ := sn_gdE hf
    refine sn_iast C hw layM_5 g_5 dX9_feed_28 (fun H locs hw => ?_)
    obtain ⟨σ_6, e_7, hf⟩ := sn_ltE hf
    rw [← e_7] at hw
    refine lv_aload_n hx hb dX9_feed_29 rfl (lv_at hl 0 rfl) ?_
    refine sn_getC (r := 5) C hw fd_RX9_24 layM_0 rfl dX9_feed_30 ?_
    refine lv_iconst (v := 2) hx hb dX9_feed_33 rfl ?_
    refine lv_iload_n hx hb dX9_feed_34 rfl (lv_at hl 3 rfl) ?_
    obtain ⟨g_8, hf⟩ := sn_gdE hf
    refine sn_iast C hw layM_5 g_8 dX9_feed_35 (fun H locs hw => ?_)
    obtain ⟨σ_9, e_10, hf⟩ := sn_ltE hf
    rw [← e_10] at hw
    refine lv_aload_n hx hb dX9_feed_36 rfl (lv_at hl 0 rfl) ?_
    refine sn_getC (r := 5) C hw fd_RX9_24 layM_0 rfl dX9_feed_37 ?_
    refine lv_iconst (v := 3) hx hb dX9_feed_40 rfl ?_
    refine lv_iload hx hb dX9_feed_41 (lv_at hl 4 rfl) ?_
    obtain ⟨g_11, hf⟩ := sn_gdE hf
    refine sn_iast C hw layM_5 g_11 dX9_feed_43 (fun H locs hw => ?_)
    obtain ⟨σ_12, e_13, hf⟩ := sn_ltE hf
    rw [← e_13] at hw
    refine lv_aload_n hx hb dX9_feed_44 rfl (lv_at hl 0 rfl) ?_
    refine sn_getC (r := 5) C hw fd_RX9_24 layM_0 rfl dX9_feed_45 ?_
    refine lv_iconst (v := 4) hx hb dX9_feed_48 rfl ?_
    refine lv_iload hx hb dX9_feed_49 (lv_at hl 5 rfl) ?_
    obtain ⟨g_14, hf⟩ := sn_gdE hf
    refine sn_iast C hw layM_5 g_14 dX9_feed_51 (fun H locs hw => ?_)
    obtain ⟨σ_15, e_16, hf⟩ := sn_ltE hf
    rw [← e_16] at hw
    refine lv_iconst (v := 0) hx hb dX9_feed_52 rfl ?_
    refine lv_istore (lv' := [(6, .int (0 : Int32)), (0, .ref (ad 0)), (1, .int x1), (2, .int x2), (3, .int x3), (4, .int x4), (5, .int x5)]) hx hb dX9_feed_53 hl (by decide) rfl (fun ls hl => ?_)
    obtain ⟨t_17, h_18, hf⟩ := sn_bd hf
    exact wX9_feed_L55 C  h_18 (fun v e => by cases e; exact wX9_feed_101 C  hf kr) _ _ _ hw (lv_sub hl [1, 0] rfl)
  · have hf := sn_el c_1 hf
    refine lv_iconst (v := (-1)) hx hb dX9_feed_13 rfl ?_
    cases hf
    exact kr _ _ _ _ hw rfl dX9_feed_14
theorem ctX9_feed (l : Launch) {σ : sn_S} {x1 : Int32} {x2 : Int32} {x3 : Int32} {x4 : Int32} {x5 : Int32}  {o : (Int32 × sn_S)} (hf : fX9_feed σ x1 x2 x3 x4 x5 = some o) : sn_M l yX9_feed cX9_feed 7 (some .int) rmX9_feed layM (fun ad => [.ref (ad 0), .int x1, .int x2, .int x3, .int x4, .int x5]) σ (some (fun _ => .int o.1)) o.2 :=
  sn_met (by decide) (fun _ => Nat.le_of_ble_eq_true rfl) (fun p e s m args below meth c ls D ct ad A C hw hl => wX9_feed_in C  hf (fun H locs ls pc hw ok hd => sn_iret C hw hd) _ _ _ hw hl)
-- X9_end
abbrev rmX9_end : Room := { frames := 1, cells := 0, slots := 0, locals := 25 }
def fX9_end (σ : sn_S) (x1 : Int32) : Option (Int32 × sn_S) :=
  ((fX9_in x1.toInt64 (0 : Int64) ((sn_I σ 0 5).toInt64)).bind fun t_1 => (if t_1 = 0 then
  (some ((-1 : Int32), σ))
  else
  (sn_lt (sn_pI σ 0 5 x1) fun σ_4 => (some (x1, σ_4)))))
theorem wX9_end_in (C : sn_C p s m args meth c RX9 cX9_end 2 (some .int) D ct ad layM A) {σ : sn_S} {x1 : Int32}  {o : (Int32 × sn_S)} (hf : fX9_end σ x1 = some o) (kr : sn_Kr p l e rmX9_end s m args below meth c Q D ct ad layM A cX9_end .ireturn (true) o.2 [.int o.1]) : sn_At p l e rmX9_end s m args below meth c Q D ct ad layM A 2 σ 0 [(0, .ref (ad 0)), (1, .int x1)] [] := by
  intro H locs ls hw hl
  have hx := C.1
  have hb := C.2.1
  unfold fX9_end at hf
  refine lv_iload_n hx hb dX9_end_0 rfl (lv_at hl 1 rfl) ?_
  refine lv_i2l hx hb dX9_end_1 rfl ?_
  refine lv_lconst (v := 0) hx hb dX9_end_2 rfl ?_
  refine lv_aload_n hx hb dX9_end_3 rfl (lv_at hl 0 rfl) ?_
  refine sn_getI C hw fd_RX9_100 layM_0 rfl dX9_end_4 ?_
  refine lv_i2l hx hb dX9_end_7 rfl ?_
  obtain ⟨t_1, h_2, hf⟩ := sn_bd hf
  refine sn_callSi (rest := []) C hw (ctX9_in l  h_2) kl_RX9_94 rfl rfl rfl (Nat.le_of_ble_eq_true rfl) dX9_end_8 hl.1 (fun H locs hw => ?_)
  refine lv_if_ne (tgt := 16) hx hb dX9_end_11 (by decide) (fun c_3 => ?_) (fun c_3 => ?_)
  · have hf := sn_el c_3 hf
    refine lv_aload_n hx hb dX9_end_16 rfl (lv_at hl 0 rfl) ?_
    refine lv_iload_n hx hb dX9_end_17 rfl (lv_at hl 1 rfl) ?_
    refine sn_putI C hw fp_RX9_100 layM_0 rfl dX9_end_18 (fun H locs hw => ?_)
    obtain ⟨σ_4, e_5, hf⟩ := sn_ltE hf
    rw [← e_5] at hw
    refine lv_iload_n hx hb dX9_end_21 rfl (lv_at hl 1 rfl) ?_
    cases hf
    exact kr _ _ _ _ hw rfl dX9_end_22
  · have hf := sn_if c_3 hf
    refine lv_iconst (v := (-1)) hx hb dX9_end_14 rfl ?_
    cases hf
    exact kr _ _ _ _ hw rfl dX9_end_15
theorem ctX9_end (l : Launch) {σ : sn_S} {x1 : Int32}  {o : (Int32 × sn_S)} (hf : fX9_end σ x1 = some o) : sn_M l yX9_end cX9_end 2 (some .int) rmX9_end layM (fun ad => [.ref (ad 0), .int x1]) σ (some (fun _ => .int o.1)) o.2 :=
  sn_met (by decide) (fun _ => Nat.le_of_ble_eq_true rfl) (fun p e s m args below meth c ls D ct ad A C hw hl => wX9_end_in C  hf (fun H locs ls pc hw ok hd => sn_iret C hw hd) _ _ _ hw hl)
-- X9_see
abbrev rmX9_see : Room := { frames := 0, cells := 0, slots := 0, locals := 0 }
def fX9_see (σ : sn_S) (x1 : Int32) : Option Int32 :=
  (if (sn_I σ 0 7) ≤ x1 then
  (some (-1 : Int32))
  else
  (sn_gd (sn_in x1 900) (some ((sn_I σ 4 x1.toNatClampNeg) &&& (255 : Int32)))))
theorem wX9_see_in (C : sn_C p s m args meth c RX9 cX9_see 2 (some .int) D ct ad layM A) {σ : sn_S} {x1 : Int32}  {o : Int32} (hf : fX9_see σ x1 = some o) (kr : sn_Kr p l e rmX9_see s m args below meth c Q D ct ad layM A cX9_see .ireturn (true) σ [.int o]) : sn_At p l e rmX9_see s m args below meth c Q D ct ad layM A 2 σ 0 [(0, .ref (ad 0)), (1, .int x1)] [] := by
  intro H locs ls hw hl
  have hx := C.1
  have hb := C.2.1
  unfold fX9_see at hf
  refine lv_iload_n hx hb dX9_see_0 rfl (lv_at hl 1 rfl) ?_
  refine lv_aload_n hx hb dX9_see_1 rfl (lv_at hl 0 rfl) ?_
  refine sn_getI C hw fd_RX9_103 layM_0 rfl dX9_see_2 ?_
  refine lv_icmp_ge (tgt := 21) hx hb dX9_see_5 (by decide) (fun c_1 => ?_) (fun c_1 => ?_)
  · have hf := sn_if c_1 hf
    refine lv_iconst (v := (-1)) hx hb dX9_see_21 rfl ?_
    cases hf
    exact kr _ _ _ _ hw rfl dX9_see_22
  · have hf := sn_el c_1 hf
    refine lv_aload_n hx hb dX9_see_8 rfl (lv_at hl 0 rfl) ?_
    refine sn_getC (r := 4) C hw fd_RX9_20 layM_0 rfl dX9_see_9 ?_
    refine lv_iload_n hx hb dX9_see_12 rfl (lv_at hl 1 rfl) ?_
    obtain ⟨g_2, hf⟩ := sn_gdE hf
    refine sn_bald C hw layM_4 g_2 dX9_see_13 ?_
    refine lv_sipush (v := 255) hx hb dX9_see_14 (by decide) ?_
    refine lv_iand hx hb dX9_see_17 ?_
    refine lv_goto (tgt := 22) hx hb dX9_see_18 (by decide) ?_
    cases hf
    exact kr _ _ _ _ hw rfl dX9_see_22
theorem ctX9_see (l : Launch) {σ : sn_S} {x1 : Int32}  {o : Int32} (hf : fX9_see σ x1 = some o) : sn_M l yX9_see cX9_see 2 (some .int) rmX9_see layM (fun ad => [.ref (ad 0), .int x1]) σ (some (fun _ => .int o)) σ :=
  sn_met (by decide) (fun _ => Nat.le_of_ble_eq_true rfl) (fun p e s m args below meth c ls D ct ad A C hw hl => wX9_see_in C  hf (fun H locs ls pc hw ok hd => sn_iret C hw hd) _ _ _ hw hl)
-- X9_advance
abbrev rmX9_advance : Room := { frames := 1, cells := 0, slots := 0, locals := 32 }
def BX9_advance_226 (σ : sn_S) (t1 : Int32) : Option (sn_S) :=
  (sn_lt (sn_pI σ 0 10 t1) fun σ_1 => (sn_lt (sn_pI σ_1 0 8 ((sn_I σ_1 0 8) + (1 : Int32))) fun σ_3 => (some σ_3)))
def BX9_advance_206 (σ : sn_S) : Option (sn_S) :=
  (sn_lt (sn_pI σ 0 10 (2 : Int32)) fun σ_1 => (some σ_1))
def BX9_advance_144 (σ : sn_S) : Option ((sn_S) ⊕ (sn_S)) :=
  ((fX9_see σ (sn_I σ 0 8)).bind fun t_1 => ((fX9_in t_1.toInt64 (48 : Int64) (57 : Int64)).bind fun t_3 => (if t_3 = 0 then
  (some (.inr (σ)))
  else
  ((fX9_see σ (sn_I σ 0 8)).bind fun t_6 => (sn_lt (if ((((10 : Int32) * (sn_I σ 0 11)) + t_6) - (48 : Int32)) < (99999 : Int32) then ((((10 : Int32) * (sn_I σ 0 11)) + t_6) - (48 : Int32)) else (99999 : Int32)) fun y_8 => (sn_lt (sn_pI σ 0 11 y_8) fun σ_10 => (sn_lt (sn_pI σ_10 0 8 ((sn_I σ_10 0 8) + (1 : Int32))) fun σ_12 => (some (.inl (σ_12))))))))))
def LX9_advance_144  (s : sn_S) : Option ((sn_S) ⊕ (sn_S)) := BX9_advance_144 s
def BX9_advance_117 (σ : sn_S) : Option (sn_S) :=
  (sn_lt (sn_pI σ 0 10 (1 : Int32)) fun σ_1 => (some σ_1))
def BX9_advance_83 (σ : sn_S) : Option ((sn_S) ⊕ (sn_S)) :=
  ((fX9_see σ (sn_I σ 0 8)).bind fun t_1 => ((fX9_in t_1.toInt64 (97 : Int64) (122 : Int64)).bind fun t_3 => (if t_3 = 0 then
  (some (.inr (σ)))
  else
  (sn_lt (sn_pI σ 0 8 ((sn_I σ 0 8) + (1 : Int32))) fun σ_6 => (some (.inl (σ_6)))))))
def LX9_advance_83  (s : sn_S) : Option ((sn_S) ⊕ (sn_S)) := BX9_advance_83 s
def BX9_advance_39 (σ : sn_S) : Option (sn_S) :=
  (sn_lt (sn_pI σ 0 9 (sn_I σ 0 8)) fun σ_1 => ((fX9_see σ_1 (sn_I σ_1 0 8)).bind fun t_3 => (if t_3 = (-1 : Int32) then
  (sn_lt (sn_pI σ_1 0 10 (0 : Int32)) fun σ_19 => (some σ_19))
  else
  ((fX9_in t_3.toInt64 (97 : Int64) (122 : Int64)).bind fun t_6 => (if t_6 = 0 then
  ((fX9_in t_3.toInt64 (48 : Int64) (57 : Int64)).bind fun t_9 => (if t_9 = 0 then
  (if t_3 = (59 : Int32) then
  (BX9_advance_226 σ_1 (3 : Int32))
  else
  (BX9_advance_226 σ_1 (4 : Int32)))
  else
  (sn_lt (sn_pI σ_1 0 11 (0 : Int32)) fun σ_13 => ((sn_it (LX9_advance_144 ) 5000 (σ_13)).bind fun t_15 => (BX9_advance_206 t_15)))))
  else
  ((sn_it (LX9_advance_83 ) 5000 (σ_1)).bind fun t_17 => (BX9_advance_117 t_17)))))))
def BX9_advance_26 (σ : sn_S) : Option ((sn_S) ⊕ (sn_S)) :=
  (sn_lt (sn_pI σ 0 8 ((sn_I σ 0 8) + (1 : Int32))) fun σ_1 => (some (.inl (σ_1))))
def BX9_advance_0 (σ : sn_S) : Option ((sn_S) ⊕ (sn_S)) :=
  ((fX9_see σ (sn_I σ 0 8)).bind fun t_1 => (if t_1 = (32 : Int32) then
  (BX9_advance_26 σ)
  else
  ((fX9_see σ (sn_I σ 0 8)).bind fun t_4 => (if t_4 = (10 : Int32) then
  (BX9_advance_26 σ)
  else
  (some (.inr (σ)))))))
def LX9_advance_0  (s : sn_S) : Option ((sn_S) ⊕ (sn_S)) := BX9_advance_0 s
def fX9_advance (σ : sn_S) : Option sn_S :=
  ((sn_it (LX9_advance_0 ) 5000 (σ)).bind fun t_1 => (BX9_advance_39 t_1))
theorem wX9_advance_226 (C : sn_C p s m args meth c RX9 cX9_advance 2 none D ct ad layM A) {σ : sn_S} {t1 : Int32}  {o : sn_S} (hf : BX9_advance_226 σ t1 = some o) (kr : sn_Kr p l e rmX9_advance s m args below meth c Q D ct ad layM A cX9_advance .return_ (true) o []) : sn_At p l e rmX9_advance s m args below meth c Q D ct ad layM A 2 σ 226 [(0, .ref (ad 0))] [.int t1, .ref (ad 0)] := by
  intro H locs ls hw hl
  have hx := C.1
  have hb := C.2.1
  unfold BX9_advance_226 at hf
  refine sn_putI C hw fp_RX9_116 layM_0 rfl dX9_advance_226 (fun H locs hw => ?_)
  obtain ⟨σ_1, e_2, hf⟩ := sn_ltE hf
  rw [← e_2] at hw
  refine lv_aload_n hx hb dX9_advance_229 rfl (lv_at hl 0 rfl) ?_
  refine lv_dup hx hb dX9_advance_230 rfl ?_
  refine sn_getI C hw fd_RX9_106 layM_0 rfl dX9_advance_231 ?_
  refine lv_iconst (v := 1) hx hb dX9_advance_234 rfl ?_
  refine lv_iadd hx hb dX9_advance_235 ?_
  refine sn_putI C hw fp_RX9_106 layM_0 rfl dX9_advance_236 (fun H locs hw => ?_)
  obtain ⟨σ_3, e_4, hf⟩ := sn_ltE hf
  rw [← e_4] at hw
  cases hf
  exact kr _ _ _ _ hw rfl dX9_advance_239
theorem wX9_advance_206 (C : sn_C p s m args meth c RX9 cX9_advance 2 none D ct ad layM A) {σ : sn_S}  {o : sn_S} (hf : BX9_advance_206 σ = some o) (kr : sn_Kr p l e rmX9_advance s m args below meth c Q D ct ad layM A cX9_advance .return_ (true) o []) : sn_At p l e rmX9_advance s m args below meth c Q D ct ad layM A 2 σ 206 [(0, .ref (ad 0))] [] := by
  intro H locs ls hw hl
  have hx := C.1
  have hb := C.2.1
  unfold BX9_advance_206 at hf
  refine lv_aload_n hx hb dX9_advance_206 rfl (lv_at hl 0 rfl) ?_
  refine lv_iconst (v := 2) hx hb dX9_advance_207 rfl ?_
  refine sn_putI C hw fp_RX9_116 layM_0 rfl dX9_advance_208 (fun H locs hw => ?_)
  obtain ⟨σ_1, e_2, hf⟩ := sn_ltE hf
  rw [← e_2] at hw
  refine lv_goto (tgt := 239) hx hb dX9_advance_211 (by decide) ?_
  cases hf
  exact kr _ _ _ _ hw rfl dX9_advance_239
theorem wX9_advance_144 (C : sn_C p s m args meth c RX9 cX9_advance 2 none D ct ad layM A) {σ : sn_S}  {o : (sn_S) ⊕ (sn_S)} (hf : BX9_advance_144 σ = some o) (kc : ∀ v, o = .inl v → sn_At p l e rmX9_advance s m args below meth c Q D ct ad layM A 2 v 144 [(0, .ref (ad 0))] []) (kx : ∀ v, o = .inr v → sn_At p l e rmX9_advance s m args below meth c Q D ct ad layM A 2 v 206 [(0, .ref (ad 0))] []) : sn_At p l e rmX9_advance s m args below meth c Q D ct ad layM A 2 σ 144 [(0, .ref (ad 0))] [] := by
  intro H locs ls hw hl
  have hx := C.1
  have hb := C.2.1
  unfold BX9_advance_144 at hf
  refine lv_aload_n hx hb dX9_advance_144 rfl (lv_at hl 0 rfl) ?_
  refine lv_aload_n hx hb dX9_advance_145 rfl (lv_at hl 0 rfl) ?_
  refine sn_getI C hw fd_RX9_106 layM_0 rfl dX9_advance_146 ?_
  obtain ⟨t_1, h_2, hf⟩ := sn_bd hf
  refine sn_callVi (rest := []) C hw (ctX9_see l  h_2) kl_RX9_109 layM_0 rfl rfl rfl rfl (Nat.le_of_ble_eq_true rfl) dX9_advance_149 hl.1 (fun H locs hw => ?_)
  refine lv_i2l hx hb dX9_advance_152 rfl ?_
  refine lv_ldc2 hx hb C.2.2.2.1 (C.2.2.2.2.1 _ kk_RX9_123) dX9_advance_153 ?_
  refine lv_ldc2 hx hb C.2.2.2.1 (C.2.2.2.2.1 _ kk_RX9_125) dX9_advance_156 ?_
  obtain ⟨t_3, h_4, hf⟩ := sn_bd hf
  refine sn_callSi (rest := []) C hw (ctX9_in l  h_4) kl_RX9_94 rfl rfl rfl (Nat.le_of_ble_eq_true rfl) dX9_advance_159 hl.1 (fun H locs hw => ?_)
  refine lv_if_eq (tgt := 206) hx hb dX9_advance_162 (by decide) (fun c_5 => ?_) (fun c_5 => ?_)
  · have hf := sn_if c_5 hf
    cases hf
    exact kx _ rfl _ _ _ hw (lv_sub hl [0] rfl)
  · have hf := sn_el c_5 hf
    refine lv_aload_n hx hb dX9_advance_165 rfl (lv_at hl 0 rfl) ?_
    refine lv_ldc hx hb C.2.2.2.1 (C.2.2.2.2.1 _ kk_RX9_130) dX9_advance_166 ?_
    refine lv_bipush (v := 10) hx hb dX9_advance_168 (by decide) ?_
    refine lv_aload_n hx hb dX9_advance_170 rfl (lv_at hl 0 rfl) ?_
    refine sn_getI C hw fd_RX9_127 layM_0 rfl dX9_advance_171 ?_
    refine lv_imul hx hb dX9_advance_174 ?_
    refine lv_aload_n hx hb dX9_advance_175 rfl (lv_at hl 0 rfl) ?_
    refine lv_aload_n hx hb dX9_advance_176 rfl (lv_at hl 0 rfl) ?_
    refine sn_getI C hw fd_RX9_106 layM_0 rfl dX9_advance_177 ?_
    obtain ⟨t_6, h_7, hf⟩ := sn_bd hf
    refine sn_callVi (rest := [.int ((10 : Int32) * (sn_I σ 0 11)), .int (99999 : Int32), .ref (ad 0)]) C hw (ctX9_see l  h_7) kl_RX9_109 layM_0 rfl rfl rfl rfl (Nat.le_of_ble_eq_true rfl) dX9_advance_180 hl.1 (fun H locs hw => ?_)
    refine lv_iadd hx hb dX9_advance_183 ?_
    refine lv_bipush (v := 48) hx hb dX9_advance_184 (by decide) ?_
    refine lv_isub hx hb dX9_advance_186 ?_
    refine va_mmin hx hb (C.2.2.1.trans hl.1.symm) C.2.2.2.1 (C.2.2.2.2.1 _ km_RX9_131) (C.2.2.2.2.1 _ kst_minI) (C.2.2.2.2.1 _ ki_Math) (C.2.2.2.2.1 _ kc_minI) (Nat.le_of_ble_eq_true rfl) (Nat.le_of_ble_eq_true rfl) (Nat.zero_le _) (Nat.zero_le _) dX9_advance_187 ?_
    obtain ⟨y_8, e_9, hf⟩ := sn_ltE hf
    refine lv_topi (fun y_8_ e_9_ => ?_)
    obtain rfl : y_8 = y_8_ := e_9.trans e_9_.symm
    refine sn_putI C hw fp_RX9_127 layM_0 rfl dX9_advance_190 (fun H locs hw => ?_)
    obtain ⟨σ_10, e_11, hf⟩ := sn_ltE hf
    rw [← e_11] at hw
    refine lv_aload_n hx hb dX9_advance_193 rfl (lv_at hl 0 rfl) ?_
    refine lv_dup hx hb dX9_advance_194 rfl ?_
    refine sn_getI C hw fd_RX9_106 layM_0 rfl dX9_advance_195 ?_
    refine lv_iconst (v := 1) hx hb dX9_advance_198 rfl ?_
    refine lv_iadd hx hb dX9_advance_199 ?_
    refine sn_putI C hw fp_RX9_106 layM_0 rfl dX9_advance_200 (fun H locs hw => ?_)
    obtain ⟨σ_12, e_13, hf⟩ := sn_ltE hf
    rw [← e_13] at hw
    refine lv_goto (tgt := 144) hx hb dX9_advance_203 (by decide) ?_
    cases hf
    exact kc _ rfl _ _ _ hw (lv_sub hl [0] rfl)
theorem wX9_advance_L144 (C : sn_C p s m args meth c RX9 cX9_advance 2 none D ct ad layM A)    {z : sn_S} {t : sn_S} (h : sn_it (LX9_advance_144 ) 5000 z = some t) (kx : ∀ v, t = v → sn_At p l e rmX9_advance s m args below meth c Q D ct ad layM A 2 v 206 [(0, .ref (ad 0))] []) : sn_At p l e rmX9_advance s m args below meth c Q D ct ad layM A 2 z 144 [(0, .ref (ad 0))] [] :=
  sn_loop (f := LX9_advance_144 ) (G := fun z => sn_At p l e rmX9_advance s m args below meth c Q D ct ad layM A 2 z 144 [(0, .ref (ad 0))] []) (E := fun t => (∀ v, t = v → sn_At p l e rmX9_advance s m args below meth c Q D ct ad layM A 2 v 206 [(0, .ref (ad 0))] []) ∧ True) (fun z o hf k1 k2 => wX9_advance_144 C  hf (fun v e => k1 v e) (fun v e => (k2 _ e).1 v rfl)) 5000 z t h ⟨kx, trivial⟩
theorem wX9_advance_117 (C : sn_C p s m args meth c RX9 cX9_advance 2 none D ct ad layM A) {σ : sn_S}  {o : sn_S} (hf : BX9_advance_117 σ = some o) (kr : sn_Kr p l e rmX9_advance s m args below meth c Q D ct ad layM A cX9_advance .return_ (true) o []) : sn_At p l e rmX9_advance s m args below meth c Q D ct ad layM A 2 σ 117 [(0, .ref (ad 0))] [] := by
  intro H locs ls hw hl
  have hx := C.1
  have hb := C.2.1
  unfold BX9_advance_117 at hf
  refine lv_aload_n hx hb dX9_advance_117 rfl (lv_at hl 0 rfl) ?_
  refine lv_iconst (v := 1) hx hb dX9_advance_118 rfl ?_
  refine sn_putI C hw fp_RX9_116 layM_0 rfl dX9_advance_119 (fun H locs hw => ?_)
  obtain ⟨σ_1, e_2, hf⟩ := sn_ltE hf
  rw [← e_2] at hw
  refine lv_goto (tgt := 239) hx hb dX9_advance_122 (by decide) ?_
  cases hf
  exact kr _ _ _ _ hw rfl dX9_advance_239
theorem wX9_advance_83 (C : sn_C p s m args meth c RX9 cX9_advance 2 none D ct ad layM A) {σ : sn_S}  {o : (sn_S) ⊕ (sn_S)} (hf : BX9_advance_83 σ = some o) (kc : ∀ v, o = .inl v → sn_At p l e rmX9_advance s m args below meth c Q D ct ad layM A 2 v 83 [(0, .ref (ad 0))] []) (kx : ∀ v, o = .inr v → sn_At p l e rmX9_advance s m args below meth c Q D ct ad layM A 2 v 117 [(0, .ref (ad 0))] []) : sn_At p l e rmX9_advance s m args below meth c Q D ct ad layM A 2 σ 83 [(0, .ref (ad 0))] [] := by
  intro H locs ls hw hl
  have hx := C.1
  have hb := C.2.1
  unfold BX9_advance_83 at hf
  refine lv_aload_n hx hb dX9_advance_83 rfl (lv_at hl 0 rfl) ?_
  refine lv_aload_n hx hb dX9_advance_84 rfl (lv_at hl 0 rfl) ?_
  refine sn_getI C hw fd_RX9_106 layM_0 rfl dX9_advance_85 ?_
  obtain ⟨t_1, h_2, hf⟩ := sn_bd hf
  refine sn_callVi (rest := []) C hw (ctX9_see l  h_2) kl_RX9_109 layM_0 rfl rfl rfl rfl (Nat.le_of_ble_eq_true rfl) dX9_advance_88 hl.1 (fun H locs hw => ?_)
  refine lv_i2l hx hb dX9_advance_91 rfl ?_
  refine lv_ldc2 hx hb C.2.2.2.1 (C.2.2.2.2.1 _ kk_RX9_119) dX9_advance_92 ?_
  refine lv_ldc2 hx hb C.2.2.2.1 (C.2.2.2.2.1 _ kk_RX9_121) dX9_advance_95 ?_
  obtain ⟨t_3, h_4, hf⟩ := sn_bd hf
  refine sn_callSi (rest := []) C hw (ctX9_in l  h_4) kl_RX9_94 rfl rfl rfl (Nat.le_of_ble_eq_true rfl) dX9_advance_98 hl.1 (fun H locs hw => ?_)
  refine lv_if_eq (tgt := 117) hx hb dX9_advance_101 (by decide) (fun c_5 => ?_) (fun c_5 => ?_)
  · have hf := sn_if c_5 hf
    cases hf
    exact kx _ rfl _ _ _ hw (lv_sub hl [0] rfl)
  · have hf := sn_el c_5 hf
    refine lv_aload_n hx hb dX9_advance_104 rfl (lv_at hl 0 rfl) ?_
    refine lv_dup hx hb dX9_advance_105 rfl ?_
    refine sn_getI C hw fd_RX9_106 layM_0 rfl dX9_advance_106 ?_
    refine lv_iconst (v := 1) hx hb dX9_advance_109 rfl ?_
    refine lv_iadd hx hb dX9_advance_110 ?_
    refine sn_putI C hw fp_RX9_106 layM_0 rfl dX9_advance_111 (fun H locs hw => ?_)
    obtain ⟨σ_6, e_7, hf⟩ := sn_ltE hf
    rw [← e_7] at hw
    refine lv_goto (tgt := 83) hx hb dX9_advance_114 (by decide) ?_
    cases hf
    exact kc _ rfl _ _ _ hw (lv_sub hl [0] rfl)
theorem wX9_advance_L83 (C : sn_C p s m args meth c RX9 cX9_advance 2 none D ct ad layM A)    {z : sn_S} {t : sn_S} (h : sn_it (LX9_advance_83 ) 5000 z = some t) (kx : ∀ v, t = v → sn_At p l e rmX9_advance s m args below meth c Q D ct ad layM A 2 v 117 [(0, .ref (ad 0))] []) : sn_At p l e rmX9_advance s m args below meth c Q D ct ad layM A 2 z 83 [(0, .ref (ad 0))] [] :=
  sn_loop (f := LX9_advance_83 ) (G := fun z => sn_At p l e rmX9_advance s m args below meth c Q D ct ad layM A 2 z 83 [(0, .ref (ad 0))] []) (E := fun t => (∀ v, t = v → sn_At p l e rmX9_advance s m args below meth c Q D ct ad layM A 2 v 117 [(0, .ref (ad 0))] []) ∧ True) (fun z o hf k1 k2 => wX9_advance_83 C  hf (fun v e => k1 v e) (fun v e => (k2 _ e).1 v rfl)) 5000 z t h ⟨kx, trivial⟩
theorem wX9_advance_39 (C : sn_C p s m args meth c RX9 cX9_advance 2 none D ct ad layM A) {σ : sn_S}  {o : sn_S} (hf : BX9_advance_39 σ = some o) (kr : sn_Kr p l e rmX9_advance s m args below meth c Q D ct ad layM A cX9_advance .return_ (true) o []) : sn_At p l e rmX9_advance s m args below meth c Q D ct ad layM A 2 σ 39 [(0, .ref (ad 0))] [] := by
  intro H locs ls hw hl
  have hx := C.1
  have hb := C.2.1
  unfold BX9_advance_39 at hf
  refine lv_aload_n hx hb dX9_advance_39 rfl (lv_at hl 0 rfl) ?_
  refine lv_aload_n hx hb dX9_advance_40 rfl (lv_at hl 0 rfl) ?_
  refine sn_getI C hw fd_RX9_106 layM_0 rfl dX9_advance_41 ?_
  refine sn_putI C hw fp_RX9_113 layM_0 rfl dX9_advance_44 (fun H locs hw => ?_)
  obtain ⟨σ_1, e_2, hf⟩ := sn_ltE hf
  rw [← e_2] at hw
  refine lv_aload_n hx hb dX9_advance_47 rfl (lv_at hl 0 rfl) ?_
  refine lv_aload_n hx hb dX9_advance_48 rfl (lv_at hl 0 rfl) ?_
  refine sn_getI C hw fd_RX9_106 layM_0 rfl dX9_advance_49 ?_
  obtain ⟨t_3, h_4, hf⟩ := sn_bd hf
  refine sn_callVi (rest := []) C hw (ctX9_see l  h_4) kl_RX9_109 layM_0 rfl rfl rfl rfl (Nat.le_of_ble_eq_true rfl) dX9_advance_52 hl.1 (fun H locs hw => ?_)
  refine lv_istore_n (lv' := [(1, .int t_3), (0, .ref (ad 0))]) hx hb dX9_advance_55 rfl hl (by decide) rfl (fun ls hl => ?_)
  refine lv_iload_n hx hb dX9_advance_56 rfl (lv_at hl 0 rfl) ?_
  refine lv_iconst (v := (-1)) hx hb dX9_advance_57 rfl ?_
  refine lv_icmp_ne (tgt := 69) hx hb dX9_advance_58 (by decide) (fun c_5 => ?_) (fun c_5 => ?_)
  · have hf := sn_el c_5 hf
    refine lv_iload_n hx hb dX9_advance_69 rfl (lv_at hl 0 rfl) ?_
    refine lv_i2l hx hb dX9_advance_70 rfl ?_
    refine lv_ldc2 hx hb C.2.2.2.1 (C.2.2.2.2.1 _ kk_RX9_119) dX9_advance_71 ?_
    refine lv_ldc2 hx hb C.2.2.2.1 (C.2.2.2.2.1 _ kk_RX9_121) dX9_advance_74 ?_
    obtain ⟨t_6, h_7, hf⟩ := sn_bd hf
    refine sn_callSi (rest := []) C hw (ctX9_in l  h_7) kl_RX9_94 rfl rfl rfl (Nat.le_of_ble_eq_true rfl) dX9_advance_77 hl.1 (fun H locs hw => ?_)
    refine lv_if_eq (tgt := 125) hx hb dX9_advance_80 (by decide) (fun c_8 => ?_) (fun c_8 => ?_)
    · have hf := sn_if c_8 hf
      refine lv_iload_n hx hb dX9_advance_125 rfl (lv_at hl 0 rfl) ?_
      refine lv_i2l hx hb dX9_advance_126 rfl ?_
      refine lv_ldc2 hx hb C.2.2.2.1 (C.2.2.2.2.1 _ kk_RX9_123) dX9_advance_127 ?_
      refine lv_ldc2 hx hb C.2.2.2.1 (C.2.2.2.2.1 _ kk_RX9_125) dX9_advance_130 ?_
      obtain ⟨t_9, h_10, hf⟩ := sn_bd hf
      refine sn_callSi (rest := []) C hw (ctX9_in l  h_10) kl_RX9_94 rfl rfl rfl (Nat.le_of_ble_eq_true rfl) dX9_advance_133 hl.1 (fun H locs hw => ?_)
      refine lv_if_eq (tgt := 214) hx hb dX9_advance_136 (by decide) (fun c_11 => ?_) (fun c_11 => ?_)
      · have hf := sn_if c_11 hf
        refine lv_aload_n hx hb dX9_advance_214 rfl (lv_at hl 1 rfl) ?_
        refine lv_iload_n hx hb dX9_advance_215 rfl (lv_at hl 0 rfl) ?_
        refine lv_bipush (v := 59) hx hb dX9_advance_216 (by decide) ?_
        refine lv_icmp_ne (tgt := 225) hx hb dX9_advance_218 (by decide) (fun c_12 => ?_) (fun c_12 => ?_)
        · have hf := sn_el c_12 hf
          refine lv_iconst (v := 4) hx hb dX9_advance_225 rfl ?_
          exact wX9_advance_226 C  hf kr _ _ _ hw (lv_sub hl [1] rfl)
        · have hf := sn_if c_12 hf
          refine lv_iconst (v := 3) hx hb dX9_advance_221 rfl ?_
          refine lv_goto (tgt := 226) hx hb dX9_advance_222 (by decide) ?_
          exact wX9_advance_226 C  hf kr _ _ _ hw (lv_sub hl [1] rfl)
      · have hf := sn_el c_11 hf
        refine lv_aload_n hx hb dX9_advance_139 rfl (lv_at hl 1 rfl) ?_
        refine lv_iconst (v := 0) hx hb dX9_advance_140 rfl ?_
        refine sn_putI C hw fp_RX9_127 layM_0 rfl dX9_advance_141 (fun H locs hw => ?_)
        obtain ⟨σ_13, e_14, hf⟩ := sn_ltE hf
        rw [← e_14] at hw
        obtain ⟨t_15, h_16, hf⟩ := sn_bd hf
        exact wX9_advance_L144 C  h_16 (fun v e => by cases e; exact wX9_advance_206 C  hf kr) _ _ _ hw (lv_sub hl [1] rfl)
    · have hf := sn_el c_8 hf
      obtain ⟨t_17, h_18, hf⟩ := sn_bd hf
      exact wX9_advance_L83 C  h_18 (fun v e => by cases e; exact wX9_advance_117 C  hf kr) _ _ _ hw (lv_sub hl [1] rfl)
  · have hf := sn_if c_5 hf
    refine lv_aload_n hx hb dX9_advance_61 rfl (lv_at hl 1 rfl) ?_
    refine lv_iconst (v := 0) hx hb dX9_advance_62 rfl ?_
    refine sn_putI C hw fp_RX9_116 layM_0 rfl dX9_advance_63 (fun H locs hw => ?_)
    obtain ⟨σ_19, e_20, hf⟩ := sn_ltE hf
    rw [← e_20] at hw
    refine lv_goto (tgt := 239) hx hb dX9_advance_66 (by decide) ?_
    cases hf
    exact kr _ _ _ _ hw rfl dX9_advance_239
theorem wX9_advance_26 (C : sn_C p s m args meth c RX9 cX9_advance 2 none D ct ad layM A) {σ : sn_S}  {o : (sn_S) ⊕ (sn_S)} (hf : BX9_advance_26 σ = some o) (kc : ∀ v, o = .inl v → sn_At p l e rmX9_advance s m args below meth c Q D ct ad layM A 2 v 0 [(0, .ref (ad 0))] []) (kx : ∀ v, o = .inr v → sn_At p l e rmX9_advance s m args below meth c Q D ct ad layM A 2 v 39 [(0, .ref (ad 0))] []) : sn_At p l e rmX9_advance s m args below meth c Q D ct ad layM A 2 σ 26 [(0, .ref (ad 0))] [] := by
  intro H locs ls hw hl
  have hx := C.1
  have hb := C.2.1
  unfold BX9_advance_26 at hf
  refine lv_aload_n hx hb dX9_advance_26 rfl (lv_at hl 0 rfl) ?_
  refine lv_dup hx hb dX9_advance_27 rfl ?_
  refine sn_getI C hw fd_RX9_106 layM_0 rfl dX9_advance_28 ?_
  refine lv_iconst (v := 1) hx hb dX9_advance_31 rfl ?_
  refine lv_iadd hx hb dX9_advance_32 ?_
  refine sn_putI C hw fp_RX9_106 layM_0 rfl dX9_advance_33 (fun H locs hw => ?_)
  obtain ⟨σ_1, e_2, hf⟩ := sn_ltE hf
  rw [← e_2] at hw
  refine lv_goto (tgt := 0) hx hb dX9_advance_36 (by decide) ?_
  cases hf
  exact kc _ rfl _ _ _ hw (lv_sub hl [0] rfl)
theorem wX9_advance_0 (C : sn_C p s m args meth c RX9 cX9_advance 2 none D ct ad layM A) {σ : sn_S}  {o : (sn_S) ⊕ (sn_S)} (hf : BX9_advance_0 σ = some o) (kc : ∀ v, o = .inl v → sn_At p l e rmX9_advance s m args below meth c Q D ct ad layM A 2 v 0 [(0, .ref (ad 0))] []) (kx : ∀ v, o = .inr v → sn_At p l e rmX9_advance s m args below meth c Q D ct ad layM A 2 v 39 [(0, .ref (ad 0))] []) : sn_At p l e rmX9_advance s m args below meth c Q D ct ad layM A 2 σ 0 [(0, .ref (ad 0))] [] := by
  intro H locs ls hw hl
  have hx := C.1
  have hb := C.2.1
  unfold BX9_advance_0 at hf
  refine lv_aload_n hx hb dX9_advance_0 rfl (lv_at hl 0 rfl) ?_
  refine lv_aload_n hx hb dX9_advance_1 rfl (lv_at hl 0 rfl) ?_
  refine sn_getI C hw fd_RX9_106 layM_0 rfl dX9_advance_2 ?_
  obtain ⟨t_1, h_2, hf⟩ := sn_bd hf
  refine sn_callVi (rest := []) C hw (ctX9_see l  h_2) kl_RX9_109 layM_0 rfl rfl rfl rfl (Nat.le_of_ble_eq_true rfl) dX9_advance_5 hl.1 (fun H locs hw => ?_)
  refine lv_bipush (v := 32) hx hb dX9_advance_8 (by decide) ?_
  refine lv_icmp_eq (tgt := 26) hx hb dX9_advance_10 (by decide) (fun c_3 => ?_) (fun c_3 => ?_)
  · have hf := sn_if c_3 hf
    exact wX9_advance_26 C  hf kc kx _ _ _ hw (lv_sub hl [0] rfl)
  · have hf := sn_el c_3 hf
    refine lv_aload_n hx hb dX9_advance_13 rfl (lv_at hl 0 rfl) ?_
    refine lv_aload_n hx hb dX9_advance_14 rfl (lv_at hl 0 rfl) ?_
    refine sn_getI C hw fd_RX9_106 layM_0 rfl dX9_advance_15 ?_
    obtain ⟨t_4, h_5, hf⟩ := sn_bd hf
    refine sn_callVi (rest := []) C hw (ctX9_see l  h_5) kl_RX9_109 layM_0 rfl rfl rfl rfl (Nat.le_of_ble_eq_true rfl) dX9_advance_18 hl.1 (fun H locs hw => ?_)
    refine lv_bipush (v := 10) hx hb dX9_advance_21 (by decide) ?_
    refine lv_icmp_ne (tgt := 39) hx hb dX9_advance_23 (by decide) (fun c_6 => ?_) (fun c_6 => ?_)
    · have hf := sn_el c_6 hf
      cases hf
      exact kx _ rfl _ _ _ hw (lv_sub hl [0] rfl)
    · have hf := sn_if c_6 hf
      exact wX9_advance_26 C  hf kc kx _ _ _ hw (lv_sub hl [0] rfl)
theorem wX9_advance_L0 (C : sn_C p s m args meth c RX9 cX9_advance 2 none D ct ad layM A)    {z : sn_S} {t : sn_S} (h : sn_it (LX9_advance_0 ) 5000 z = some t) (kx : ∀ v, t = v → sn_At p l e rmX9_advance s m args below meth c Q D ct ad layM A 2 v 39 [(0, .ref (ad 0))] []) : sn_At p l e rmX9_advance s m args below meth c Q D ct ad layM A 2 z 0 [(0, .ref (ad 0))] [] :=
  sn_loop (f := LX9_advance_0 ) (G := fun z => sn_At p l e rmX9_advance s m args below meth c Q D ct ad layM A 2 z 0 [(0, .ref (ad 0))] []) (E := fun t => (∀ v, t = v → sn_At p l e rmX9_advance s m args below meth c Q D ct ad layM A 2 v 39 [(0, .ref (ad 0))] []) ∧ True) (fun z o hf k1 k2 => wX9_advance_0 C  hf (fun v e => k1 v e) (fun v e => (k2 _ e).1 v rfl)) 5000 z t h ⟨kx, trivial⟩
theorem wX9_advance_in (C : sn_C p s m args meth c RX9 cX9_advance 2 none D ct ad layM A) {σ : sn_S}  {o : sn_S} (hf : fX9_advance σ = some o) (kr : sn_Kr p l e rmX9_advance s m args below meth c Q D ct ad layM A cX9_advance .return_ (true) o []) : sn_At p l e rmX9_advance s m args below meth c Q D ct ad layM A 2 σ 0 [(0, .ref (ad 0))] [] := by
  intro H locs ls hw hl
  have hx := C.1
  have hb := C.2.1
  unfold fX9_advance at hf
  obtain ⟨t_1, h_2, hf⟩ := sn_bd hf
  exact wX9_advance_L0 C  h_2 (fun v e => by cases e; exact wX9_advance_39 C  hf kr) _ _ _ hw (lv_sub hl [0] rfl)
theorem ctX9_advance (l : Launch) {σ : sn_S}  {o : sn_S} (hf : fX9_advance σ = some o) : sn_M l yX9_advance cX9_advance 2 none rmX9_advance layM (fun ad => [.ref (ad 0)]) σ none o :=
  sn_met (by decide) (fun _ => Nat.le_of_ble_eq_true rfl) (fun p e s m args below meth c ls D ct ad A C hw hl => wX9_advance_in C  hf (fun H locs ls pc hw ok hd => sn_vret C hw hd) _ _ _ hw hl)
-- X9_good
abbrev rmX9_good : Room := { frames := 0, cells := 0, slots := 0, locals := 0 }
def fX9_good (σ : sn_S) : Option Int32 :=
  (if (sn_I σ 0 12) = 0 then
  (sn_gd (sn_b01 (1 : Int32)) (some (1 : Int32)))
  else
  (sn_gd (sn_b01 (0 : Int32)) (some (0 : Int32))))
theorem wX9_good_in (C : sn_C p s m args meth c RX9 cX9_good 1 (some .boolean) D ct ad layM A) {σ : sn_S}  {o : Int32} (hf : fX9_good σ = some o) (kr : sn_Kr p l e rmX9_good s m args below meth c Q D ct ad layM A cX9_good .ireturn (sn_b01 o) σ [.int o]) : sn_At p l e rmX9_good s m args below meth c Q D ct ad layM A 1 σ 0 [(0, .ref (ad 0))] [] := by
  intro H locs ls hw hl
  have hx := C.1
  have hb := C.2.1
  unfold fX9_good at hf
  refine lv_aload_n hx hb dX9_good_0 rfl (lv_at hl 0 rfl) ?_
  refine sn_getI C hw fd_RX9_137 layM_0 rfl dX9_good_1 ?_
  refine lv_if_ne (tgt := 11) hx hb dX9_good_4 (by decide) (fun c_1 => ?_) (fun c_1 => ?_)
  · have hf := sn_el c_1 hf
    refine lv_iconst (v := 0) hx hb dX9_good_11 rfl ?_
    obtain ⟨g_2, hf⟩ := sn_gdE hf
    cases hf
    exact kr _ _ _ _ hw g_2 dX9_good_12
  · have hf := sn_if c_1 hf
    refine lv_iconst (v := 1) hx hb dX9_good_7 rfl ?_
    refine lv_goto (tgt := 12) hx hb dX9_good_8 (by decide) ?_
    obtain ⟨g_3, hf⟩ := sn_gdE hf
    cases hf
    exact kr _ _ _ _ hw g_3 dX9_good_12
theorem ctX9_good (l : Launch) {σ : sn_S}  {o : Int32} (hf : fX9_good σ = some o) : sn_M l yX9_good cX9_good 1 (some .boolean) rmX9_good layM (fun ad => [.ref (ad 0)]) σ (some (fun _ => .int o)) σ :=
  sn_met (by decide) (fun _ => Nat.le_of_ble_eq_true rfl) (fun p e s m args below meth c ls D ct ad A C hw hl => wX9_good_in C  hf (fun H locs ls pc hw ok hd => sn_zret C hw ok hd) _ _ _ hw hl)
-- X9_errs
abbrev rmX9_errs : Room := { frames := 1, cells := 0, slots := 0, locals := 20 }
def fX9_errs (σ : sn_S) (x1 : Int32) : Option sn_S :=
  ((fX9_good σ).bind fun t_1 => (if t_1 = 0 then
  (some σ)
  else
  (sn_lt (sn_pI σ 0 12 x1) fun σ_4 => (sn_lt (sn_pI σ_4 0 13 (sn_I σ_4 0 9)) fun σ_6 => (some σ_6)))))
theorem wX9_errs_in (C : sn_C p s m args meth c RX9 cX9_errs 2 none D ct ad layM A) {σ : sn_S} {x1 : Int32}  {o : sn_S} (hf : fX9_errs σ x1 = some o) (kr : sn_Kr p l e rmX9_errs s m args below meth c Q D ct ad layM A cX9_errs .return_ (true) o []) : sn_At p l e rmX9_errs s m args below meth c Q D ct ad layM A 2 σ 0 [(0, .ref (ad 0)), (1, .int x1)] [] := by
  intro H locs ls hw hl
  have hx := C.1
  have hb := C.2.1
  unfold fX9_errs at hf
  refine lv_aload_n hx hb dX9_errs_0 rfl (lv_at hl 0 rfl) ?_
  obtain ⟨t_1, h_2, hf⟩ := sn_bd hf
  refine sn_callVi (rest := []) C hw (ctX9_good l  h_2) kl_RX9_140 layM_0 rfl rfl rfl rfl (Nat.le_of_ble_eq_true rfl) dX9_errs_1 hl.1 (fun H locs hw => ?_)
  refine lv_if_ne (tgt := 8) hx hb dX9_errs_4 (by decide) (fun c_3 => ?_) (fun c_3 => ?_)
  · have hf := sn_el c_3 hf
    refine lv_aload_n hx hb dX9_errs_8 rfl (lv_at hl 0 rfl) ?_
    refine lv_iload_n hx hb dX9_errs_9 rfl (lv_at hl 1 rfl) ?_
    refine sn_putI C hw fp_RX9_137 layM_0 rfl dX9_errs_10 (fun H locs hw => ?_)
    obtain ⟨σ_4, e_5, hf⟩ := sn_ltE hf
    rw [← e_5] at hw
    refine lv_aload_n hx hb dX9_errs_13 rfl (lv_at hl 0 rfl) ?_
    refine lv_aload_n hx hb dX9_errs_14 rfl (lv_at hl 0 rfl) ?_
    refine sn_getI C hw fd_RX9_113 layM_0 rfl dX9_errs_15 ?_
    refine sn_putI C hw fp_RX9_27 layM_0 rfl dX9_errs_18 (fun H locs hw => ?_)
    obtain ⟨σ_6, e_7, hf⟩ := sn_ltE hf
    rw [← e_7] at hw
    cases hf
    exact kr _ _ _ _ hw rfl dX9_errs_21
  · have hf := sn_if c_3 hf
    cases hf
    exact kr _ _ _ _ hw rfl dX9_errs_7
theorem ctX9_errs (l : Launch) {σ : sn_S} {x1 : Int32}  {o : sn_S} (hf : fX9_errs σ x1 = some o) : sn_M l yX9_errs cX9_errs 2 none rmX9_errs layM (fun ad => [.ref (ad 0), .int x1]) σ none o :=
  sn_met (by decide) (fun _ => Nat.le_of_ble_eq_true rfl) (fun p e s m args below meth c ls D ct ad A C hw hl => wX9_errs_in C  hf (fun H locs ls pc hw ok hd => sn_vret C hw hd) _ _ _ hw hl)
-- X9_is
abbrev rmX9_is : Room := { frames := 4, cells := 0, slots := 0, locals := 85 }
def BX9_is_82 (σ : sn_S) (k1 : Nat) (x2 : Int32) : Option (Int32) :=
  (sn_gd (sn_b01 x2) (some x2))
def BX9_is_75 (σ : sn_S) (k1 : Nat) (x2 : Int32) (x3 : Int32) (t0 : Int32) : Option ((Int32 × Int32) ⊕ (Int32)) :=
  (sn_lt (x3 + 1) fun y_1 => (some (.inl (t0, y_1))))
def BX9_is_39 (σ : sn_S) (k1 : Nat) (x2 : Int32) (x3 : Int32) : Option ((Int32 × Int32) ⊕ (Int32)) :=
  ((sn_slen k1).bind fun t_1 => (if t_1 ≤ x3 then
  (some (.inr (x2)))
  else
  (if x2 = 0 then
  (some (.inr (x2)))
  else
  (sn_gd (sn_in ((sn_I σ 0 9) + x3) 900) ((sn_sat k1 x3).bind fun t_6 => (if (sn_I σ 4 ((sn_I σ 0 9) + x3).toNatClampNeg) = t_6 then
  (BX9_is_75 σ k1 x2 x3 (1 : Int32))
  else
  (BX9_is_75 σ k1 x2 x3 (0 : Int32))))))))
def LX9_is_39 (σ : sn_S) (k1 : Nat) (s : Int32 × Int32) : Option ((Int32 × Int32) ⊕ (Int32)) := BX9_is_39 σ k1 s.1 s.2
def BX9_is_36 (σ : sn_S) (k1 : Nat) (t0 : Int32) : Option (Int32) :=
  ((sn_it (LX9_is_39 σ k1) 5000 (t0, (0 : Int32))).bind fun t_1 => (BX9_is_82 σ k1 t_1))
def BX9_is_35 (σ : sn_S) (k1 : Nat) : Option (Int32) :=
  (BX9_is_36 σ k1 (0 : Int32))
def fX9_is (σ : sn_S) (k1 : Nat) : Option Int32 :=
  ((fX9_good σ).bind fun t_1 => (if t_1 = 0 then
  (BX9_is_35 σ k1)
  else
  (if (sn_I σ 0 10) = (1 : Int32) then
  ((sn_slen k1).bind fun t_5 => (if ((sn_I σ 0 8) - (sn_I σ 0 9)) = t_5 then
  (BX9_is_36 σ k1 (1 : Int32))
  else
  (BX9_is_35 σ k1)))
  else
  (BX9_is_35 σ k1))))
theorem wX9_is_82 (C : sn_C p s m args meth c RX9 cX9_is 4 (some .boolean) D ct ad layM A) {σ : sn_S} {k1 : Nat} {x2 : Int32}  {o : Int32} (hf : BX9_is_82 σ k1 x2 = some o) (kr : sn_Kr p l e rmX9_is s m args below meth c Q D ct ad layM A cX9_is .ireturn (sn_b01 o) σ [.int o]) : sn_At p l e rmX9_is s m args below meth c Q D ct ad layM A 4 σ 82 [(2, .int x2)] [] := by
  intro H locs ls hw hl
  have hx := C.1
  have hb := C.2.1
  unfold BX9_is_82 at hf
  refine lv_iload_n hx hb dX9_is_82 rfl (lv_at hl 0 rfl) ?_
  obtain ⟨g_1, hf⟩ := sn_gdE hf
  cases hf
  exact kr _ _ _ _ hw g_1 dX9_is_83
theorem wX9_is_75 (C : sn_C p s m args meth c RX9 cX9_is 4 (some .boolean) D ct ad layM A) {σ : sn_S} {k1 : Nat} {x2 : Int32} {x3 : Int32} {t0 : Int32}  {o : (Int32 × Int32) ⊕ (Int32)} (hf : BX9_is_75 σ k1 x2 x3 t0 = some o) (kc : ∀ v, o = .inl v → sn_At p l e rmX9_is s m args below meth c Q D ct ad layM A 4 σ 39 [(0, .ref (ad 0)), (1, .ref (ad (1000 + k1))), (2, .int v.1), (3, .int v.2)] []) (kx : ∀ v, o = .inr v → sn_At p l e rmX9_is s m args below meth c Q D ct ad layM A 4 σ 82 [(2, .int v)] []) : sn_At p l e rmX9_is s m args below meth c Q D ct ad layM A 4 σ 75 [(0, .ref (ad 0)), (1, .ref (ad (1000 + k1))), (2, .int x2), (3, .int x3)] [.int t0] := by
  intro H locs ls hw hl
  have hx := C.1
  have hb := C.2.1
  unfold BX9_is_75 at hf
  refine lv_istore_n (lv' := [(2, .int t0), (0, .ref (ad 0)), (1, .ref (ad (1000 + k1))), (3, .int x3)]) hx hb dX9_is_75 rfl hl (by decide) rfl (fun ls hl => ?_)
  obtain ⟨y_1, e_2, hf⟩ := sn_ltE hf
  refine lv_iinc (v := y_1) (lv' := [(3, .int y_1), (2, .int t0), (0, .ref (ad 0)), (1, .ref (ad (1000 + k1)))]) hx hb dX9_is_76 hl (k := 3) rfl (by rw [e_2]; rfl) (by decide) rfl (fun ls hl => ?_)
  refine lv_goto (tgt := 39) hx hb dX9_is_79 (by decide) ?_
  cases hf
  exact kc _ rfl _ _ _ hw (lv_sub hl [2, 3, 1, 0] rfl)
theorem wX9_is_39 (C : sn_C p s m args meth c RX9 cX9_is 4 (some .boolean) D ct ad layM A) {σ : sn_S} {k1 : Nat} {x2 : Int32} {x3 : Int32}  {o : (Int32 × Int32) ⊕ (Int32)} (hf : BX9_is_39 σ k1 x2 x3 = some o) (kc : ∀ v, o = .inl v → sn_At p l e rmX9_is s m args below meth c Q D ct ad layM A 4 σ 39 [(0, .ref (ad 0)), (1, .ref (ad (1000 + k1))), (2, .int v.1), (3, .int v.2)] []) (kx : ∀ v, o = .inr v → sn_At p l e rmX9_is s m args below meth c Q D ct ad layM A 4 σ 82 [(2, .int v)] []) : sn_At p l e rmX9_is s m args below meth c Q D ct ad layM A 4 σ 39 [(0, .ref (ad 0)), (1, .ref (ad (1000 + k1))), (2, .int x2), (3, .int x3)] [] := by
  intro H locs ls hw hl
  have hx := C.1
  have hb := C.2.1
  unfold BX9_is_39 at hf
  refine lv_iload_n hx hb dX9_is_39 rfl (lv_at hl 3 rfl) ?_
  refine lv_aload_n hx hb dX9_is_40 rfl (lv_at hl 1 rfl) ?_
  obtain ⟨t_1, h_2, hf⟩ := sn_bd hf
  refine sn_strlen (rest := [.int x3]) C hw h_2 kl_RX9_144 rfl (Nat.le_of_ble_eq_true rfl) dX9_is_41 hl.1 (fun H locs hw => ?_)
  refine lv_icmp_ge (tgt := 82) hx hb dX9_is_44 (by decide) (fun c_3 => ?_) (fun c_3 => ?_)
  · have hf := sn_if c_3 hf
    cases hf
    exact kx _ rfl _ _ _ hw (lv_sub hl [2] rfl)
  · have hf := sn_el c_3 hf
    refine lv_iload_n hx hb dX9_is_47 rfl (lv_at hl 2 rfl) ?_
    refine lv_if_eq (tgt := 82) hx hb dX9_is_48 (by decide) (fun c_4 => ?_) (fun c_4 => ?_)
    · have hf := sn_if c_4 hf
      cases hf
      exact kx _ rfl _ _ _ hw (lv_sub hl [2] rfl)
    · have hf := sn_el c_4 hf
      refine lv_aload_n hx hb dX9_is_51 rfl (lv_at hl 0 rfl) ?_
      refine sn_getC (r := 4) C hw fd_RX9_20 layM_0 rfl dX9_is_52 ?_
      refine lv_aload_n hx hb dX9_is_55 rfl (lv_at hl 0 rfl) ?_
      refine sn_getI C hw fd_RX9_113 layM_0 rfl dX9_is_56 ?_
      refine lv_iload_n hx hb dX9_is_59 rfl (lv_at hl 3 rfl) ?_
      refine lv_iadd hx hb dX9_is_60 ?_
      obtain ⟨g_5, hf⟩ := sn_gdE hf
      refine sn_bald C hw layM_4 g_5 dX9_is_61 ?_
      refine lv_aload_n hx hb dX9_is_62 rfl (lv_at hl 1 rfl) ?_
      refine lv_iload_n hx hb dX9_is_63 rfl (lv_at hl 3 rfl) ?_
      obtain ⟨t_6, h_7, hf⟩ := sn_bd hf
      refine sn_strat (rest := [.int (sn_I σ 4 ((sn_I σ 0 9) + x3).toNatClampNeg)]) C hw h_7 kl_RX9_150 rfl (Nat.le_of_ble_eq_true rfl) dX9_is_64 hl.1 (fun H locs hw => ?_)
      refine lv_icmp_ne (tgt := 74) hx hb dX9_is_67 (by decide) (fun c_8 => ?_) (fun c_8 => ?_)
      · have hf := sn_el c_8 hf
        refine lv_iconst (v := 0) hx hb dX9_is_74 rfl ?_
        exact wX9_is_75 C  hf kc kx _ _ _ hw (lv_sub hl [0, 1, 2, 3] rfl)
      · have hf := sn_if c_8 hf
        refine lv_iconst (v := 1) hx hb dX9_is_70 rfl ?_
        refine lv_goto (tgt := 75) hx hb dX9_is_71 (by decide) ?_
        exact wX9_is_75 C  hf kc kx _ _ _ hw (lv_sub hl [0, 1, 2, 3] rfl)
theorem wX9_is_L39 (C : sn_C p s m args meth c RX9 cX9_is 4 (some .boolean) D ct ad layM A) {σ : sn_S} {k1 : Nat}   {z : Int32 × Int32} {t : Int32} (h : sn_it (LX9_is_39 σ k1) 5000 z = some t) (kx : ∀ v, t = v → sn_At p l e rmX9_is s m args below meth c Q D ct ad layM A 4 σ 82 [(2, .int v)] []) : sn_At p l e rmX9_is s m args below meth c Q D ct ad layM A 4 σ 39 [(0, .ref (ad 0)), (1, .ref (ad (1000 + k1))), (2, .int z.1), (3, .int z.2)] [] :=
  sn_loop (f := LX9_is_39 σ k1) (G := fun z => sn_At p l e rmX9_is s m args below meth c Q D ct ad layM A 4 σ 39 [(0, .ref (ad 0)), (1, .ref (ad (1000 + k1))), (2, .int z.1), (3, .int z.2)] []) (E := fun t => (∀ v, t = v → sn_At p l e rmX9_is s m args below meth c Q D ct ad layM A 4 σ 82 [(2, .int v)] []) ∧ True) (fun z o hf k1 k2 => wX9_is_39 C  hf (fun v e => k1 v e) (fun v e => (k2 _ e).1 v rfl)) 5000 z t h ⟨kx, trivial⟩
theorem wX9_is_36 (C : sn_C p s m args meth c RX9 cX9_is 4 (some .boolean) D ct ad layM A) {σ : sn_S} {k1 : Nat} {t0 : Int32}  {o : Int32} (hf : BX9_is_36 σ k1 t0 = some o) (kr : sn_Kr p l e rmX9_is s m args below meth c Q D ct ad layM A cX9_is .ireturn (sn_b01 o) σ [.int o]) : sn_At p l e rmX9_is s m args below meth c Q D ct ad layM A 4 σ 36 [(0, .ref (ad 0)), (1, .ref (ad (1000 + k1)))] [.int t0] := by
  intro H locs ls hw hl
  have hx := C.1
  have hb := C.2.1
  unfold BX9_is_36 at hf
  refine lv_istore_n (lv' := [(2, .int t0), (0, .ref (ad 0)), (1, .ref (ad (1000 + k1)))]) hx hb dX9_is_36 rfl hl (by decide) rfl (fun ls hl => ?_)
  refine lv_iconst (v := 0) hx hb dX9_is_37 rfl ?_
  refine lv_istore_n (lv' := [(3, .int (0 : Int32)), (2, .int t0), (0, .ref (ad 0)), (1, .ref (ad (1000 + k1)))]) hx hb dX9_is_38 rfl hl (by decide) rfl (fun ls hl => ?_)
  obtain ⟨t_1, h_2, hf⟩ := sn_bd hf
  exact wX9_is_L39 C  h_2 (fun v e => by cases e; exact wX9_is_82 C  hf kr) _ _ _ hw (lv_sub hl [2, 3, 1, 0] rfl)
theorem wX9_is_35 (C : sn_C p s m args meth c RX9 cX9_is 4 (some .boolean) D ct ad layM A) {σ : sn_S} {k1 : Nat}  {o : Int32} (hf : BX9_is_35 σ k1 = some o) (kr : sn_Kr p l e rmX9_is s m args below meth c Q D ct ad layM A cX9_is .ireturn (sn_b01 o) σ [.int o]) : sn_At p l e rmX9_is s m args below meth c Q D ct ad layM A 4 σ 35 [(0, .ref (ad 0)), (1, .ref (ad (1000 + k1)))] [] := by
  intro H locs ls hw hl
  have hx := C.1
  have hb := C.2.1
  unfold BX9_is_35 at hf
  refine lv_iconst (v := 0) hx hb dX9_is_35 rfl ?_
  exact wX9_is_36 C  hf kr _ _ _ hw (lv_sub hl [0, 1] rfl)
theorem wX9_is_in (C : sn_C p s m args meth c RX9 cX9_is 4 (some .boolean) D ct ad layM A) {σ : sn_S} {k1 : Nat}  {o : Int32} (hf : fX9_is σ k1 = some o) (kr : sn_Kr p l e rmX9_is s m args below meth c Q D ct ad layM A cX9_is .ireturn (sn_b01 o) σ [.int o]) : sn_At p l e rmX9_is s m args below meth c Q D ct ad layM A 4 σ 0 [(0, .ref (ad 0)), (1, .ref (ad (1000 + k1)))] [] := by
  intro H locs ls hw hl
  have hx := C.1
  have hb := C.2.1
  unfold fX9_is at hf
  refine lv_aload_n hx hb dX9_is_0 rfl (lv_at hl 0 rfl) ?_
  obtain ⟨t_1, h_2, hf⟩ := sn_bd hf
  refine sn_callVi (rest := []) C hw (ctX9_good l  h_2) kl_RX9_140 layM_0 rfl rfl rfl rfl (Nat.le_of_ble_eq_true rfl) dX9_is_1 hl.1 (fun H locs hw => ?_)
  refine lv_if_eq (tgt := 35) hx hb dX9_is_4 (by decide) (fun c_3 => ?_) (fun c_3 => ?_)
  · have hf := sn_if c_3 hf
    exact wX9_is_35 C  hf kr _ _ _ hw (lv_sub hl [0, 1] rfl)
  · have hf := sn_el c_3 hf
    refine lv_aload_n hx hb dX9_is_7 rfl (lv_at hl 0 rfl) ?_
    refine sn_getI C hw fd_RX9_116 layM_0 rfl dX9_is_8 ?_
    refine lv_iconst (v := 1) hx hb dX9_is_11 rfl ?_
    refine lv_icmp_ne (tgt := 35) hx hb dX9_is_12 (by decide) (fun c_4 => ?_) (fun c_4 => ?_)
    · have hf := sn_el c_4 hf
      exact wX9_is_35 C  hf kr _ _ _ hw (lv_sub hl [0, 1] rfl)
    · have hf := sn_if c_4 hf
      refine lv_aload_n hx hb dX9_is_15 rfl (lv_at hl 0 rfl) ?_
      refine sn_getI C hw fd_RX9_106 layM_0 rfl dX9_is_16 ?_
      refine lv_aload_n hx hb dX9_is_19 rfl (lv_at hl 0 rfl) ?_
      refine sn_getI C hw fd_RX9_113 layM_0 rfl dX9_is_20 ?_
      refine lv_isub hx hb dX9_is_23 ?_
      refine lv_aload_n hx hb dX9_is_24 rfl (lv_at hl 1 rfl) ?_
      obtain ⟨t_5, h_6, hf⟩ := sn_bd hf
      refine sn_strlen (rest := [.int ((sn_I σ 0 8) - (sn_I σ 0 9))]) C hw h_6 kl_RX9_144 rfl (Nat.le_of_ble_eq_true rfl) dX9_is_25 hl.1 (fun H locs hw => ?_)
      refine lv_icmp_ne (tgt := 35) hx hb dX9_is_28 (by decide) (fun c_7 => ?_) (fun c_7 => ?_)
      · have hf := sn_el c_7 hf
        exact wX9_is_35 C  hf kr _ _ _ hw (lv_sub hl [0, 1] rfl)
      · have hf := sn_if c_7 hf
        refine lv_iconst (v := 1) hx hb dX9_is_31 rfl ?_
        refine lv_goto (tgt := 36) hx hb dX9_is_32 (by decide) ?_
        exact wX9_is_36 C  hf kr _ _ _ hw (lv_sub hl [0, 1] rfl)
theorem ctX9_is (l : Launch) {σ : sn_S} {k1 : Nat}  {o : Int32} (hf : fX9_is σ k1 = some o) : sn_M l yX9_is cX9_is 4 (some .boolean) rmX9_is layM (fun ad => [.ref (ad 0), .ref (ad (1000 + k1))]) σ (some (fun _ => .int o)) σ :=
  sn_met (by decide) (fun _ => Nat.le_of_ble_eq_true rfl) (fun p e s m args below meth c ls D ct ad A C hw hl => wX9_is_in C  hf (fun H locs ls pc hw ok hd => sn_zret C hw ok hd) _ _ _ hw hl)
-- X9_takes
abbrev rmX9_takes : Room := { frames := 5, cells := 0, slots := 0, locals := 108 }
def fX9_takes (σ : sn_S) (k1 : Nat) : Option (Int32 × sn_S) :=
  ((fX9_is σ k1).bind fun t_1 => (if t_1 = 0 then
  (sn_gd (sn_b01 t_1) (some (t_1, σ)))
  else
  ((fX9_advance σ).bind fun t_5 => (sn_gd (sn_b01 t_1) (some (t_1, t_5))))))
theorem wX9_takes_in (C : sn_C p s m args meth c RX9 cX9_takes 3 (some .boolean) D ct ad layM A) {σ : sn_S} {k1 : Nat}  {o : (Int32 × sn_S)} (hf : fX9_takes σ k1 = some o) (kr : sn_Kr p l e rmX9_takes s m args below meth c Q D ct ad layM A cX9_takes .ireturn (sn_b01 o.1) o.2 [.int o.1]) : sn_At p l e rmX9_takes s m args below meth c Q D ct ad layM A 3 σ 0 [(0, .ref (ad 0)), (1, .ref (ad (1000 + k1)))] [] := by
  intro H locs ls hw hl
  have hx := C.1
  have hb := C.2.1
  unfold fX9_takes at hf
  refine lv_aload_n hx hb dX9_takes_0 rfl (lv_at hl 0 rfl) ?_
  refine lv_aload_n hx hb dX9_takes_1 rfl (lv_at hl 1 rfl) ?_
  obtain ⟨t_1, h_2, hf⟩ := sn_bd hf
  refine sn_callVi (rest := []) C hw (ctX9_is l  h_2) kl_RX9_154 layM_0 rfl rfl rfl rfl (Nat.le_of_ble_eq_true rfl) dX9_takes_2 hl.1 (fun H locs hw => ?_)
  refine lv_istore_n (lv' := [(2, .int t_1), (0, .ref (ad 0)), (1, .ref (ad (1000 + k1)))]) hx hb dX9_takes_5 rfl hl (by decide) rfl (fun ls hl => ?_)
  refine lv_iload_n hx hb dX9_takes_6 rfl (lv_at hl 0 rfl) ?_
  refine lv_if_eq (tgt := 14) hx hb dX9_takes_7 (by decide) (fun c_3 => ?_) (fun c_3 => ?_)
  · have hf := sn_if c_3 hf
    refine lv_iload_n hx hb dX9_takes_14 rfl (lv_at hl 0 rfl) ?_
    obtain ⟨g_4, hf⟩ := sn_gdE hf
    cases hf
    exact kr _ _ _ _ hw g_4 dX9_takes_15
  · have hf := sn_el c_3 hf
    refine lv_aload_n hx hb dX9_takes_10 rfl (lv_at hl 1 rfl) ?_
    obtain ⟨t_5, h_6, hf⟩ := sn_bd hf
    refine sn_callVv (rest := []) C hw (ctX9_advance l  h_6) kl_RX9_158 layM_0 rfl rfl rfl rfl (Nat.le_of_ble_eq_true rfl) dX9_takes_11 hl.1 (fun H locs hw => ?_)
    refine lv_iload_n hx hb dX9_takes_14 rfl (lv_at hl 0 rfl) ?_
    obtain ⟨g_7, hf⟩ := sn_gdE hf
    cases hf
    exact kr _ _ _ _ hw g_7 dX9_takes_15
theorem ctX9_takes (l : Launch) {σ : sn_S} {k1 : Nat}  {o : (Int32 × sn_S)} (hf : fX9_takes σ k1 = some o) : sn_M l yX9_takes cX9_takes 3 (some .boolean) rmX9_takes layM (fun ad => [.ref (ad 0), .ref (ad (1000 + k1))]) σ (some (fun _ => .int o.1)) o.2 :=
  sn_met (by decide) (fun _ => Nat.le_of_ble_eq_true rfl) (fun p e s m args below meth c ls D ct ad A C hw hl => wX9_takes_in C  hf (fun H locs ls pc hw ok hd => sn_zret C hw ok hd) _ _ _ hw hl)
-- X9_needs
abbrev rmX9_needs : Room := { frames := 6, cells := 0, slots := 0, locals := 130 }
def fX9_needs (σ : sn_S) (k1 : Nat) : Option sn_S :=
  ((fX9_takes σ k1).bind fun t_1 => (if t_1.1 = 0 then
  ((fX9_errs t_1.2 (1 : Int32)).bind fun t_4 => (some t_4))
  else
  (some t_1.2)))
theorem wX9_needs_in (C : sn_C p s m args meth c RX9 cX9_needs 2 none D ct ad layM A) {σ : sn_S} {k1 : Nat}  {o : sn_S} (hf : fX9_needs σ k1 = some o) (kr : sn_Kr p l e rmX9_needs s m args below meth c Q D ct ad layM A cX9_needs .return_ (true) o []) : sn_At p l e rmX9_needs s m args below meth c Q D ct ad layM A 2 σ 0 [(0, .ref (ad 0)), (1, .ref (ad (1000 + k1)))] [] := by
  intro H locs ls hw hl
  have hx := C.1
  have hb := C.2.1
  unfold fX9_needs at hf
  refine lv_aload_n hx hb dX9_needs_0 rfl (lv_at hl 0 rfl) ?_
  refine lv_aload_n hx hb dX9_needs_1 rfl (lv_at hl 1 rfl) ?_
  obtain ⟨t_1, h_2, hf⟩ := sn_bd hf
  refine sn_callVi (rest := []) C hw (ctX9_takes l  h_2) kl_RX9_161 layM_0 rfl rfl rfl rfl (Nat.le_of_ble_eq_true rfl) dX9_needs_2 hl.1 (fun H locs hw => ?_)
  refine lv_if_ne (tgt := 13) hx hb dX9_needs_5 (by decide) (fun c_3 => ?_) (fun c_3 => ?_)
  · have hf := sn_el c_3 hf
    cases hf
    exact kr _ _ _ _ hw rfl dX9_needs_13
  · have hf := sn_if c_3 hf
    refine lv_aload_n hx hb dX9_needs_8 rfl (lv_at hl 0 rfl) ?_
    refine lv_iconst (v := 1) hx hb dX9_needs_9 rfl ?_
    obtain ⟨t_4, h_5, hf⟩ := sn_bd hf
    refine sn_callVv (rest := []) C hw (ctX9_errs l  h_5) kl_RX9_164 layM_0 rfl rfl rfl rfl (Nat.le_of_ble_eq_true rfl) dX9_needs_10 hl.1 (fun H locs hw => ?_)
    cases hf
    exact kr _ _ _ _ hw rfl dX9_needs_13
theorem ctX9_needs (l : Launch) {σ : sn_S} {k1 : Nat}  {o : sn_S} (hf : fX9_needs σ k1 = some o) : sn_M l yX9_needs cX9_needs 2 none rmX9_needs layM (fun ad => [.ref (ad 0), .ref (ad (1000 + k1))]) σ none o :=
  sn_met (by decide) (fun _ => Nat.le_of_ble_eq_true rfl) (fun p e s m args below meth c ls D ct ad A C hw hl => wX9_needs_in C  hf (fun H locs ls pc hw ok hd => sn_vret C hw hd) _ _ _ hw hl)
-- X9_number
abbrev rmX9_number : Room := { frames := 2, cells := 0, slots := 0, locals := 53 }
def BX9_number_47 (σ : sn_S) : Option ((Int32 × sn_S)) :=
  ((fX9_good σ).bind fun t_1 => (if t_1 = 0 then
  (some ((0 : Int32), σ))
  else
  (sn_lt (sn_I σ 0 11) fun y_4 => ((fX9_advance σ).bind fun t_6 => (some (y_4, t_6))))))
def BX9_number_20 (σ : sn_S) (x1 : Int32) (x2 : Int32) : Option ((Int32 × sn_S)) :=
  ((fX9_good σ).bind fun t_1 => (if t_1 = 0 then
  (BX9_number_47 σ)
  else
  ((fX9_in ((sn_I σ 0 11).toInt64) x1.toInt64 x2.toInt64).bind fun t_4 => (if t_4 = 0 then
  ((fX9_errs σ (2 : Int32)).bind fun t_7 => (BX9_number_47 t_7))
  else
  (BX9_number_47 σ)))))
def fX9_number (σ : sn_S) (x1 : Int32) (x2 : Int32) : Option (Int32 × sn_S) :=
  ((fX9_good σ).bind fun t_1 => (if t_1 = 0 then
  (BX9_number_20 σ x1 x2)
  else
  (if (sn_I σ 0 10) = (2 : Int32) then
  (BX9_number_20 σ x1 x2)
  else
  ((fX9_errs σ (1 : Int32)).bind fun t_5 => (BX9_number_20 t_5 x1 x2)))))
theorem wX9_number_47 (C : sn_C p s m args meth c RX9 cX9_number 4 (some .int) D ct ad layM A) {σ : sn_S}  {o : (Int32 × sn_S)} (hf : BX9_number_47 σ = some o) (kr : sn_Kr p l e rmX9_number s m args below meth c Q D ct ad layM A cX9_number .ireturn (true) o.2 [.int o.1]) : sn_At p l e rmX9_number s m args below meth c Q D ct ad layM A 4 σ 47 [(0, .ref (ad 0))] [] := by
  intro H locs ls hw hl
  have hx := C.1
  have hb := C.2.1
  unfold BX9_number_47 at hf
  refine lv_aload_n hx hb dX9_number_47 rfl (lv_at hl 0 rfl) ?_
  obtain ⟨t_1, h_2, hf⟩ := sn_bd hf
  refine sn_callVi (rest := []) C hw (ctX9_good l  h_2) kl_RX9_140 layM_0 rfl rfl rfl rfl (Nat.le_of_ble_eq_true rfl) dX9_number_48 hl.1 (fun H locs hw => ?_)
  refine lv_if_ne (tgt := 56) hx hb dX9_number_51 (by decide) (fun c_3 => ?_) (fun c_3 => ?_)
  · have hf := sn_el c_3 hf
    refine lv_aload_n hx hb dX9_number_56 rfl (lv_at hl 0 rfl) ?_
    refine sn_getI C hw fd_RX9_127 layM_0 rfl dX9_number_57 ?_
    obtain ⟨y_4, e_5, hf⟩ := sn_ltE hf
    refine lv_topi (fun y_4_ e_5_ => ?_)
    obtain rfl : y_4 = y_4_ := e_5.trans e_5_.symm
    refine lv_istore_n (lv' := [(3, .int y_4), (0, .ref (ad 0))]) hx hb dX9_number_60 rfl hl (by decide) rfl (fun ls hl => ?_)
    refine lv_aload_n hx hb dX9_number_61 rfl (lv_at hl 1 rfl) ?_
    obtain ⟨t_6, h_7, hf⟩ := sn_bd hf
    refine sn_callVv (rest := []) C hw (ctX9_advance l  h_7) kl_RX9_158 layM_0 rfl rfl rfl rfl (Nat.le_of_ble_eq_true rfl) dX9_number_62 hl.1 (fun H locs hw => ?_)
    refine lv_iload_n hx hb dX9_number_65 rfl (lv_at hl 0 rfl) ?_
    cases hf
    exact kr _ _ _ _ hw rfl dX9_number_66
  · have hf := sn_if c_3 hf
    refine lv_iconst (v := 0) hx hb dX9_number_54 rfl ?_
    cases hf
    exact kr _ _ _ _ hw rfl dX9_number_55
theorem wX9_number_20 (C : sn_C p s m args meth c RX9 cX9_number 4 (some .int) D ct ad layM A) {σ : sn_S} {x1 : Int32} {x2 : Int32}  {o : (Int32 × sn_S)} (hf : BX9_number_20 σ x1 x2 = some o) (kr : sn_Kr p l e rmX9_number s m args below meth c Q D ct ad layM A cX9_number .ireturn (true) o.2 [.int o.1]) : sn_At p l e rmX9_number s m args below meth c Q D ct ad layM A 4 σ 20 [(0, .ref (ad 0)), (1, .int x1), (2, .int x2)] [] := by
  intro H locs ls hw hl
  have hx := C.1
  have hb := C.2.1
  unfold BX9_number_20 at hf
  refine lv_aload_n hx hb dX9_number_20 rfl (lv_at hl 0 rfl) ?_
  obtain ⟨t_1, h_2, hf⟩ := sn_bd hf
  refine sn_callVi (rest := []) C hw (ctX9_good l  h_2) kl_RX9_140 layM_0 rfl rfl rfl rfl (Nat.le_of_ble_eq_true rfl) dX9_number_21 hl.1 (fun H locs hw => ?_)
  refine lv_if_eq (tgt := 47) hx hb dX9_number_24 (by decide) (fun c_3 => ?_) (fun c_3 => ?_)
  · have hf := sn_if c_3 hf
    exact wX9_number_47 C  hf kr _ _ _ hw (lv_sub hl [0] rfl)
  · have hf := sn_el c_3 hf
    refine lv_aload_n hx hb dX9_number_27 rfl (lv_at hl 0 rfl) ?_
    refine sn_getI C hw fd_RX9_127 layM_0 rfl dX9_number_28 ?_
    refine lv_i2l hx hb dX9_number_31 rfl ?_
    refine lv_iload_n hx hb dX9_number_32 rfl (lv_at hl 1 rfl) ?_
    refine lv_i2l hx hb dX9_number_33 rfl ?_
    refine lv_iload_n hx hb dX9_number_34 rfl (lv_at hl 2 rfl) ?_
    refine lv_i2l hx hb dX9_number_35 rfl ?_
    obtain ⟨t_4, h_5, hf⟩ := sn_bd hf
    refine sn_callSi (rest := []) C hw (ctX9_in l  h_5) kl_RX9_94 rfl rfl rfl (Nat.le_of_ble_eq_true rfl) dX9_number_36 hl.1 (fun H locs hw => ?_)
    refine lv_if_ne (tgt := 47) hx hb dX9_number_39 (by decide) (fun c_6 => ?_) (fun c_6 => ?_)
    · have hf := sn_el c_6 hf
      exact wX9_number_47 C  hf kr _ _ _ hw (lv_sub hl [0] rfl)
    · have hf := sn_if c_6 hf
      refine lv_aload_n hx hb dX9_number_42 rfl (lv_at hl 0 rfl) ?_
      refine lv_iconst (v := 2) hx hb dX9_number_43 rfl ?_
      obtain ⟨t_7, h_8, hf⟩ := sn_bd hf
      refine sn_callVv (rest := []) C hw (ctX9_errs l  h_8) kl_RX9_164 layM_0 rfl rfl rfl rfl (Nat.le_of_ble_eq_true rfl) dX9_number_44 hl.1 (fun H locs hw => ?_)
      exact wX9_number_47 C  hf kr _ _ _ hw (lv_sub hl [0] rfl)
theorem wX9_number_in (C : sn_C p s m args meth c RX9 cX9_number 4 (some .int) D ct ad layM A) {σ : sn_S} {x1 : Int32} {x2 : Int32}  {o : (Int32 × sn_S)} (hf : fX9_number σ x1 x2 = some o) (kr : sn_Kr p l e rmX9_number s m args below meth c Q D ct ad layM A cX9_number .ireturn (true) o.2 [.int o.1]) : sn_At p l e rmX9_number s m args below meth c Q D ct ad layM A 4 σ 0 [(0, .ref (ad 0)), (1, .int x1), (2, .int x2)] [] := by
  intro H locs ls hw hl
  have hx := C.1
  have hb := C.2.1
  unfold fX9_number at hf
  refine lv_aload_n hx hb dX9_number_0 rfl (lv_at hl 0 rfl) ?_
  obtain ⟨t_1, h_2, hf⟩ := sn_bd hf
  refine sn_callVi (rest := []) C hw (ctX9_good l  h_2) kl_RX9_140 layM_0 rfl rfl rfl rfl (Nat.le_of_ble_eq_true rfl) dX9_number_1 hl.1 (fun H locs hw => ?_)
  refine lv_if_eq (tgt := 20) hx hb dX9_number_4 (by decide) (fun c_3 => ?_) (fun c_3 => ?_)
  · have hf := sn_if c_3 hf
    exact wX9_number_20 C  hf kr _ _ _ hw (lv_sub hl [0, 1, 2] rfl)
  · have hf := sn_el c_3 hf
    refine lv_aload_n hx hb dX9_number_7 rfl (lv_at hl 0 rfl) ?_
    refine sn_getI C hw fd_RX9_116 layM_0 rfl dX9_number_8 ?_
    refine lv_iconst (v := 2) hx hb dX9_number_11 rfl ?_
    refine lv_icmp_eq (tgt := 20) hx hb dX9_number_12 (by decide) (fun c_4 => ?_) (fun c_4 => ?_)
    · have hf := sn_if c_4 hf
      exact wX9_number_20 C  hf kr _ _ _ hw (lv_sub hl [0, 1, 2] rfl)
    · have hf := sn_el c_4 hf
      refine lv_aload_n hx hb dX9_number_15 rfl (lv_at hl 0 rfl) ?_
      refine lv_iconst (v := 1) hx hb dX9_number_16 rfl ?_
      obtain ⟨t_5, h_6, hf⟩ := sn_bd hf
      refine sn_callVv (rest := []) C hw (ctX9_errs l  h_6) kl_RX9_164 layM_0 rfl rfl rfl rfl (Nat.le_of_ble_eq_true rfl) dX9_number_17 hl.1 (fun H locs hw => ?_)
      exact wX9_number_20 C  hf kr _ _ _ hw (lv_sub hl [0, 1, 2] rfl)
theorem ctX9_number (l : Launch) {σ : sn_S} {x1 : Int32} {x2 : Int32}  {o : (Int32 × sn_S)} (hf : fX9_number σ x1 x2 = some o) : sn_M l yX9_number cX9_number 4 (some .int) rmX9_number layM (fun ad => [.ref (ad 0), .int x1, .int x2]) σ (some (fun _ => .int o.1)) o.2 :=
  sn_met (by decide) (fun _ => Nat.le_of_ble_eq_true rfl) (fun p e s m args below meth c ls D ct ad A C hw hl => wX9_number_in C  hf (fun H locs ls pc hw ok hd => sn_iret C hw hd) _ _ _ hw hl)
-- X9_told
abbrev rmX9_told : Room := { frames := 7, cells := 0, slots := 0, locals := 151 }
def fX9_told (σ : sn_S) (k1 : Nat) (x2 : Int32) (x3 : Int32) : Option (Int32 × sn_S) :=
  ((fX9_needs σ k1).bind fun t_1 => ((fX9_number t_1 x2 x3).bind fun t_3 => (some (t_3.1, t_3.2))))
theorem wX9_told_in (C : sn_C p s m args meth c RX9 cX9_told 4 (some .int) D ct ad layM A) {σ : sn_S} {k1 : Nat} {x2 : Int32} {x3 : Int32}  {o : (Int32 × sn_S)} (hf : fX9_told σ k1 x2 x3 = some o) (kr : sn_Kr p l e rmX9_told s m args below meth c Q D ct ad layM A cX9_told .ireturn (true) o.2 [.int o.1]) : sn_At p l e rmX9_told s m args below meth c Q D ct ad layM A 4 σ 0 [(0, .ref (ad 0)), (1, .ref (ad (1000 + k1))), (2, .int x2), (3, .int x3)] [] := by
  intro H locs ls hw hl
  have hx := C.1
  have hb := C.2.1
  unfold fX9_told at hf
  refine lv_aload_n hx hb dX9_told_0 rfl (lv_at hl 0 rfl) ?_
  refine lv_aload_n hx hb dX9_told_1 rfl (lv_at hl 1 rfl) ?_
  obtain ⟨t_1, h_2, hf⟩ := sn_bd hf
  refine sn_callVv (rest := []) C hw (ctX9_needs l  h_2) kl_RX9_168 layM_0 rfl rfl rfl rfl (Nat.le_of_ble_eq_true rfl) dX9_told_2 hl.1 (fun H locs hw => ?_)
  refine lv_aload_n hx hb dX9_told_5 rfl (lv_at hl 0 rfl) ?_
  refine lv_iload_n hx hb dX9_told_6 rfl (lv_at hl 2 rfl) ?_
  refine lv_iload_n hx hb dX9_told_7 rfl (lv_at hl 3 rfl) ?_
  obtain ⟨t_3, h_4, hf⟩ := sn_bd hf
  refine sn_callVi (rest := []) C hw (ctX9_number l  h_4) kl_RX9_172 layM_0 rfl rfl rfl rfl (Nat.le_of_ble_eq_true rfl) dX9_told_8 hl.1 (fun H locs hw => ?_)
  cases hf
  exact kr _ _ _ _ hw rfl dX9_told_11
theorem ctX9_told (l : Launch) {σ : sn_S} {k1 : Nat} {x2 : Int32} {x3 : Int32}  {o : (Int32 × sn_S)} (hf : fX9_told σ k1 x2 x3 = some o) : sn_M l yX9_told cX9_told 4 (some .int) rmX9_told layM (fun ad => [.ref (ad 0), .ref (ad (1000 + k1)), .int x2, .int x3]) σ (some (fun _ => .int o.1)) o.2 :=
  sn_met (by decide) (fun _ => Nat.le_of_ble_eq_true rfl) (fun p e s m args below meth c ls D ct ad A C hw hl => wX9_told_in C  hf (fun H locs ls pc hw ok hd => sn_iret C hw hd) _ _ _ hw hl)
-- X9_fault
abbrev rmX9_fault : Room := { frames := 0, cells := 0, slots := 0, locals := 0 }
def fX9_fault (σ : sn_S) (x1 : Int32) : Option Int32 :=
  (if x1 = 0 then
  (some (sn_I σ 0 12))
  else
  (if x1 = (1 : Int32) then
  (some (sn_I σ 0 13))
  else
  (some (-1 : Int32))))
theorem wX9_fault_in (C : sn_C p s m args meth c RX9 cX9_fault 2 (some .int) D ct ad layM A) {σ : sn_S} {x1 : Int32}  {o : Int32} (hf : fX9_fault σ x1 = some o) (kr : sn_Kr p l e rmX9_fault s m args below meth c Q D ct ad layM A cX9_fault .ireturn (true) σ [.int o]) : sn_At p l e rmX9_fault s m args below meth c Q D ct ad layM A 2 σ 0 [(0, .ref (ad 0)), (1, .int x1)] [] := by
  intro H locs ls hw hl
  have hx := C.1
  have hb := C.2.1
  unfold fX9_fault at hf
  refine lv_iload_n hx hb dX9_fault_0 rfl (lv_at hl 1 rfl) ?_
  refine lv_if_ne (tgt := 11) hx hb dX9_fault_1 (by decide) (fun c_1 => ?_) (fun c_1 => ?_)
  · have hf := sn_el c_1 hf
    refine lv_iload_n hx hb dX9_fault_11 rfl (lv_at hl 1 rfl) ?_
    refine lv_iconst (v := 1) hx hb dX9_fault_12 rfl ?_
    refine lv_icmp_ne (tgt := 23) hx hb dX9_fault_13 (by decide) (fun c_2 => ?_) (fun c_2 => ?_)
    · have hf := sn_el c_2 hf
      refine lv_iconst (v := (-1)) hx hb dX9_fault_23 rfl ?_
      cases hf
      exact kr _ _ _ _ hw rfl dX9_fault_24
    · have hf := sn_if c_2 hf
      refine lv_aload_n hx hb dX9_fault_16 rfl (lv_at hl 0 rfl) ?_
      refine sn_getI C hw fd_RX9_27 layM_0 rfl dX9_fault_17 ?_
      refine lv_goto (tgt := 24) hx hb dX9_fault_20 (by decide) ?_
      cases hf
      exact kr _ _ _ _ hw rfl dX9_fault_24
  · have hf := sn_if c_1 hf
    refine lv_aload_n hx hb dX9_fault_4 rfl (lv_at hl 0 rfl) ?_
    refine sn_getI C hw fd_RX9_137 layM_0 rfl dX9_fault_5 ?_
    refine lv_goto (tgt := 24) hx hb dX9_fault_8 (by decide) ?_
    cases hf
    exact kr _ _ _ _ hw rfl dX9_fault_24
theorem ctX9_fault (l : Launch) {σ : sn_S} {x1 : Int32}  {o : Int32} (hf : fX9_fault σ x1 = some o) : sn_M l yX9_fault cX9_fault 2 (some .int) rmX9_fault layM (fun ad => [.ref (ad 0), .int x1]) σ (some (fun _ => .int o)) σ :=
  sn_met (by decide) (fun _ => Nat.le_of_ble_eq_true rfl) (fun p e s m args below meth c ls D ct ad A C hw hl => wX9_fault_in C  hf (fun H locs ls pc hw ok hd => sn_iret C hw hd) _ _ _ hw hl)
-- X9_readFirst
abbrev rmX9_readFirst : Room := { frames := 8, cells := 0, slots := 0, locals := 174 }
def fX9_readFirst (σ : sn_S) : Option sn_S :=
  ((fX9_needs σ 0).bind fun t_1 => ((fX9_told t_1 1 (1 : Int32) (30 : Int32)).bind fun t_3 => (sn_gd (sn_in (0 : Int32) 119) (sn_lt (sn_pI t_3.2 6 (0 : Int32).toNatClampNeg t_3.1) fun σ_6 => ((fX9_told σ_6 2 (0 : Int32) (9 : Int32)).bind fun t_8 => (sn_gd (sn_in (1 : Int32) 119) (sn_lt (sn_pI t_8.2 6 (1 : Int32).toNatClampNeg t_8.1) fun σ_11 => ((fX9_told σ_11 3 (0 : Int32) (3 : Int32)).bind fun t_13 => (sn_gd (sn_in (2 : Int32) 119) (sn_lt (sn_pI t_13.2 6 (2 : Int32).toNatClampNeg t_13.1) fun σ_16 => ((fX9_told σ_16 4 (0 : Int32) (999 : Int32)).bind fun t_18 => (sn_gd (sn_in (3 : Int32) 119) (sn_lt (sn_pI t_18.2 6 (3 : Int32).toNatClampNeg t_18.1) fun σ_21 => ((fX9_told σ_21 5 (0 : Int32) (10 : Int32)).bind fun t_23 => (sn_gd (sn_in (4 : Int32) 119) (sn_lt (sn_pI t_23.2 6 (4 : Int32).toNatClampNeg t_23.1) fun σ_26 => (some σ_26)))))))))))))))))
theorem wX9_readFirst_in (C : sn_C p s m args meth c RX9 cX9_readFirst 1 none D ct ad layM A) {σ : sn_S}  {o : sn_S} (hf : fX9_readFirst σ = some o) (kr : sn_Kr p l e rmX9_readFirst s m args below meth c Q D ct ad layM A cX9_readFirst .return_ (true) o []) : sn_At p l e rmX9_readFirst s m args below meth c Q D ct ad layM A 1 σ 0 [(0, .ref (ad 0))] [] := by
  intro H locs ls hw hl
  have hx := C.1
  have hb := C.2.1
  unfold fX9_readFirst at hf
  refine lv_aload_n hx hb dX9_readFirst_0 rfl (lv_at hl 0 rfl) ?_
  refine va_ldcS (tx := "house") (q := ad (1000 + 0)) hx hb C.2.2.2.1 (sn_sr_16 C.2.2.2.2.2.2.2.2.2) dX9_readFirst_1 ?_
  obtain ⟨t_1, h_2, hf⟩ := sn_bd hf
  refine sn_callVv (rest := []) C hw (ctX9_needs l  h_2) kl_RX9_168 layM_0 rfl rfl rfl rfl (Nat.le_of_ble_eq_true rfl) dX9_readFirst_3 hl.1 (fun H locs hw => ?_)
  refine lv_aload_n hx hb dX9_readFirst_6 rfl (lv_at hl 0 rfl) ?_
  refine sn_getC (r := 6) C hw fd_RX9_31 layM_0 rfl dX9_readFirst_7 ?_
  refine lv_iconst (v := 0) hx hb dX9_readFirst_10 rfl ?_
  refine lv_aload_n hx hb dX9_readFirst_11 rfl (lv_at hl 0 rfl) ?_
  refine va_ldcS (tx := "minutes") (q := ad (1000 + 1)) hx hb C.2.2.2.1 (sn_sr_17 C.2.2.2.2.2.2.2.2.2) dX9_readFirst_12 ?_
  refine lv_iconst (v := 1) hx hb dX9_readFirst_14 rfl ?_
  refine lv_bipush (v := 30) hx hb dX9_readFirst_15 (by decide) ?_
  obtain ⟨t_3, h_4, hf⟩ := sn_bd hf
  refine sn_callVi (rest := [.int (0 : Int32), .ref (ad 6)]) C hw (ctX9_told l  h_4) kl_RX9_179 layM_0 rfl rfl rfl rfl (Nat.le_of_ble_eq_true rfl) dX9_readFirst_17 hl.1 (fun H locs hw => ?_)
  obtain ⟨g_5, hf⟩ := sn_gdE hf
  refine sn_iast C hw layM_6 g_5 dX9_readFirst_20 (fun H locs hw => ?_)
  obtain ⟨σ_6, e_7, hf⟩ := sn_ltE hf
  rw [← e_7] at hw
  refine lv_aload_n hx hb dX9_readFirst_21 rfl (lv_at hl 0 rfl) ?_
  refine sn_getC (r := 6) C hw fd_RX9_31 layM_0 rfl dX9_readFirst_22 ?_
  refine lv_iconst (v := 1) hx hb dX9_readFirst_25 rfl ?_
  refine lv_aload_n hx hb dX9_readFirst_26 rfl (lv_at hl 0 rfl) ?_
  refine va_ldcS (tx := "dust") (q := ad (1000 + 2)) hx hb C.2.2.2.1 (sn_sr_18 C.2.2.2.2.2.2.2.2.2) dX9_readFirst_27 ?_
  refine lv_iconst (v := 0) hx hb dX9_readFirst_29 rfl ?_
  refine lv_bipush (v := 9) hx hb dX9_readFirst_30 (by decide) ?_
  obtain ⟨t_8, h_9, hf⟩ := sn_bd hf
  refine sn_callVi (rest := [.int (1 : Int32), .ref (ad 6)]) C hw (ctX9_told l  h_9) kl_RX9_179 layM_0 rfl rfl rfl rfl (Nat.le_of_ble_eq_true rfl) dX9_readFirst_32 hl.1 (fun H locs hw => ?_)
  obtain ⟨g_10, hf⟩ := sn_gdE hf
  refine sn_iast C hw layM_6 g_10 dX9_readFirst_35 (fun H locs hw => ?_)
  obtain ⟨σ_11, e_12, hf⟩ := sn_ltE hf
  rw [← e_12] at hw
  refine lv_aload_n hx hb dX9_readFirst_36 rfl (lv_at hl 0 rfl) ?_
  refine sn_getC (r := 6) C hw fd_RX9_31 layM_0 rfl dX9_readFirst_37 ?_
  refine lv_iconst (v := 2) hx hb dX9_readFirst_40 rfl ?_
  refine lv_aload_n hx hb dX9_readFirst_41 rfl (lv_at hl 0 rfl) ?_
  refine va_ldcS (tx := "law") (q := ad (1000 + 3)) hx hb C.2.2.2.1 (sn_sr_19 C.2.2.2.2.2.2.2.2.2) dX9_readFirst_42 ?_
  refine lv_iconst (v := 0) hx hb dX9_readFirst_44 rfl ?_
  refine lv_iconst (v := 3) hx hb dX9_readFirst_45 rfl ?_
  obtain ⟨t_13, h_14, hf⟩ := sn_bd hf
  refine sn_callVi (rest := [.int (2 : Int32), .ref (ad 6)]) C hw (ctX9_told l  h_14) kl_RX9_179 layM_0 rfl rfl rfl rfl (Nat.le_of_ble_eq_true rfl) dX9_readFirst_46 hl.1 (fun H locs hw => ?_)
  obtain ⟨g_15, hf⟩ := sn_gdE hf
  refine sn_iast C hw layM_6 g_15 dX9_readFirst_49 (fun H locs hw => ?_)
  obtain ⟨σ_16, e_17, hf⟩ := sn_ltE hf
  rw [← e_17] at hw
  refine lv_aload_n hx hb dX9_readFirst_50 rfl (lv_at hl 0 rfl) ?_
  refine sn_getC (r := 6) C hw fd_RX9_31 layM_0 rfl dX9_readFirst_51 ?_
  refine lv_iconst (v := 3) hx hb dX9_readFirst_54 rfl ?_
  refine lv_aload_n hx hb dX9_readFirst_55 rfl (lv_at hl 0 rfl) ?_
  refine va_ldcS (tx := "money") (q := ad (1000 + 4)) hx hb C.2.2.2.1 (sn_sr_20 C.2.2.2.2.2.2.2.2.2) dX9_readFirst_56 ?_
  refine lv_iconst (v := 0) hx hb dX9_readFirst_58 rfl ?_
  refine lv_sipush (v := 999) hx hb dX9_readFirst_59 (by decide) ?_
  obtain ⟨t_18, h_19, hf⟩ := sn_bd hf
  refine sn_callVi (rest := [.int (3 : Int32), .ref (ad 6)]) C hw (ctX9_told l  h_19) kl_RX9_179 layM_0 rfl rfl rfl rfl (Nat.le_of_ble_eq_true rfl) dX9_readFirst_62 hl.1 (fun H locs hw => ?_)
  obtain ⟨g_20, hf⟩ := sn_gdE hf
  refine sn_iast C hw layM_6 g_20 dX9_readFirst_65 (fun H locs hw => ?_)
  obtain ⟨σ_21, e_22, hf⟩ := sn_ltE hf
  rw [← e_22] at hw
  refine lv_aload_n hx hb dX9_readFirst_66 rfl (lv_at hl 0 rfl) ?_
  refine sn_getC (r := 6) C hw fd_RX9_31 layM_0 rfl dX9_readFirst_67 ?_
  refine lv_iconst (v := 4) hx hb dX9_readFirst_70 rfl ?_
  refine lv_aload_n hx hb dX9_readFirst_71 rfl (lv_at hl 0 rfl) ?_
  refine va_ldcS (tx := "odds") (q := ad (1000 + 5)) hx hb C.2.2.2.1 (sn_sr_21 C.2.2.2.2.2.2.2.2.2) dX9_readFirst_72 ?_
  refine lv_iconst (v := 0) hx hb dX9_readFirst_74 rfl ?_
  refine lv_bipush (v := 10) hx hb dX9_readFirst_75 (by decide) ?_
  obtain ⟨t_23, h_24, hf⟩ := sn_bd hf
  refine sn_callVi (rest := [.int (4 : Int32), .ref (ad 6)]) C hw (ctX9_told l  h_24) kl_RX9_179 layM_0 rfl rfl rfl rfl (Nat.le_of_ble_eq_true rfl) dX9_readFirst_77 hl.1 (fun H locs hw => ?_)
  obtain ⟨g_25, hf⟩ := sn_gdE hf
  refine sn_iast C hw layM_6 g_25 dX9_readFirst_80 (fun H locs hw => ?_)
  obtain ⟨σ_26, e_27, hf⟩ := sn_ltE hf
  rw [← e_27] at hw
  cases hf
  exact kr _ _ _ _ hw rfl dX9_readFirst_81
theorem ctX9_readFirst (l : Launch) {σ : sn_S}  {o : sn_S} (hf : fX9_readFirst σ = some o) : sn_M l yX9_readFirst cX9_readFirst 1 none rmX9_readFirst layM (fun ad => [.ref (ad 0)]) σ none o :=
  sn_met (by decide) (fun _ => Nat.le_of_ble_eq_true rfl) (fun p e s m args below meth c ls D ct ad A C hw hl => wX9_readFirst_in C  hf (fun H locs ls pc hw ok hd => sn_vret C hw hd) _ _ _ hw hl)
end
end
section
section
variable {p : Program} {l : Launch} {e : Env} {s : State} {m : MethodId} {args : Array Value} {below : List Frame} {meth : Method} {c : Code} {Q : State → Prop} {D : va_G} {ct : Nat → ClassId} {ad : Nat → Nat} {A : Nat → Prop} {lay : List sn_E}
-- X9_readNet
abbrev rmX9_readNet : Room := { frames := 3, cells := 0, slots := 0, locals := 76 }
def BX9_readNet_67 (σ : sn_S) (x1 : Int32) (x2 : Int32) : Option (sn_S) :=
  ((fX9_number σ (0 : Int32) x2).bind fun t_1 => (sn_gd (sn_in (x1 + (1 : Int32)) 119) (sn_lt (sn_pI t_1.2 6 (x1 + (1 : Int32)).toNatClampNeg t_1.1) fun σ_4 => (sn_gd (sn_in (7 : Int32) 119) (sn_gd (sn_in (7 : Int32) 119) (sn_lt (sn_pI σ_4 6 (7 : Int32).toNatClampNeg ((sn_I σ_4 6 (7 : Int32).toNatClampNeg) + (1 : Int32))) fun σ_8 => (some σ_8)))))))
def fX9_readNet (σ : sn_S) : Option sn_S :=
  (sn_gd (sn_in (7 : Int32) 119) (sn_lt ((33 : Int32) + ((2 : Int32) * (sn_I σ 6 (7 : Int32).toNatClampNeg))) fun y_2 => (sn_gd (sn_in (5 : Int32) 119) (sn_lt ((sn_I σ 6 (5 : Int32).toNatClampNeg) - (1 : Int32)) fun y_5 => ((fX9_number σ (0 : Int32) y_5).bind fun t_7 => (sn_gd (sn_in y_2 119) (sn_lt (sn_pI t_7.2 6 y_2.toNatClampNeg t_7.1) fun σ_10 => ((fX9_good σ_10).bind fun t_12 => (if t_12 = 0 then
  (BX9_readNet_67 σ_10 y_2 y_5)
  else
  (if (sn_I σ_10 0 10) = (2 : Int32) then
  (sn_gd (sn_in y_2 119) (if (sn_I σ_10 0 11) = (sn_I σ_10 6 y_2.toNatClampNeg) then
  ((fX9_errs σ_10 (2 : Int32)).bind fun t_18 => (BX9_readNet_67 t_18 y_2 y_5))
  else
  (BX9_readNet_67 σ_10 y_2 y_5)))
  else
  (BX9_readNet_67 σ_10 y_2 y_5)))))))))))
theorem wX9_readNet_67 (C : sn_C p s m args meth c RX9 cX9_readNet 3 none D ct ad layM A) {σ : sn_S} {x1 : Int32} {x2 : Int32}  {o : sn_S} (hf : BX9_readNet_67 σ x1 x2 = some o) (kr : sn_Kr p l e rmX9_readNet s m args below meth c Q D ct ad layM A cX9_readNet .return_ (true) o []) : sn_At p l e rmX9_readNet s m args below meth c Q D ct ad layM A 3 σ 67 [(0, .ref (ad 0)), (1, .int x1), (2, .int x2)] [] := by
  intro H locs ls hw hl
  have hx := C.1
  have hb := C.2.1
  unfold BX9_readNet_67 at hf
  refine lv_aload_n hx hb dX9_readNet_67 rfl (lv_at hl 0 rfl) ?_
  refine sn_getC (r := 6) C hw fd_RX9_31 layM_0 rfl dX9_readNet_68 ?_
  refine lv_iload_n hx hb dX9_readNet_71 rfl (lv_at hl 1 rfl) ?_
  refine lv_iconst (v := 1) hx hb dX9_readNet_72 rfl ?_
  refine lv_iadd hx hb dX9_readNet_73 ?_
  refine lv_aload_n hx hb dX9_readNet_74 rfl (lv_at hl 0 rfl) ?_
  refine lv_iconst (v := 0) hx hb dX9_readNet_75 rfl ?_
  refine lv_iload_n hx hb dX9_readNet_76 rfl (lv_at hl 2 rfl) ?_
  obtain ⟨t_1, h_2, hf⟩ := sn_bd hf
  refine sn_callVi (rest := [.int (x1 + (1 : Int32)), .ref (ad 6)]) C hw (ctX9_number l  h_2) kl_RX9_172 layM_0 rfl rfl rfl rfl (Nat.le_of_ble_eq_true rfl) dX9_readNet_77 hl.1 (fun H locs hw => ?_)
  obtain ⟨g_3, hf⟩ := sn_gdE hf
  refine sn_iast C hw layM_6 g_3 dX9_readNet_80 (fun H locs hw => ?_)
  obtain ⟨σ_4, e_5, hf⟩ := sn_ltE hf
  rw [← e_5] at hw
  refine lv_aload_n hx hb dX9_readNet_81 rfl (lv_at hl 0 rfl) ?_
  refine sn_getC (r := 6) C hw fd_RX9_31 layM_0 rfl dX9_readNet_82 ?_
  refine lv_bipush (v := 7) hx hb dX9_readNet_85 (by decide) ?_
  refine lv_dup2_11 hx hb dX9_readNet_87 rfl rfl ?_
  obtain ⟨g_6, hf⟩ := sn_gdE hf
  refine sn_iald C hw layM_6 g_6 dX9_readNet_88 ?_
  refine lv_iconst (v := 1) hx hb dX9_readNet_89 rfl ?_
  refine lv_iadd hx hb dX9_readNet_90 ?_
  obtain ⟨g_7, hf⟩ := sn_gdE hf
  refine sn_iast C hw layM_6 g_7 dX9_readNet_91 (fun H locs hw => ?_)
  obtain ⟨σ_8, e_9, hf⟩ := sn_ltE hf
  rw [← e_9] at hw
  cases hf
  exact kr _ _ _ _ hw rfl dX9_readNet_92
theorem wX9_readNet_in (C : sn_C p s m args meth c RX9 cX9_readNet 3 none D ct ad layM A) {σ : sn_S}  {o : sn_S} (hf : fX9_readNet σ = some o) (kr : sn_Kr p l e rmX9_readNet s m args below meth c Q D ct ad layM A cX9_readNet .return_ (true) o []) : sn_At p l e rmX9_readNet s m args below meth c Q D ct ad layM A 3 σ 0 [(0, .ref (ad 0))] [] := by
  intro H locs ls hw hl
  have hx := C.1
  have hb := C.2.1
  unfold fX9_readNet at hf
  refine lv_bipush (v := 33) hx hb dX9_readNet_0 (by decide) ?_
  refine lv_iconst (v := 2) hx hb dX9_readNet_2 rfl ?_
  refine lv_aload_n hx hb dX9_readNet_3 rfl (lv_at hl 0 rfl) ?_
  refine sn_getC (r := 6) C hw fd_RX9_31 layM_0 rfl dX9_readNet_4 ?_
  refine lv_bipush (v := 7) hx hb dX9_readNet_7 (by decide) ?_
  obtain ⟨g_1, hf⟩ := sn_gdE hf
  refine sn_iald C hw layM_6 g_1 dX9_readNet_9 ?_
  refine lv_imul hx hb dX9_readNet_10 ?_
  refine lv_iadd hx hb dX9_readNet_11 ?_
  obtain ⟨y_2, e_3, hf⟩ := sn_ltE hf
  refine lv_topi (fun y_2_ e_3_ => ?_)
  obtain rfl : y_2 = y_2_ := e_3.trans e_3_.symm
  refine lv_istore_n (lv' := [(1, .int y_2), (0, .ref (ad 0))]) hx hb dX9_readNet_12 rfl hl (by decide) rfl (fun ls hl => ?_)
  refine lv_aload_n hx hb dX9_readNet_13 rfl (lv_at hl 1 rfl) ?_
  refine sn_getC (r := 6) C hw fd_RX9_31 layM_0 rfl dX9_readNet_14 ?_
  refine lv_iconst (v := 5) hx hb dX9_readNet_17 rfl ?_
  obtain ⟨g_4, hf⟩ := sn_gdE hf
  refine sn_iald C hw layM_6 g_4 dX9_readNet_18 ?_
  refine lv_iconst (v := 1) hx hb dX9_readNet_19 rfl ?_
  refine lv_isub hx hb dX9_readNet_20 ?_
  obtain ⟨y_5, e_6, hf⟩ := sn_ltE hf
  refine lv_topi (fun y_5_ e_6_ => ?_)
  obtain rfl : y_5 = y_5_ := e_6.trans e_6_.symm
  refine lv_istore_n (lv' := [(2, .int y_5), (1, .int y_2), (0, .ref (ad 0))]) hx hb dX9_readNet_21 rfl hl (by decide) rfl (fun ls hl => ?_)
  refine lv_aload_n hx hb dX9_readNet_22 rfl (lv_at hl 2 rfl) ?_
  refine sn_getC (r := 6) C hw fd_RX9_31 layM_0 rfl dX9_readNet_23 ?_
  refine lv_iload_n hx hb dX9_readNet_26 rfl (lv_at hl 1 rfl) ?_
  refine lv_aload_n hx hb dX9_readNet_27 rfl (lv_at hl 2 rfl) ?_
  refine lv_iconst (v := 0) hx hb dX9_readNet_28 rfl ?_
  refine lv_iload_n hx hb dX9_readNet_29 rfl (lv_at hl 0 rfl) ?_
  obtain ⟨t_7, h_8, hf⟩ := sn_bd hf
  refine sn_callVi (rest := [.int y_2, .ref (ad 6)]) C hw (ctX9_number l  h_8) kl_RX9_172 layM_0 rfl rfl rfl rfl (Nat.le_of_ble_eq_true rfl) dX9_readNet_30 hl.1 (fun H locs hw => ?_)
  obtain ⟨g_9, hf⟩ := sn_gdE hf
  refine sn_iast C hw layM_6 g_9 dX9_readNet_33 (fun H locs hw => ?_)
  obtain ⟨σ_10, e_11, hf⟩ := sn_ltE hf
  rw [← e_11] at hw
  refine lv_aload_n hx hb dX9_readNet_34 rfl (lv_at hl 2 rfl) ?_
  obtain ⟨t_12, h_13, hf⟩ := sn_bd hf
  refine sn_callVi (rest := []) C hw (ctX9_good l  h_13) kl_RX9_140 layM_0 rfl rfl rfl rfl (Nat.le_of_ble_eq_true rfl) dX9_readNet_35 hl.1 (fun H locs hw => ?_)
  refine lv_if_eq (tgt := 67) hx hb dX9_readNet_38 (by decide) (fun c_14 => ?_) (fun c_14 => ?_)
  · have hf := sn_if c_14 hf
    exact wX9_readNet_67 C  hf kr _ _ _ hw (lv_sub hl [2, 1, 0] rfl)
  · have hf := sn_el c_14 hf
    refine lv_aload_n hx hb dX9_readNet_41 rfl (lv_at hl 2 rfl) ?_
    refine sn_getI C hw fd_RX9_116 layM_0 rfl dX9_readNet_42 ?_
    refine lv_iconst (v := 2) hx hb dX9_readNet_45 rfl ?_
    refine lv_icmp_ne (tgt := 67) hx hb dX9_readNet_46 (by decide) (fun c_15 => ?_) (fun c_15 => ?_)
    · have hf := sn_el c_15 hf
      exact wX9_readNet_67 C  hf kr _ _ _ hw (lv_sub hl [2, 1, 0] rfl)
    · have hf := sn_if c_15 hf
      refine lv_aload_n hx hb dX9_readNet_49 rfl (lv_at hl 2 rfl) ?_
      refine sn_getI C hw fd_RX9_127 layM_0 rfl dX9_readNet_50 ?_
      refine lv_aload_n hx hb dX9_readNet_53 rfl (lv_at hl 2 rfl) ?_
      refine sn_getC (r := 6) C hw fd_RX9_31 layM_0 rfl dX9_readNet_54 ?_
      refine lv_iload_n hx hb dX9_readNet_57 rfl (lv_at hl 1 rfl) ?_
      obtain ⟨g_16, hf⟩ := sn_gdE hf
      refine sn_iald C hw layM_6 g_16 dX9_readNet_58 ?_
      refine lv_icmp_ne (tgt := 67) hx hb dX9_readNet_59 (by decide) (fun c_17 => ?_) (fun c_17 => ?_)
      · have hf := sn_el c_17 hf
        exact wX9_readNet_67 C  hf kr _ _ _ hw (lv_sub hl [2, 1, 0] rfl)
      · have hf := sn_if c_17 hf
        refine lv_aload_n hx hb dX9_readNet_62 rfl (lv_at hl 2 rfl) ?_
        refine lv_iconst (v := 2) hx hb dX9_readNet_63 rfl ?_
        obtain ⟨t_18, h_19, hf⟩ := sn_bd hf
        refine sn_callVv (rest := []) C hw (ctX9_errs l  h_19) kl_RX9_164 layM_0 rfl rfl rfl rfl (Nat.le_of_ble_eq_true rfl) dX9_readNet_64 hl.1 (fun H locs hw => ?_)
        exact wX9_readNet_67 C  hf kr _ _ _ hw (lv_sub hl [2, 1, 0] rfl)
theorem ctX9_readNet (l : Launch) {σ : sn_S}  {o : sn_S} (hf : fX9_readNet σ = some o) : sn_M l yX9_readNet cX9_readNet 3 none rmX9_readNet layM (fun ad => [.ref (ad 0)]) σ none o :=
  sn_met (by decide) (fun _ => Nat.le_of_ble_eq_true rfl) (fun p e s m args below meth c ls D ct ad A C hw hl => wX9_readNet_in C  hf (fun H locs ls pc hw ok hd => sn_vret C hw hd) _ _ _ hw hl)
-- X9_readPolicy
abbrev rmX9_readPolicy : Room := { frames := 8, cells := 0, slots := 0, locals := 174 }
def fX9_readPolicy (σ : sn_S) : Option sn_S :=
  (sn_gd (sn_in (8 : Int32) 119) (sn_lt ((49 : Int32) + ((5 : Int32) * (sn_I σ 6 (8 : Int32).toNatClampNeg))) fun y_2 => (sn_gd (sn_in (5 : Int32) 119) ((fX9_number σ (0 : Int32) ((sn_I σ 6 (5 : Int32).toNatClampNeg) - (1 : Int32))).bind fun t_5 => (sn_gd (sn_in (y_2 + (0 : Int32)) 119) (sn_lt (sn_pI t_5.2 6 (y_2 + (0 : Int32)).toNatClampNeg t_5.1) fun σ_8 => ((fX9_told σ_8 12 (0 : Int32) (29 : Int32)).bind fun t_10 => (sn_gd (sn_in (y_2 + (1 : Int32)) 119) (sn_lt (sn_pI t_10.2 6 (y_2 + (1 : Int32)).toNatClampNeg t_10.1) fun σ_13 => (sn_gd (sn_in (y_2 + (1 : Int32)) 119) ((fX9_told σ_13 13 (sn_I σ_13 6 (y_2 + (1 : Int32)).toNatClampNeg) (29 : Int32)).bind fun t_16 => (sn_gd (sn_in (y_2 + (2 : Int32)) 119) (sn_lt (sn_pI t_16.2 6 (y_2 + (2 : Int32)).toNatClampNeg t_16.1) fun σ_19 => ((fX9_told σ_19 14 (1 : Int32) (99 : Int32)).bind fun t_21 => (sn_gd (sn_in (y_2 + (3 : Int32)) 119) (sn_lt (sn_pI t_21.2 6 (y_2 + (3 : Int32)).toNatClampNeg t_21.1) fun σ_24 => ((fX9_told σ_24 15 (0 : Int32) (99 : Int32)).bind fun t_26 => (sn_gd (sn_in (y_2 + (4 : Int32)) 119) (sn_lt (sn_pI t_26.2 6 (y_2 + (4 : Int32)).toNatClampNeg t_26.1) fun σ_29 => (sn_gd (sn_in (8 : Int32) 119) (sn_gd (sn_in (8 : Int32) 119) (sn_lt (sn_pI σ_29 6 (8 : Int32).toNatClampNeg ((sn_I σ_29 6 (8 : Int32).toNatClampNeg) + (1 : Int32))) fun σ_33 => (some σ_33)))))))))))))))))))))))
theorem wX9_readPolicy_in (C : sn_C p s m args meth c RX9 cX9_readPolicy 2 none D ct ad layM A) {σ : sn_S}  {o : sn_S} (hf : fX9_readPolicy σ = some o) (kr : sn_Kr p l e rmX9_readPolicy s m args below meth c Q D ct ad layM A cX9_readPolicy .return_ (true) o []) : sn_At p l e rmX9_readPolicy s m args below meth c Q D ct ad layM A 2 σ 0 [(0, .ref (ad 0))] [] := by
  intro H locs ls hw hl
  have hx := C.1
  have hb := C.2.1
  unfold fX9_readPolicy at hf
  refine lv_bipush (v := 49) hx hb dX9_readPolicy_0 (by decide) ?_
  refine lv_iconst (v := 5) hx hb dX9_readPolicy_2 rfl ?_
  refine lv_aload_n hx hb dX9_readPolicy_3 rfl (lv_at hl 0 rfl) ?_
  refine sn_getC (r := 6) C hw fd_RX9_31 layM_0 rfl dX9_readPolicy_4 ?_
  refine lv_bipush (v := 8) hx hb dX9_readPolicy_7 (by decide) ?_
  obtain ⟨g_1, hf⟩ := sn_gdE hf
  refine sn_iald C hw layM_6 g_1 dX9_readPolicy_9 ?_
  refine lv_imul hx hb dX9_readPolicy_10 ?_
  refine lv_iadd hx hb dX9_readPolicy_11 ?_
  obtain ⟨y_2, e_3, hf⟩ := sn_ltE hf
  refine lv_topi (fun y_2_ e_3_ => ?_)
  obtain rfl : y_2 = y_2_ := e_3.trans e_3_.symm
  refine lv_istore_n (lv' := [(1, .int y_2), (0, .ref (ad 0))]) hx hb dX9_readPolicy_12 rfl hl (by decide) rfl (fun ls hl => ?_)
  refine lv_aload_n hx hb dX9_readPolicy_13 rfl (lv_at hl 1 rfl) ?_
  refine sn_getC (r := 6) C hw fd_RX9_31 layM_0 rfl dX9_readPolicy_14 ?_
  refine lv_iload_n hx hb dX9_readPolicy_17 rfl (lv_at hl 0 rfl) ?_
  refine lv_iconst (v := 0) hx hb dX9_readPolicy_18 rfl ?_
  refine lv_iadd hx hb dX9_readPolicy_19 ?_
  refine lv_aload_n hx hb dX9_readPolicy_20 rfl (lv_at hl 1 rfl) ?_
  refine lv_iconst (v := 0) hx hb dX9_readPolicy_21 rfl ?_
  refine lv_aload_n hx hb dX9_readPolicy_22 rfl (lv_at hl 1 rfl) ?_
  refine sn_getC (r := 6) C hw fd_RX9_31 layM_0 rfl dX9_readPolicy_23 ?_
  refine lv_iconst (v := 5) hx hb dX9_readPolicy_26 rfl ?_
  obtain ⟨g_4, hf⟩ := sn_gdE hf
  refine sn_iald C hw layM_6 g_4 dX9_readPolicy_27 ?_
  refine lv_iconst (v := 1) hx hb dX9_readPolicy_28 rfl ?_
  refine lv_isub hx hb dX9_readPolicy_29 ?_
  obtain ⟨t_5, h_6, hf⟩ := sn_bd hf
  refine sn_callVi (rest := [.int (y_2 + (0 : Int32)), .ref (ad 6)]) C hw (ctX9_number l  h_6) kl_RX9_172 layM_0 rfl rfl rfl rfl (Nat.le_of_ble_eq_true rfl) dX9_readPolicy_30 hl.1 (fun H locs hw => ?_)
  obtain ⟨g_7, hf⟩ := sn_gdE hf
  refine sn_iast C hw layM_6 g_7 dX9_readPolicy_33 (fun H locs hw => ?_)
  obtain ⟨σ_8, e_9, hf⟩ := sn_ltE hf
  rw [← e_9] at hw
  refine lv_aload_n hx hb dX9_readPolicy_34 rfl (lv_at hl 1 rfl) ?_
  refine sn_getC (r := 6) C hw fd_RX9_31 layM_0 rfl dX9_readPolicy_35 ?_
  refine lv_iload_n hx hb dX9_readPolicy_38 rfl (lv_at hl 0 rfl) ?_
  refine lv_iconst (v := 1) hx hb dX9_readPolicy_39 rfl ?_
  refine lv_iadd hx hb dX9_readPolicy_40 ?_
  refine lv_aload_n hx hb dX9_readPolicy_41 rfl (lv_at hl 1 rfl) ?_
  refine va_ldcS (tx := "from") (q := ad (1000 + 12)) hx hb C.2.2.2.1 (sn_sr_28 C.2.2.2.2.2.2.2.2.2) dX9_readPolicy_42 ?_
  refine lv_iconst (v := 0) hx hb dX9_readPolicy_44 rfl ?_
  refine lv_bipush (v := 29) hx hb dX9_readPolicy_45 (by decide) ?_
  obtain ⟨t_10, h_11, hf⟩ := sn_bd hf
  refine sn_callVi (rest := [.int (y_2 + (1 : Int32)), .ref (ad 6)]) C hw (ctX9_told l  h_11) kl_RX9_179 layM_0 rfl rfl rfl rfl (Nat.le_of_ble_eq_true rfl) dX9_readPolicy_47 hl.1 (fun H locs hw => ?_)
  obtain ⟨g_12, hf⟩ := sn_gdE hf
  refine sn_iast C hw layM_6 g_12 dX9_readPolicy_50 (fun H locs hw => ?_)
  obtain ⟨σ_13, e_14, hf⟩ := sn_ltE hf
  rw [← e_14] at hw
  refine lv_aload_n hx hb dX9_readPolicy_51 rfl (lv_at hl 1 rfl) ?_
  refine sn_getC (r := 6) C hw fd_RX9_31 layM_0 rfl dX9_readPolicy_52 ?_
  refine lv_iload_n hx hb dX9_readPolicy_55 rfl (lv_at hl 0 rfl) ?_
  refine lv_iconst (v := 2) hx hb dX9_readPolicy_56 rfl ?_
  refine lv_iadd hx hb dX9_readPolicy_57 ?_
  refine lv_aload_n hx hb dX9_readPolicy_58 rfl (lv_at hl 1 rfl) ?_
  refine va_ldcS (tx := "to") (q := ad (1000 + 13)) hx hb C.2.2.2.1 (sn_sr_29 C.2.2.2.2.2.2.2.2.2) dX9_readPolicy_59 ?_
  refine lv_aload_n hx hb dX9_readPolicy_61 rfl (lv_at hl 1 rfl) ?_
  refine sn_getC (r := 6) C hw fd_RX9_31 layM_0 rfl dX9_readPolicy_62 ?_
  refine lv_iload_n hx hb dX9_readPolicy_65 rfl (lv_at hl 0 rfl) ?_
  refine lv_iconst (v := 1) hx hb dX9_readPolicy_66 rfl ?_
  refine lv_iadd hx hb dX9_readPolicy_67 ?_
  obtain ⟨g_15, hf⟩ := sn_gdE hf
  refine sn_iald C hw layM_6 g_15 dX9_readPolicy_68 ?_
  refine lv_bipush (v := 29) hx hb dX9_readPolicy_69 (by decide) ?_
  obtain ⟨t_16, h_17, hf⟩ := sn_bd hf
  refine sn_callVi (rest := [.int (y_2 + (2 : Int32)), .ref (ad 6)]) C hw (ctX9_told l  h_17) kl_RX9_179 layM_0 rfl rfl rfl rfl (Nat.le_of_ble_eq_true rfl) dX9_readPolicy_71 hl.1 (fun H locs hw => ?_)
  obtain ⟨g_18, hf⟩ := sn_gdE hf
  refine sn_iast C hw layM_6 g_18 dX9_readPolicy_74 (fun H locs hw => ?_)
  obtain ⟨σ_19, e_20, hf⟩ := sn_ltE hf
  rw [← e_20] at hw
  refine lv_aload_n hx hb dX9_readPolicy_75 rfl (lv_at hl 1 rfl) ?_
  refine sn_getC (r := 6) C hw fd_RX9_31 layM_0 rfl dX9_readPolicy_76 ?_
  refine lv_iload_n hx hb dX9_readPolicy_79 rfl (lv_at hl 0 rfl) ?_
  refine lv_iconst (v := 3) hx hb dX9_readPolicy_80 rfl ?_
  refine lv_iadd hx hb dX9_readPolicy_81 ?_
  refine lv_aload_n hx hb dX9_readPolicy_82 rfl (lv_at hl 1 rfl) ?_
  refine va_ldcS (tx := "sum") (q := ad (1000 + 14)) hx hb C.2.2.2.1 (sn_sr_30 C.2.2.2.2.2.2.2.2.2) dX9_readPolicy_83 ?_
  refine lv_iconst (v := 1) hx hb dX9_readPolicy_85 rfl ?_
  refine lv_bipush (v := 99) hx hb dX9_readPolicy_86 (by decide) ?_
  obtain ⟨t_21, h_22, hf⟩ := sn_bd hf
  refine sn_callVi (rest := [.int (y_2 + (3 : Int32)), .ref (ad 6)]) C hw (ctX9_told l  h_22) kl_RX9_179 layM_0 rfl rfl rfl rfl (Nat.le_of_ble_eq_true rfl) dX9_readPolicy_88 hl.1 (fun H locs hw => ?_)
  obtain ⟨g_23, hf⟩ := sn_gdE hf
  refine sn_iast C hw layM_6 g_23 dX9_readPolicy_91 (fun H locs hw => ?_)
  obtain ⟨σ_24, e_25, hf⟩ := sn_ltE hf
  rw [← e_25] at hw
  refine lv_aload_n hx hb dX9_readPolicy_92 rfl (lv_at hl 1 rfl) ?_
  refine sn_getC (r := 6) C hw fd_RX9_31 layM_0 rfl dX9_readPolicy_93 ?_
  refine lv_iload_n hx hb dX9_readPolicy_96 rfl (lv_at hl 0 rfl) ?_
  refine lv_iconst (v := 4) hx hb dX9_readPolicy_97 rfl ?_
  refine lv_iadd hx hb dX9_readPolicy_98 ?_
  refine lv_aload_n hx hb dX9_readPolicy_99 rfl (lv_at hl 1 rfl) ?_
  refine va_ldcS (tx := "pays") (q := ad (1000 + 15)) hx hb C.2.2.2.1 (sn_sr_31 C.2.2.2.2.2.2.2.2.2) dX9_readPolicy_100 ?_
  refine lv_iconst (v := 0) hx hb dX9_readPolicy_102 rfl ?_
  refine lv_bipush (v := 99) hx hb dX9_readPolicy_103 (by decide) ?_
  obtain ⟨t_26, h_27, hf⟩ := sn_bd hf
  refine sn_callVi (rest := [.int (y_2 + (4 : Int32)), .ref (ad 6)]) C hw (ctX9_told l  h_27) kl_RX9_179 layM_0 rfl rfl rfl rfl (Nat.le_of_ble_eq_true rfl) dX9_readPolicy_105 hl.1 (fun H locs hw => ?_)
  obtain ⟨g_28, hf⟩ := sn_gdE hf
  refine sn_iast C hw layM_6 g_28 dX9_readPolicy_108 (fun H locs hw => ?_)
  obtain ⟨σ_29, e_30, hf⟩ := sn_ltE hf
  rw [← e_30] at hw
  refine lv_aload_n hx hb dX9_readPolicy_109 rfl (lv_at hl 1 rfl) ?_
  refine sn_getC (r := 6) C hw fd_RX9_31 layM_0 rfl dX9_readPolicy_110 ?_
  refine lv_bipush (v := 8) hx hb dX9_readPolicy_113 (by decide) ?_
  refine lv_dup2_11 hx hb dX9_readPolicy_115 rfl rfl ?_
  obtain ⟨g_31, hf⟩ := sn_gdE hf
  refine sn_iald C hw layM_6 g_31 dX9_readPolicy_116 ?_
  refine lv_iconst (v := 1) hx hb dX9_readPolicy_117 rfl ?_
  refine lv_iadd hx hb dX9_readPolicy_118 ?_
  obtain ⟨g_32, hf⟩ := sn_gdE hf
  refine sn_iast C hw layM_6 g_32 dX9_readPolicy_119 (fun H locs hw => ?_)
  obtain ⟨σ_33, e_34, hf⟩ := sn_ltE hf
  rw [← e_34] at hw
  cases hf
  exact kr _ _ _ _ hw rfl dX9_readPolicy_120
theorem ctX9_readPolicy (l : Launch) {σ : sn_S}  {o : sn_S} (hf : fX9_readPolicy σ = some o) : sn_M l yX9_readPolicy cX9_readPolicy 2 none rmX9_readPolicy layM (fun ad => [.ref (ad 0)]) σ none o :=
  sn_met (by decide) (fun _ => Nat.le_of_ble_eq_true rfl) (fun p e s m args below meth c ls D ct ad A C hw hl => wX9_readPolicy_in C  hf (fun H locs ls pc hw ok hd => sn_vret C hw hd) _ _ _ hw hl)
-- X9_readNext
abbrev rmX9_readNext : Room := { frames := 9, cells := 0, slots := 0, locals := 195 }
def BX9_readNext_143 (σ : sn_S) : Option (sn_S) :=
  ((fX9_good σ).bind fun t_1 => (if t_1 = 0 then
  (some σ)
  else
  ((fX9_takes σ 6).bind fun t_4 => (if t_4.1 = 0 then
  ((fX9_takes t_4.2 7).bind fun t_7 => (if t_7.1 = 0 then
  ((fX9_takes t_7.2 8).bind fun t_10 => (if t_10.1 = 0 then
  ((fX9_advance t_10.2).bind fun t_13 => ((fX9_readPolicy t_13).bind fun t_15 => (some t_15)))
  else
  ((fX9_readNet t_10.2).bind fun t_17 => (some t_17))))
  else
  (sn_gd (sn_in (6 : Int32) 119) (sn_lt ((23 : Int32) + ((2 : Int32) * (sn_I t_7.2 6 (6 : Int32).toNatClampNeg))) fun y_20 => ((fX9_number t_7.2 (1 : Int32) (9 : Int32)).bind fun t_22 => (sn_gd (sn_in y_20 119) (sn_lt (sn_pI t_22.2 6 y_20.toNatClampNeg t_22.1) fun σ_25 => ((fX9_told σ_25 11 (0 : Int32) (29 : Int32)).bind fun t_27 => (sn_gd (sn_in (y_20 + (1 : Int32)) 119) (sn_lt (sn_pI t_27.2 6 (y_20 + (1 : Int32)).toNatClampNeg t_27.1) fun σ_30 => (sn_gd (sn_in (6 : Int32) 119) (sn_gd (sn_in (6 : Int32) 119) (sn_lt (sn_pI σ_30 6 (6 : Int32).toNatClampNeg ((sn_I σ_30 6 (6 : Int32).toNatClampNeg) + (1 : Int32))) fun σ_34 => (some σ_34))))))))))))))
  else
  (sn_gd (sn_in (5 : Int32) 119) (sn_lt ((11 : Int32) + ((2 : Int32) * (sn_I t_4.2 6 (5 : Int32).toNatClampNeg))) fun y_37 => ((fX9_number t_4.2 (0 : Int32) (9 : Int32)).bind fun t_39 => (sn_gd (sn_in y_37 119) (sn_lt (sn_pI t_39.2 6 y_37.toNatClampNeg t_39.1) fun σ_42 => ((fX9_told σ_42 10 (1 : Int32) (99 : Int32)).bind fun t_44 => (sn_gd (sn_in (y_37 + (1 : Int32)) 119) (sn_lt (sn_pI t_44.2 6 (y_37 + (1 : Int32)).toNatClampNeg t_44.1) fun σ_47 => (sn_gd (sn_in (5 : Int32) 119) (sn_gd (sn_in (5 : Int32) 119) (sn_lt (sn_pI σ_47 6 (5 : Int32).toNatClampNeg ((sn_I σ_47 6 (5 : Int32).toNatClampNeg) + (1 : Int32))) fun σ_51 => (some σ_51))))))))))))))))
def BX9_readNext_138 (σ : sn_S) : Option (sn_S) :=
  ((fX9_errs σ (3 : Int32)).bind fun t_1 => (BX9_readNext_143 t_1))
def BX9_readNext_117 (σ : sn_S) : Option (sn_S) :=
  ((fX9_is σ 9).bind fun t_1 => (if t_1 = 0 then
  (BX9_readNext_143 σ)
  else
  (sn_gd (sn_in (8 : Int32) 119) (if (sn_I σ 6 (8 : Int32).toNatClampNeg) = (6 : Int32) then
  (BX9_readNext_138 σ)
  else
  (BX9_readNext_143 σ)))))
def BX9_readNext_96 (σ : sn_S) : Option (sn_S) :=
  ((fX9_is σ 8).bind fun t_1 => (if t_1 = 0 then
  (BX9_readNext_117 σ)
  else
  (sn_gd (sn_in (7 : Int32) 119) (if (sn_I σ 6 (7 : Int32).toNatClampNeg) = (8 : Int32) then
  (BX9_readNext_138 σ)
  else
  (BX9_readNext_117 σ)))))
def BX9_readNext_91 (σ : sn_S) : Option (sn_S) :=
  ((fX9_errs σ (3 : Int32)).bind fun t_1 => (BX9_readNext_96 t_1))
def BX9_readNext_71 (σ : sn_S) : Option (sn_S) :=
  ((fX9_is σ 7).bind fun t_1 => (if t_1 = 0 then
  (BX9_readNext_96 σ)
  else
  (sn_gd (sn_in (6 : Int32) 119) (if (sn_I σ 6 (6 : Int32).toNatClampNeg) = (5 : Int32) then
  (BX9_readNext_91 σ)
  else
  (BX9_readNext_96 σ)))))
def BX9_readNext_51 (σ : sn_S) : Option (sn_S) :=
  ((fX9_is σ 6).bind fun t_1 => (if t_1 = 0 then
  (BX9_readNext_71 σ)
  else
  (sn_gd (sn_in (5 : Int32) 119) (if (sn_I σ 6 (5 : Int32).toNatClampNeg) = (6 : Int32) then
  (BX9_readNext_91 σ)
  else
  (BX9_readNext_71 σ)))))
def BX9_readNext_41 (σ : sn_S) (t0 : Int32) : Option (sn_S) :=
  (if t0 = 0 then
  ((fX9_errs σ (1 : Int32)).bind fun t_2 => (BX9_readNext_51 t_2))
  else
  (BX9_readNext_51 σ))
def BX9_readNext_36 (σ : sn_S) : Option (sn_S) :=
  (BX9_readNext_41 σ (1 : Int32))
def fX9_readNext (σ : sn_S) : Option sn_S :=
  ((fX9_is σ 6).bind fun t_1 => (if t_1 = 0 then
  ((fX9_is σ 7).bind fun t_4 => (if t_4 = 0 then
  ((fX9_is σ 8).bind fun t_7 => (if t_7 = 0 then
  ((fX9_is σ 9).bind fun t_10 => (if t_10 = 0 then
  (BX9_readNext_41 σ (0 : Int32))
  else
  (BX9_readNext_36 σ)))
  else
  (BX9_readNext_36 σ)))
  else
  (BX9_readNext_36 σ)))
  else
  (BX9_readNext_36 σ)))
theorem wX9_readNext_143 (C : sn_C p s m args meth c RX9 cX9_readNext 3 none D ct ad layM A) {σ : sn_S}  {o : sn_S} (hf : BX9_readNext_143 σ = some o) (kr : sn_Kr p l e rmX9_readNext s m args below meth c Q D ct ad layM A cX9_readNext .return_ (true) o []) : sn_At p l e rmX9_readNext s m args below meth c Q D ct ad layM A 3 σ 143 [(0, .ref (ad 0))] [] := by
  intro H locs ls hw hl
  have hx := C.1
  have hb := C.2.1
  unfold BX9_readNext_143 at hf
  refine lv_aload_n hx hb dX9_readNext_143 rfl (lv_at hl 0 rfl) ?_
  obtain ⟨t_1, h_2, hf⟩ := sn_bd hf
  refine sn_callVi (rest := []) C hw (ctX9_good l  h_2) kl_RX9_140 layM_0 rfl rfl rfl rfl (Nat.le_of_ble_eq_true rfl) dX9_readNext_144 hl.1 (fun H locs hw => ?_)
  refine lv_if_ne (tgt := 151) hx hb dX9_readNext_147 (by decide) (fun c_3 => ?_) (fun c_3 => ?_)
  · have hf := sn_el c_3 hf
    refine lv_aload_n hx hb dX9_readNext_151 rfl (lv_at hl 0 rfl) ?_
    refine va_ldcS (tx := "nose") (q := ad (1000 + 6)) hx hb C.2.2.2.1 (sn_sr_22 C.2.2.2.2.2.2.2.2.2) dX9_readNext_152 ?_
    obtain ⟨t_4, h_5, hf⟩ := sn_bd hf
    refine sn_callVi (rest := []) C hw (ctX9_takes l  h_5) kl_RX9_161 layM_0 rfl rfl rfl rfl (Nat.le_of_ble_eq_true rfl) dX9_readNext_154 hl.1 (fun H locs hw => ?_)
    refine lv_if_eq (tgt := 215) hx hb dX9_readNext_157 (by decide) (fun c_6 => ?_) (fun c_6 => ?_)
    · have hf := sn_if c_6 hf
      refine lv_aload_n hx hb dX9_readNext_215 rfl (lv_at hl 0 rfl) ?_
      refine va_ldcS (tx := "gust") (q := ad (1000 + 7)) hx hb C.2.2.2.1 (sn_sr_23 C.2.2.2.2.2.2.2.2.2) dX9_readNext_216 ?_
      obtain ⟨t_7, h_8, hf⟩ := sn_bd hf
      refine sn_callVi (rest := []) C hw (ctX9_takes l  h_8) kl_RX9_161 layM_0 rfl rfl rfl rfl (Nat.le_of_ble_eq_true rfl) dX9_readNext_218 hl.1 (fun H locs hw => ?_)
      refine lv_if_eq (tgt := 281) hx hb dX9_readNext_221 (by decide) (fun c_9 => ?_) (fun c_9 => ?_)
      · have hf := sn_if c_9 hf
        refine lv_aload_n hx hb dX9_readNext_281 rfl (lv_at hl 0 rfl) ?_
        refine va_ldcS (tx := "net") (q := ad (1000 + 8)) hx hb C.2.2.2.1 (sn_sr_24 C.2.2.2.2.2.2.2.2.2) dX9_readNext_282 ?_
        obtain ⟨t_10, h_11, hf⟩ := sn_bd hf
        refine sn_callVi (rest := []) C hw (ctX9_takes l  h_11) kl_RX9_161 layM_0 rfl rfl rfl rfl (Nat.le_of_ble_eq_true rfl) dX9_readNext_284 hl.1 (fun H locs hw => ?_)
        refine lv_if_eq (tgt := 297) hx hb dX9_readNext_287 (by decide) (fun c_12 => ?_) (fun c_12 => ?_)
        · have hf := sn_if c_12 hf
          refine lv_aload_n hx hb dX9_readNext_297 rfl (lv_at hl 0 rfl) ?_
          obtain ⟨t_13, h_14, hf⟩ := sn_bd hf
          refine sn_callVv (rest := []) C hw (ctX9_advance l  h_14) kl_RX9_158 layM_0 rfl rfl rfl rfl (Nat.le_of_ble_eq_true rfl) dX9_readNext_298 hl.1 (fun H locs hw => ?_)
          refine lv_aload_n hx hb dX9_readNext_301 rfl (lv_at hl 0 rfl) ?_
          obtain ⟨t_15, h_16, hf⟩ := sn_bd hf
          refine sn_callVv (rest := []) C hw (ctX9_readPolicy l  h_16) kl_RX9_212 layM_0 rfl rfl rfl rfl (Nat.le_of_ble_eq_true rfl) dX9_readNext_302 hl.1 (fun H locs hw => ?_)
          cases hf
          exact kr _ _ _ _ hw rfl dX9_readNext_305
        · have hf := sn_el c_12 hf
          refine lv_aload_n hx hb dX9_readNext_290 rfl (lv_at hl 0 rfl) ?_
          obtain ⟨t_17, h_18, hf⟩ := sn_bd hf
          refine sn_callVv (rest := []) C hw (ctX9_readNet l  h_18) kl_RX9_209 layM_0 rfl rfl rfl rfl (Nat.le_of_ble_eq_true rfl) dX9_readNext_291 hl.1 (fun H locs hw => ?_)
          refine lv_goto (tgt := 305) hx hb dX9_readNext_294 (by decide) ?_
          cases hf
          exact kr _ _ _ _ hw rfl dX9_readNext_305
      · have hf := sn_el c_9 hf
        refine lv_bipush (v := 23) hx hb dX9_readNext_224 (by decide) ?_
        refine lv_iconst (v := 2) hx hb dX9_readNext_226 rfl ?_
        refine lv_aload_n hx hb dX9_readNext_227 rfl (lv_at hl 0 rfl) ?_
        refine sn_getC (r := 6) C hw fd_RX9_31 layM_0 rfl dX9_readNext_228 ?_
        refine lv_bipush (v := 6) hx hb dX9_readNext_231 (by decide) ?_
        obtain ⟨g_19, hf⟩ := sn_gdE hf
        refine sn_iald C hw layM_6 g_19 dX9_readNext_233 ?_
        refine lv_imul hx hb dX9_readNext_234 ?_
        refine lv_iadd hx hb dX9_readNext_235 ?_
        obtain ⟨y_20, e_21, hf⟩ := sn_ltE hf
        refine lv_topi (fun y_20_ e_21_ => ?_)
        obtain rfl : y_20 = y_20_ := e_21.trans e_21_.symm
        refine lv_istore_n (lv' := [(2, .int y_20), (0, .ref (ad 0))]) hx hb dX9_readNext_236 rfl hl (by decide) rfl (fun ls hl => ?_)
        refine lv_aload_n hx hb dX9_readNext_237 rfl (lv_at hl 1 rfl) ?_
        refine sn_getC (r := 6) C hw fd_RX9_31 layM_0 rfl dX9_readNext_238 ?_
        refine lv_iload_n hx hb dX9_readNext_241 rfl (lv_at hl 0 rfl) ?_
        refine lv_aload_n hx hb dX9_readNext_242 rfl (lv_at hl 1 rfl) ?_
        refine lv_iconst (v := 1) hx hb dX9_readNext_243 rfl ?_
        refine lv_bipush (v := 9) hx hb dX9_readNext_244 (by decide) ?_
        obtain ⟨t_22, h_23, hf⟩ := sn_bd hf
        refine sn_callVi (rest := [.int y_20, .ref (ad 6)]) C hw (ctX9_number l  h_23) kl_RX9_172 layM_0 rfl rfl rfl rfl (Nat.le_of_ble_eq_true rfl) dX9_readNext_246 hl.1 (fun H locs hw => ?_)
        obtain ⟨g_24, hf⟩ := sn_gdE hf
        refine sn_iast C hw layM_6 g_24 dX9_readNext_249 (fun H locs hw => ?_)
        obtain ⟨σ_25, e_26, hf⟩ := sn_ltE hf
        rw [← e_26] at hw
        refine lv_aload_n hx hb dX9_readNext_250 rfl (lv_at hl 1 rfl) ?_
        refine sn_getC (r := 6) C hw fd_RX9_31 layM_0 rfl dX9_readNext_251 ?_
        refine lv_iload_n hx hb dX9_readNext_254 rfl (lv_at hl 0 rfl) ?_
        refine lv_iconst (v := 1) hx hb dX9_readNext_255 rfl ?_
        refine lv_iadd hx hb dX9_readNext_256 ?_
        refine lv_aload_n hx hb dX9_readNext_257 rfl (lv_at hl 1 rfl) ?_
        refine va_ldcS (tx := "at") (q := ad (1000 + 11)) hx hb C.2.2.2.1 (sn_sr_27 C.2.2.2.2.2.2.2.2.2) dX9_readNext_258 ?_
        refine lv_iconst (v := 0) hx hb dX9_readNext_260 rfl ?_
        refine lv_bipush (v := 29) hx hb dX9_readNext_261 (by decide) ?_
        obtain ⟨t_27, h_28, hf⟩ := sn_bd hf
        refine sn_callVi (rest := [.int (y_20 + (1 : Int32)), .ref (ad 6)]) C hw (ctX9_told l  h_28) kl_RX9_179 layM_0 rfl rfl rfl rfl (Nat.le_of_ble_eq_true rfl) dX9_readNext_263 hl.1 (fun H locs hw => ?_)
        obtain ⟨g_29, hf⟩ := sn_gdE hf
        refine sn_iast C hw layM_6 g_29 dX9_readNext_266 (fun H locs hw => ?_)
        obtain ⟨σ_30, e_31, hf⟩ := sn_ltE hf
        rw [← e_31] at hw
        refine lv_aload_n hx hb dX9_readNext_267 rfl (lv_at hl 1 rfl) ?_
        refine sn_getC (r := 6) C hw fd_RX9_31 layM_0 rfl dX9_readNext_268 ?_
        refine lv_bipush (v := 6) hx hb dX9_readNext_271 (by decide) ?_
        refine lv_dup2_11 hx hb dX9_readNext_273 rfl rfl ?_
        obtain ⟨g_32, hf⟩ := sn_gdE hf
        refine sn_iald C hw layM_6 g_32 dX9_readNext_274 ?_
        refine lv_iconst (v := 1) hx hb dX9_readNext_275 rfl ?_
        refine lv_iadd hx hb dX9_readNext_276 ?_
        obtain ⟨g_33, hf⟩ := sn_gdE hf
        refine sn_iast C hw layM_6 g_33 dX9_readNext_277 (fun H locs hw => ?_)
        obtain ⟨σ_34, e_35, hf⟩ := sn_ltE hf
        rw [← e_35] at hw
        refine lv_goto (tgt := 305) hx hb dX9_readNext_278 (by decide) ?_
        cases hf
        exact kr _ _ _ _ hw rfl dX9_readNext_305
    · have hf := sn_el c_6 hf
      refine lv_bipush (v := 11) hx hb dX9_readNext_160 (by decide) ?_
      refine lv_iconst (v := 2) hx hb dX9_readNext_162 rfl ?_
      refine lv_aload_n hx hb dX9_readNext_163 rfl (lv_at hl 0 rfl) ?_
      refine sn_getC (r := 6) C hw fd_RX9_31 layM_0 rfl dX9_readNext_164 ?_
      refine lv_iconst (v := 5) hx hb dX9_readNext_167 rfl ?_
      obtain ⟨g_36, hf⟩ := sn_gdE hf
      refine sn_iald C hw layM_6 g_36 dX9_readNext_168 ?_
      refine lv_imul hx hb dX9_readNext_169 ?_
      refine lv_iadd hx hb dX9_readNext_170 ?_
      obtain ⟨y_37, e_38, hf⟩ := sn_ltE hf
      refine lv_topi (fun y_37_ e_38_ => ?_)
      obtain rfl : y_37 = y_37_ := e_38.trans e_38_.symm
      refine lv_istore_n (lv' := [(2, .int y_37), (0, .ref (ad 0))]) hx hb dX9_readNext_171 rfl hl (by decide) rfl (fun ls hl => ?_)
      refine lv_aload_n hx hb dX9_readNext_172 rfl (lv_at hl 1 rfl) ?_
      refine sn_getC (r := 6) C hw fd_RX9_31 layM_0 rfl dX9_readNext_173 ?_
      refine lv_iload_n hx hb dX9_readNext_176 rfl (lv_at hl 0 rfl) ?_
      refine lv_aload_n hx hb dX9_readNext_177 rfl (lv_at hl 1 rfl) ?_
      refine lv_iconst (v := 0) hx hb dX9_readNext_178 rfl ?_
      refine lv_bipush (v := 9) hx hb dX9_readNext_179 (by decide) ?_
      obtain ⟨t_39, h_40, hf⟩ := sn_bd hf
      refine sn_callVi (rest := [.int y_37, .ref (ad 6)]) C hw (ctX9_number l  h_40) kl_RX9_172 layM_0 rfl rfl rfl rfl (Nat.le_of_ble_eq_true rfl) dX9_readNext_181 hl.1 (fun H locs hw => ?_)
      obtain ⟨g_41, hf⟩ := sn_gdE hf
      refine sn_iast C hw layM_6 g_41 dX9_readNext_184 (fun H locs hw => ?_)
      obtain ⟨σ_42, e_43, hf⟩ := sn_ltE hf
      rw [← e_43] at hw
      refine lv_aload_n hx hb dX9_readNext_185 rfl (lv_at hl 1 rfl) ?_
      refine sn_getC (r := 6) C hw fd_RX9_31 layM_0 rfl dX9_readNext_186 ?_
      refine lv_iload_n hx hb dX9_readNext_189 rfl (lv_at hl 0 rfl) ?_
      refine lv_iconst (v := 1) hx hb dX9_readNext_190 rfl ?_
      refine lv_iadd hx hb dX9_readNext_191 ?_
      refine lv_aload_n hx hb dX9_readNext_192 rfl (lv_at hl 1 rfl) ?_
      refine va_ldcS (tx := "holds") (q := ad (1000 + 10)) hx hb C.2.2.2.1 (sn_sr_26 C.2.2.2.2.2.2.2.2.2) dX9_readNext_193 ?_
      refine lv_iconst (v := 1) hx hb dX9_readNext_195 rfl ?_
      refine lv_bipush (v := 99) hx hb dX9_readNext_196 (by decide) ?_
      obtain ⟨t_44, h_45, hf⟩ := sn_bd hf
      refine sn_callVi (rest := [.int (y_37 + (1 : Int32)), .ref (ad 6)]) C hw (ctX9_told l  h_45) kl_RX9_179 layM_0 rfl rfl rfl rfl (Nat.le_of_ble_eq_true rfl) dX9_readNext_198 hl.1 (fun H locs hw => ?_)
      obtain ⟨g_46, hf⟩ := sn_gdE hf
      refine sn_iast C hw layM_6 g_46 dX9_readNext_201 (fun H locs hw => ?_)
      obtain ⟨σ_47, e_48, hf⟩ := sn_ltE hf
      rw [← e_48] at hw
      refine lv_aload_n hx hb dX9_readNext_202 rfl (lv_at hl 1 rfl) ?_
      refine sn_getC (r := 6) C hw fd_RX9_31 layM_0 rfl dX9_readNext_203 ?_
      refine lv_iconst (v := 5) hx hb dX9_readNext_206 rfl ?_
      refine lv_dup2_11 hx hb dX9_readNext_207 rfl rfl ?_
      obtain ⟨g_49, hf⟩ := sn_gdE hf
      refine sn_iald C hw layM_6 g_49 dX9_readNext_208 ?_
      refine lv_iconst (v := 1) hx hb dX9_readNext_209 rfl ?_
      refine lv_iadd hx hb dX9_readNext_210 ?_
      obtain ⟨g_50, hf⟩ := sn_gdE hf
      refine sn_iast C hw layM_6 g_50 dX9_readNext_211 (fun H locs hw => ?_)
      obtain ⟨σ_51, e_52, hf⟩ := sn_ltE hf
      rw [← e_52] at hw
      refine lv_goto (tgt := 305) hx hb dX9_readNext_212 (by decide) ?_
      cases hf
      exact kr _ _ _ _ hw rfl dX9_readNext_305
  · have hf := sn_if c_3 hf
    cases hf
    exact kr _ _ _ _ hw rfl dX9_readNext_150
theorem wX9_readNext_138 (C : sn_C p s m args meth c RX9 cX9_readNext 3 none D ct ad layM A) {σ : sn_S}  {o : sn_S} (hf : BX9_readNext_138 σ = some o) (kr : sn_Kr p l e rmX9_readNext s m args below meth c Q D ct ad layM A cX9_readNext .return_ (true) o []) : sn_At p l e rmX9_readNext s m args below meth c Q D ct ad layM A 3 σ 138 [(0, .ref (ad 0))] [] := by
  intro H locs ls hw hl
  have hx := C.1
  have hb := C.2.1
  unfold BX9_readNext_138 at hf
  refine lv_aload_n hx hb dX9_readNext_138 rfl (lv_at hl 0 rfl) ?_
  refine lv_iconst (v := 3) hx hb dX9_readNext_139 rfl ?_
  obtain ⟨t_1, h_2, hf⟩ := sn_bd hf
  refine sn_callVv (rest := []) C hw (ctX9_errs l  h_2) kl_RX9_164 layM_0 rfl rfl rfl rfl (Nat.le_of_ble_eq_true rfl) dX9_readNext_140 hl.1 (fun H locs hw => ?_)
  exact wX9_readNext_143 C  hf kr _ _ _ hw (lv_sub hl [0] rfl)
theorem wX9_readNext_117 (C : sn_C p s m args meth c RX9 cX9_readNext 3 none D ct ad layM A) {σ : sn_S}  {o : sn_S} (hf : BX9_readNext_117 σ = some o) (kr : sn_Kr p l e rmX9_readNext s m args below meth c Q D ct ad layM A cX9_readNext .return_ (true) o []) : sn_At p l e rmX9_readNext s m args below meth c Q D ct ad layM A 3 σ 117 [(0, .ref (ad 0))] [] := by
  intro H locs ls hw hl
  have hx := C.1
  have hb := C.2.1
  unfold BX9_readNext_117 at hf
  refine lv_aload_n hx hb dX9_readNext_117 rfl (lv_at hl 0 rfl) ?_
  refine va_ldcS (tx := "policy") (q := ad (1000 + 9)) hx hb C.2.2.2.1 (sn_sr_25 C.2.2.2.2.2.2.2.2.2) dX9_readNext_118 ?_
  obtain ⟨t_1, h_2, hf⟩ := sn_bd hf
  refine sn_callVi (rest := []) C hw (ctX9_is l  h_2) kl_RX9_154 layM_0 rfl rfl rfl rfl (Nat.le_of_ble_eq_true rfl) dX9_readNext_120 hl.1 (fun H locs hw => ?_)
  refine lv_if_eq (tgt := 143) hx hb dX9_readNext_123 (by decide) (fun c_3 => ?_) (fun c_3 => ?_)
  · have hf := sn_if c_3 hf
    exact wX9_readNext_143 C  hf kr _ _ _ hw (lv_sub hl [0] rfl)
  · have hf := sn_el c_3 hf
    refine lv_aload_n hx hb dX9_readNext_126 rfl (lv_at hl 0 rfl) ?_
    refine sn_getC (r := 6) C hw fd_RX9_31 layM_0 rfl dX9_readNext_127 ?_
    refine lv_bipush (v := 8) hx hb dX9_readNext_130 (by decide) ?_
    obtain ⟨g_4, hf⟩ := sn_gdE hf
    refine sn_iald C hw layM_6 g_4 dX9_readNext_132 ?_
    refine lv_bipush (v := 6) hx hb dX9_readNext_133 (by decide) ?_
    refine lv_icmp_ne (tgt := 143) hx hb dX9_readNext_135 (by decide) (fun c_5 => ?_) (fun c_5 => ?_)
    · have hf := sn_el c_5 hf
      exact wX9_readNext_143 C  hf kr _ _ _ hw (lv_sub hl [0] rfl)
    · have hf := sn_if c_5 hf
      exact wX9_readNext_138 C  hf kr _ _ _ hw (lv_sub hl [0] rfl)
theorem wX9_readNext_96 (C : sn_C p s m args meth c RX9 cX9_readNext 3 none D ct ad layM A) {σ : sn_S}  {o : sn_S} (hf : BX9_readNext_96 σ = some o) (kr : sn_Kr p l e rmX9_readNext s m args below meth c Q D ct ad layM A cX9_readNext .return_ (true) o []) : sn_At p l e rmX9_readNext s m args below meth c Q D ct ad layM A 3 σ 96 [(0, .ref (ad 0))] [] := by
  intro H locs ls hw hl
  have hx := C.1
  have hb := C.2.1
  unfold BX9_readNext_96 at hf
  refine lv_aload_n hx hb dX9_readNext_96 rfl (lv_at hl 0 rfl) ?_
  refine va_ldcS (tx := "net") (q := ad (1000 + 8)) hx hb C.2.2.2.1 (sn_sr_24 C.2.2.2.2.2.2.2.2.2) dX9_readNext_97 ?_
  obtain ⟨t_1, h_2, hf⟩ := sn_bd hf
  refine sn_callVi (rest := []) C hw (ctX9_is l  h_2) kl_RX9_154 layM_0 rfl rfl rfl rfl (Nat.le_of_ble_eq_true rfl) dX9_readNext_99 hl.1 (fun H locs hw => ?_)
  refine lv_if_eq (tgt := 117) hx hb dX9_readNext_102 (by decide) (fun c_3 => ?_) (fun c_3 => ?_)
  · have hf := sn_if c_3 hf
    exact wX9_readNext_117 C  hf kr _ _ _ hw (lv_sub hl [0] rfl)
  · have hf := sn_el c_3 hf
    refine lv_aload_n hx hb dX9_readNext_105 rfl (lv_at hl 0 rfl) ?_
    refine sn_getC (r := 6) C hw fd_RX9_31 layM_0 rfl dX9_readNext_106 ?_
    refine lv_bipush (v := 7) hx hb dX9_readNext_109 (by decide) ?_
    obtain ⟨g_4, hf⟩ := sn_gdE hf
    refine sn_iald C hw layM_6 g_4 dX9_readNext_111 ?_
    refine lv_bipush (v := 8) hx hb dX9_readNext_112 (by decide) ?_
    refine lv_icmp_eq (tgt := 138) hx hb dX9_readNext_114 (by decide) (fun c_5 => ?_) (fun c_5 => ?_)
    · have hf := sn_if c_5 hf
      exact wX9_readNext_138 C  hf kr _ _ _ hw (lv_sub hl [0] rfl)
    · have hf := sn_el c_5 hf
      exact wX9_readNext_117 C  hf kr _ _ _ hw (lv_sub hl [0] rfl)
theorem wX9_readNext_91 (C : sn_C p s m args meth c RX9 cX9_readNext 3 none D ct ad layM A) {σ : sn_S}  {o : sn_S} (hf : BX9_readNext_91 σ = some o) (kr : sn_Kr p l e rmX9_readNext s m args below meth c Q D ct ad layM A cX9_readNext .return_ (true) o []) : sn_At p l e rmX9_readNext s m args below meth c Q D ct ad layM A 3 σ 91 [(0, .ref (ad 0))] [] := by
  intro H locs ls hw hl
  have hx := C.1
  have hb := C.2.1
  unfold BX9_readNext_91 at hf
  refine lv_aload_n hx hb dX9_readNext_91 rfl (lv_at hl 0 rfl) ?_
  refine lv_iconst (v := 3) hx hb dX9_readNext_92 rfl ?_
  obtain ⟨t_1, h_2, hf⟩ := sn_bd hf
  refine sn_callVv (rest := []) C hw (ctX9_errs l  h_2) kl_RX9_164 layM_0 rfl rfl rfl rfl (Nat.le_of_ble_eq_true rfl) dX9_readNext_93 hl.1 (fun H locs hw => ?_)
  exact wX9_readNext_96 C  hf kr _ _ _ hw (lv_sub hl [0] rfl)
theorem wX9_readNext_71 (C : sn_C p s m args meth c RX9 cX9_readNext 3 none D ct ad layM A) {σ : sn_S}  {o : sn_S} (hf : BX9_readNext_71 σ = some o) (kr : sn_Kr p l e rmX9_readNext s m args below meth c Q D ct ad layM A cX9_readNext .return_ (true) o []) : sn_At p l e rmX9_readNext s m args below meth c Q D ct ad layM A 3 σ 71 [(0, .ref (ad 0))] [] := by
  intro H locs ls hw hl
  have hx := C.1
  have hb := C.2.1
  unfold BX9_readNext_71 at hf
  refine lv_aload_n hx hb dX9_readNext_71 rfl (lv_at hl 0 rfl) ?_
  refine va_ldcS (tx := "gust") (q := ad (1000 + 7)) hx hb C.2.2.2.1 (sn_sr_23 C.2.2.2.2.2.2.2.2.2) dX9_readNext_72 ?_
  obtain ⟨t_1, h_2, hf⟩ := sn_bd hf
  refine sn_callVi (rest := []) C hw (ctX9_is l  h_2) kl_RX9_154 layM_0 rfl rfl rfl rfl (Nat.le_of_ble_eq_true rfl) dX9_readNext_74 hl.1 (fun H locs hw => ?_)
  refine lv_if_eq (tgt := 96) hx hb dX9_readNext_77 (by decide) (fun c_3 => ?_) (fun c_3 => ?_)
  · have hf := sn_if c_3 hf
    exact wX9_readNext_96 C  hf kr _ _ _ hw (lv_sub hl [0] rfl)
  · have hf := sn_el c_3 hf
    refine lv_aload_n hx hb dX9_readNext_80 rfl (lv_at hl 0 rfl) ?_
    refine sn_getC (r := 6) C hw fd_RX9_31 layM_0 rfl dX9_readNext_81 ?_
    refine lv_bipush (v := 6) hx hb dX9_readNext_84 (by decide) ?_
    obtain ⟨g_4, hf⟩ := sn_gdE hf
    refine sn_iald C hw layM_6 g_4 dX9_readNext_86 ?_
    refine lv_iconst (v := 5) hx hb dX9_readNext_87 rfl ?_
    refine lv_icmp_ne (tgt := 96) hx hb dX9_readNext_88 (by decide) (fun c_5 => ?_) (fun c_5 => ?_)
    · have hf := sn_el c_5 hf
      exact wX9_readNext_96 C  hf kr _ _ _ hw (lv_sub hl [0] rfl)
    · have hf := sn_if c_5 hf
      exact wX9_readNext_91 C  hf kr _ _ _ hw (lv_sub hl [0] rfl)
theorem wX9_readNext_51 (C : sn_C p s m args meth c RX9 cX9_readNext 3 none D ct ad layM A) {σ : sn_S}  {o : sn_S} (hf : BX9_readNext_51 σ = some o) (kr : sn_Kr p l e rmX9_readNext s m args below meth c Q D ct ad layM A cX9_readNext .return_ (true) o []) : sn_At p l e rmX9_readNext s m args below meth c Q D ct ad layM A 3 σ 51 [(0, .ref (ad 0))] [] := by
  intro H locs ls hw hl
  have hx := C.1
  have hb := C.2.1
  unfold BX9_readNext_51 at hf
  refine lv_aload_n hx hb dX9_readNext_51 rfl (lv_at hl 0 rfl) ?_
  refine va_ldcS (tx := "nose") (q := ad (1000 + 6)) hx hb C.2.2.2.1 (sn_sr_22 C.2.2.2.2.2.2.2.2.2) dX9_readNext_52 ?_
  obtain ⟨t_1, h_2, hf⟩ := sn_bd hf
  refine sn_callVi (rest := []) C hw (ctX9_is l  h_2) kl_RX9_154 layM_0 rfl rfl rfl rfl (Nat.le_of_ble_eq_true rfl) dX9_readNext_54 hl.1 (fun H locs hw => ?_)
  refine lv_if_eq (tgt := 71) hx hb dX9_readNext_57 (by decide) (fun c_3 => ?_) (fun c_3 => ?_)
  · have hf := sn_if c_3 hf
    exact wX9_readNext_71 C  hf kr _ _ _ hw (lv_sub hl [0] rfl)
  · have hf := sn_el c_3 hf
    refine lv_aload_n hx hb dX9_readNext_60 rfl (lv_at hl 0 rfl) ?_
    refine sn_getC (r := 6) C hw fd_RX9_31 layM_0 rfl dX9_readNext_61 ?_
    refine lv_iconst (v := 5) hx hb dX9_readNext_64 rfl ?_
    obtain ⟨g_4, hf⟩ := sn_gdE hf
    refine sn_iald C hw layM_6 g_4 dX9_readNext_65 ?_
    refine lv_bipush (v := 6) hx hb dX9_readNext_66 (by decide) ?_
    refine lv_icmp_eq (tgt := 91) hx hb dX9_readNext_68 (by decide) (fun c_5 => ?_) (fun c_5 => ?_)
    · have hf := sn_if c_5 hf
      exact wX9_readNext_91 C  hf kr _ _ _ hw (lv_sub hl [0] rfl)
    · have hf := sn_el c_5 hf
      exact wX9_readNext_71 C  hf kr _ _ _ hw (lv_sub hl [0] rfl)
theorem wX9_readNext_41 (C : sn_C p s m args meth c RX9 cX9_readNext 3 none D ct ad layM A) {σ : sn_S} {t0 : Int32}  {o : sn_S} (hf : BX9_readNext_41 σ t0 = some o) (kr : sn_Kr p l e rmX9_readNext s m args below meth c Q D ct ad layM A cX9_readNext .return_ (true) o []) : sn_At p l e rmX9_readNext s m args below meth c Q D ct ad layM A 3 σ 41 [(0, .ref (ad 0))] [.int t0] := by
  intro H locs ls hw hl
  have hx := C.1
  have hb := C.2.1
  unfold BX9_readNext_41 at hf
  refine lv_istore_n (lv' := [(1, .int t0), (0, .ref (ad 0))]) hx hb dX9_readNext_41 rfl hl (by decide) rfl (fun ls hl => ?_)
  refine lv_iload_n hx hb dX9_readNext_42 rfl (lv_at hl 0 rfl) ?_
  refine lv_if_ne (tgt := 51) hx hb dX9_readNext_43 (by decide) (fun c_1 => ?_) (fun c_1 => ?_)
  · have hf := sn_el c_1 hf
    exact wX9_readNext_51 C  hf kr _ _ _ hw (lv_sub hl [1] rfl)
  · have hf := sn_if c_1 hf
    refine lv_aload_n hx hb dX9_readNext_46 rfl (lv_at hl 1 rfl) ?_
    refine lv_iconst (v := 1) hx hb dX9_readNext_47 rfl ?_
    obtain ⟨t_2, h_3, hf⟩ := sn_bd hf
    refine sn_callVv (rest := []) C hw (ctX9_errs l  h_3) kl_RX9_164 layM_0 rfl rfl rfl rfl (Nat.le_of_ble_eq_true rfl) dX9_readNext_48 hl.1 (fun H locs hw => ?_)
    exact wX9_readNext_51 C  hf kr _ _ _ hw (lv_sub hl [1] rfl)
theorem wX9_readNext_36 (C : sn_C p s m args meth c RX9 cX9_readNext 3 none D ct ad layM A) {σ : sn_S}  {o : sn_S} (hf : BX9_readNext_36 σ = some o) (kr : sn_Kr p l e rmX9_readNext s m args below meth c Q D ct ad layM A cX9_readNext .return_ (true) o []) : sn_At p l e rmX9_readNext s m args below meth c Q D ct ad layM A 3 σ 36 [(0, .ref (ad 0))] [] := by
  intro H locs ls hw hl
  have hx := C.1
  have hb := C.2.1
  unfold BX9_readNext_36 at hf
  refine lv_iconst (v := 1) hx hb dX9_readNext_36 rfl ?_
  refine lv_goto (tgt := 41) hx hb dX9_readNext_37 (by decide) ?_
  exact wX9_readNext_41 C  hf kr _ _ _ hw (lv_sub hl [0] rfl)
theorem wX9_readNext_in (C : sn_C p s m args meth c RX9 cX9_readNext 3 none D ct ad layM A) {σ : sn_S}  {o : sn_S} (hf : fX9_readNext σ = some o) (kr : sn_Kr p l e rmX9_readNext s m args below meth c Q D ct ad layM A cX9_readNext .return_ (true) o []) : sn_At p l e rmX9_readNext s m args below meth c Q D ct ad layM A 3 σ 0 [(0, .ref (ad 0))] [] := by
  intro H locs ls hw hl
  have hx := C.1
  have hb := C.2.1
  unfold fX9_readNext at hf
  refine lv_aload_n hx hb dX9_readNext_0 rfl (lv_at hl 0 rfl) ?_
  refine va_ldcS (tx := "nose") (q := ad (1000 + 6)) hx hb C.2.2.2.1 (sn_sr_22 C.2.2.2.2.2.2.2.2.2) dX9_readNext_1 ?_
  obtain ⟨t_1, h_2, hf⟩ := sn_bd hf
  refine sn_callVi (rest := []) C hw (ctX9_is l  h_2) kl_RX9_154 layM_0 rfl rfl rfl rfl (Nat.le_of_ble_eq_true rfl) dX9_readNext_3 hl.1 (fun H locs hw => ?_)
  refine lv_if_ne (tgt := 36) hx hb dX9_readNext_6 (by decide) (fun c_3 => ?_) (fun c_3 => ?_)
  · have hf := sn_el c_3 hf
    exact wX9_readNext_36 C  hf kr _ _ _ hw (lv_sub hl [0] rfl)
  · have hf := sn_if c_3 hf
    refine lv_aload_n hx hb dX9_readNext_9 rfl (lv_at hl 0 rfl) ?_
    refine va_ldcS (tx := "gust") (q := ad (1000 + 7)) hx hb C.2.2.2.1 (sn_sr_23 C.2.2.2.2.2.2.2.2.2) dX9_readNext_10 ?_
    obtain ⟨t_4, h_5, hf⟩ := sn_bd hf
    refine sn_callVi (rest := []) C hw (ctX9_is l  h_5) kl_RX9_154 layM_0 rfl rfl rfl rfl (Nat.le_of_ble_eq_true rfl) dX9_readNext_12 hl.1 (fun H locs hw => ?_)
    refine lv_if_ne (tgt := 36) hx hb dX9_readNext_15 (by decide) (fun c_6 => ?_) (fun c_6 => ?_)
    · have hf := sn_el c_6 hf
      exact wX9_readNext_36 C  hf kr _ _ _ hw (lv_sub hl [0] rfl)
    · have hf := sn_if c_6 hf
      refine lv_aload_n hx hb dX9_readNext_18 rfl (lv_at hl 0 rfl) ?_
      refine va_ldcS (tx := "net") (q := ad (1000 + 8)) hx hb C.2.2.2.1 (sn_sr_24 C.2.2.2.2.2.2.2.2.2) dX9_readNext_19 ?_
      obtain ⟨t_7, h_8, hf⟩ := sn_bd hf
      refine sn_callVi (rest := []) C hw (ctX9_is l  h_8) kl_RX9_154 layM_0 rfl rfl rfl rfl (Nat.le_of_ble_eq_true rfl) dX9_readNext_21 hl.1 (fun H locs hw => ?_)
      refine lv_if_ne (tgt := 36) hx hb dX9_readNext_24 (by decide) (fun c_9 => ?_) (fun c_9 => ?_)
      · have hf := sn_el c_9 hf
        exact wX9_readNext_36 C  hf kr _ _ _ hw (lv_sub hl [0] rfl)
      · have hf := sn_if c_9 hf
        refine lv_aload_n hx hb dX9_readNext_27 rfl (lv_at hl 0 rfl) ?_
        refine va_ldcS (tx := "policy") (q := ad (1000 + 9)) hx hb C.2.2.2.1 (sn_sr_25 C.2.2.2.2.2.2.2.2.2) dX9_readNext_28 ?_
        obtain ⟨t_10, h_11, hf⟩ := sn_bd hf
        refine sn_callVi (rest := []) C hw (ctX9_is l  h_11) kl_RX9_154 layM_0 rfl rfl rfl rfl (Nat.le_of_ble_eq_true rfl) dX9_readNext_30 hl.1 (fun H locs hw => ?_)
        refine lv_if_eq (tgt := 40) hx hb dX9_readNext_33 (by decide) (fun c_12 => ?_) (fun c_12 => ?_)
        · have hf := sn_if c_12 hf
          refine lv_iconst (v := 0) hx hb dX9_readNext_40 rfl ?_
          exact wX9_readNext_41 C  hf kr _ _ _ hw (lv_sub hl [0] rfl)
        · have hf := sn_el c_12 hf
          exact wX9_readNext_36 C  hf kr _ _ _ hw (lv_sub hl [0] rfl)
theorem ctX9_readNext (l : Launch) {σ : sn_S}  {o : sn_S} (hf : fX9_readNext σ = some o) : sn_M l yX9_readNext cX9_readNext 3 none rmX9_readNext layM (fun ad => [.ref (ad 0)]) σ none o :=
  sn_met (by decide) (fun _ => Nat.le_of_ble_eq_true rfl) (fun p e s m args below meth c ls D ct ad A C hw hl => wX9_readNext_in C  hf (fun H locs ls pc hw ok hd => sn_vret C hw hd) _ _ _ hw hl)
-- X9_readLine
abbrev rmX9_readLine : Room := { frames := 10, cells := 0, slots := 0, locals := 217 }
def BX9_readLine_52 (σ : sn_S) : Option (sn_S) :=
  (sn_gd (sn_in (10 : Int32) 119) (sn_gd (sn_in (10 : Int32) 119) (sn_lt (sn_pI σ 6 (10 : Int32).toNatClampNeg ((sn_I σ 6 (10 : Int32).toNatClampNeg) + (1 : Int32))) fun σ_3 => (some σ_3))))
def BX9_readLine_41 (σ : sn_S) : Option (sn_S) :=
  ((fX9_good σ).bind fun t_1 => (if t_1 = 0 then
  (BX9_readLine_52 σ)
  else
  ((fX9_advance σ).bind fun t_4 => (BX9_readLine_52 t_4))))
def BX9_readLine_21 (σ : sn_S) : Option (sn_S) :=
  ((fX9_good σ).bind fun t_1 => (if t_1 = 0 then
  (BX9_readLine_41 σ)
  else
  (if (sn_I σ 0 10) = (3 : Int32) then
  (BX9_readLine_41 σ)
  else
  ((fX9_errs σ (1 : Int32)).bind fun t_5 => (BX9_readLine_41 t_5)))))
def fX9_readLine (σ : sn_S) : Option sn_S :=
  (sn_gd (sn_in (10 : Int32) 119) (if (sn_I σ 6 (10 : Int32).toNatClampNeg) = 0 then
  ((fX9_readFirst σ).bind fun t_5 => (BX9_readLine_21 t_5))
  else
  ((fX9_readNext σ).bind fun t_3 => (BX9_readLine_21 t_3))))
theorem wX9_readLine_52 (C : sn_C p s m args meth c RX9 cX9_readLine 1 none D ct ad layM A) {σ : sn_S}  {o : sn_S} (hf : BX9_readLine_52 σ = some o) (kr : sn_Kr p l e rmX9_readLine s m args below meth c Q D ct ad layM A cX9_readLine .return_ (true) o []) : sn_At p l e rmX9_readLine s m args below meth c Q D ct ad layM A 1 σ 52 [(0, .ref (ad 0))] [] := by
  intro H locs ls hw hl
  have hx := C.1
  have hb := C.2.1
  unfold BX9_readLine_52 at hf
  refine lv_aload_n hx hb dX9_readLine_52 rfl (lv_at hl 0 rfl) ?_
  refine sn_getC (r := 6) C hw fd_RX9_31 layM_0 rfl dX9_readLine_53 ?_
  refine lv_bipush (v := 10) hx hb dX9_readLine_56 (by decide) ?_
  refine lv_dup2_11 hx hb dX9_readLine_58 rfl rfl ?_
  obtain ⟨g_1, hf⟩ := sn_gdE hf
  refine sn_iald C hw layM_6 g_1 dX9_readLine_59 ?_
  refine lv_iconst (v := 1) hx hb dX9_readLine_60 rfl ?_
  refine lv_iadd hx hb dX9_readLine_61 ?_
  obtain ⟨g_2, hf⟩ := sn_gdE hf
  refine sn_iast C hw layM_6 g_2 dX9_readLine_62 (fun H locs hw => ?_)
  obtain ⟨σ_3, e_4, hf⟩ := sn_ltE hf
  rw [← e_4] at hw
  cases hf
  exact kr _ _ _ _ hw rfl dX9_readLine_63
theorem wX9_readLine_41 (C : sn_C p s m args meth c RX9 cX9_readLine 1 none D ct ad layM A) {σ : sn_S}  {o : sn_S} (hf : BX9_readLine_41 σ = some o) (kr : sn_Kr p l e rmX9_readLine s m args below meth c Q D ct ad layM A cX9_readLine .return_ (true) o []) : sn_At p l e rmX9_readLine s m args below meth c Q D ct ad layM A 1 σ 41 [(0, .ref (ad 0))] [] := by
  intro H locs ls hw hl
  have hx := C.1
  have hb := C.2.1
  unfold BX9_readLine_41 at hf
  refine lv_aload_n hx hb dX9_readLine_41 rfl (lv_at hl 0 rfl) ?_
  obtain ⟨t_1, h_2, hf⟩ := sn_bd hf
  refine sn_callVi (rest := []) C hw (ctX9_good l  h_2) kl_RX9_140 layM_0 rfl rfl rfl rfl (Nat.le_of_ble_eq_true rfl) dX9_readLine_42 hl.1 (fun H locs hw => ?_)
  refine lv_if_eq (tgt := 52) hx hb dX9_readLine_45 (by decide) (fun c_3 => ?_) (fun c_3 => ?_)
  · have hf := sn_if c_3 hf
    exact wX9_readLine_52 C  hf kr _ _ _ hw (lv_sub hl [0] rfl)
  · have hf := sn_el c_3 hf
    refine lv_aload_n hx hb dX9_readLine_48 rfl (lv_at hl 0 rfl) ?_
    obtain ⟨t_4, h_5, hf⟩ := sn_bd hf
    refine sn_callVv (rest := []) C hw (ctX9_advance l  h_5) kl_RX9_158 layM_0 rfl rfl rfl rfl (Nat.le_of_ble_eq_true rfl) dX9_readLine_49 hl.1 (fun H locs hw => ?_)
    exact wX9_readLine_52 C  hf kr _ _ _ hw (lv_sub hl [0] rfl)
theorem wX9_readLine_21 (C : sn_C p s m args meth c RX9 cX9_readLine 1 none D ct ad layM A) {σ : sn_S}  {o : sn_S} (hf : BX9_readLine_21 σ = some o) (kr : sn_Kr p l e rmX9_readLine s m args below meth c Q D ct ad layM A cX9_readLine .return_ (true) o []) : sn_At p l e rmX9_readLine s m args below meth c Q D ct ad layM A 1 σ 21 [(0, .ref (ad 0))] [] := by
  intro H locs ls hw hl
  have hx := C.1
  have hb := C.2.1
  unfold BX9_readLine_21 at hf
  refine lv_aload_n hx hb dX9_readLine_21 rfl (lv_at hl 0 rfl) ?_
  obtain ⟨t_1, h_2, hf⟩ := sn_bd hf
  refine sn_callVi (rest := []) C hw (ctX9_good l  h_2) kl_RX9_140 layM_0 rfl rfl rfl rfl (Nat.le_of_ble_eq_true rfl) dX9_readLine_22 hl.1 (fun H locs hw => ?_)
  refine lv_if_eq (tgt := 41) hx hb dX9_readLine_25 (by decide) (fun c_3 => ?_) (fun c_3 => ?_)
  · have hf := sn_if c_3 hf
    exact wX9_readLine_41 C  hf kr _ _ _ hw (lv_sub hl [0] rfl)
  · have hf := sn_el c_3 hf
    refine lv_aload_n hx hb dX9_readLine_28 rfl (lv_at hl 0 rfl) ?_
    refine sn_getI C hw fd_RX9_116 layM_0 rfl dX9_readLine_29 ?_
    refine lv_iconst (v := 3) hx hb dX9_readLine_32 rfl ?_
    refine lv_icmp_eq (tgt := 41) hx hb dX9_readLine_33 (by decide) (fun c_4 => ?_) (fun c_4 => ?_)
    · have hf := sn_if c_4 hf
      exact wX9_readLine_41 C  hf kr _ _ _ hw (lv_sub hl [0] rfl)
    · have hf := sn_el c_4 hf
      refine lv_aload_n hx hb dX9_readLine_36 rfl (lv_at hl 0 rfl) ?_
      refine lv_iconst (v := 1) hx hb dX9_readLine_37 rfl ?_
      obtain ⟨t_5, h_6, hf⟩ := sn_bd hf
      refine sn_callVv (rest := []) C hw (ctX9_errs l  h_6) kl_RX9_164 layM_0 rfl rfl rfl rfl (Nat.le_of_ble_eq_true rfl) dX9_readLine_38 hl.1 (fun H locs hw => ?_)
      exact wX9_readLine_41 C  hf kr _ _ _ hw (lv_sub hl [0] rfl)
theorem wX9_readLine_in (C : sn_C p s m args meth c RX9 cX9_readLine 1 none D ct ad layM A) {σ : sn_S}  {o : sn_S} (hf : fX9_readLine σ = some o) (kr : sn_Kr p l e rmX9_readLine s m args below meth c Q D ct ad layM A cX9_readLine .return_ (true) o []) : sn_At p l e rmX9_readLine s m args below meth c Q D ct ad layM A 1 σ 0 [(0, .ref (ad 0))] [] := by
  intro H locs ls hw hl
  have hx := C.1
  have hb := C.2.1
  unfold fX9_readLine at hf
  refine lv_aload_n hx hb dX9_readLine_0 rfl (lv_at hl 0 rfl) ?_
  refine sn_getC (r := 6) C hw fd_RX9_31 layM_0 rfl dX9_readLine_1 ?_
  refine lv_bipush (v := 10) hx hb dX9_readLine_4 (by decide) ?_
  obtain ⟨g_1, hf⟩ := sn_gdE hf
  refine sn_iald C hw layM_6 g_1 dX9_readLine_6 ?_
  refine lv_if_ne (tgt := 17) hx hb dX9_readLine_7 (by decide) (fun c_2 => ?_) (fun c_2 => ?_)
  · have hf := sn_el c_2 hf
    refine lv_aload_n hx hb dX9_readLine_17 rfl (lv_at hl 0 rfl) ?_
    obtain ⟨t_3, h_4, hf⟩ := sn_bd hf
    refine sn_callVv (rest := []) C hw (ctX9_readNext l  h_4) kl_RX9_218 layM_0 rfl rfl rfl rfl (Nat.le_of_ble_eq_true rfl) dX9_readLine_18 hl.1 (fun H locs hw => ?_)
    exact wX9_readLine_21 C  hf kr _ _ _ hw (lv_sub hl [0] rfl)
  · have hf := sn_if c_2 hf
    refine lv_aload_n hx hb dX9_readLine_10 rfl (lv_at hl 0 rfl) ?_
    obtain ⟨t_5, h_6, hf⟩ := sn_bd hf
    refine sn_callVv (rest := []) C hw (ctX9_readFirst l  h_6) kl_RX9_215 layM_0 rfl rfl rfl rfl (Nat.le_of_ble_eq_true rfl) dX9_readLine_11 hl.1 (fun H locs hw => ?_)
    refine lv_goto (tgt := 21) hx hb dX9_readLine_14 (by decide) ?_
    exact wX9_readLine_21 C  hf kr _ _ _ hw (lv_sub hl [0] rfl)
theorem ctX9_readLine (l : Launch) {σ : sn_S}  {o : sn_S} (hf : fX9_readLine σ = some o) : sn_M l yX9_readLine cX9_readLine 1 none rmX9_readLine layM (fun ad => [.ref (ad 0)]) σ none o :=
  sn_met (by decide) (fun _ => Nat.le_of_ble_eq_true rfl) (fun p e s m args below meth c ls D ct ad A C hw hl => wX9_readLine_in C  hf (fun H locs ls pc hw ok hd => sn_vret C hw hd) _ _ _ hw hl)
-- X9_house
abbrev rmX9_house : Room := { frames := 11, cells := 0, slots := 0, locals := 237 }
def BX9_house_110 (σ : sn_S) : Option ((Int32 × sn_S)) :=
  (sn_gd (sn_in (10 : Int32) 119) (some ((sn_I σ 1 (10 : Int32).toNatClampNeg), σ)))
def BX9_house_86 (σ : sn_S) (x1 : Int32) : Option ((sn_S × Int32) ⊕ (sn_S)) :=
  (if (119 : Int32) ≤ x1 then
  (some (.inr (σ)))
  else
  (sn_gd (sn_in x1 119) (sn_gd (sn_in x1 119) (sn_lt (sn_pI σ 1 x1.toNatClampNeg (sn_I σ 6 x1.toNatClampNeg)) fun σ_4 => (sn_lt (x1 + 1) fun y_6 => (some (.inl (σ_4, y_6))))))))
def LX9_house_86  (s : sn_S × Int32) : Option ((sn_S × Int32) ⊕ (sn_S)) := BX9_house_86 s.1 s.2
def BX9_house_74 (σ : sn_S) : Option ((Int32 × sn_S)) :=
  ((fX9_good σ).bind fun t_1 => (if t_1 = 0 then
  (some ((-4 : Int32), σ))
  else
  ((sn_it (LX9_house_86 ) 5000 (σ, (0 : Int32))).bind fun t_4 => (BX9_house_110 t_4))))
def BX9_house_53 (σ : sn_S) : Option ((sn_S) ⊕ (sn_S)) :=
  ((fX9_good σ).bind fun t_1 => (if t_1 = 0 then
  (some (.inr (σ)))
  else
  (if (sn_I σ 0 10) = 0 then
  (some (.inr (σ)))
  else
  ((fX9_readLine σ).bind fun t_5 => (some (.inl (t_5)))))))
def LX9_house_53  (s : sn_S) : Option ((sn_S) ⊕ (sn_S)) := BX9_house_53 s
def BX9_house_49 (σ : sn_S) : Option ((Int32 × sn_S)) :=
  ((fX9_advance σ).bind fun t_1 => ((sn_it (LX9_house_53 ) 5000 (t_1)).bind fun t_3 => (BX9_house_74 t_3)))
def BX9_house_30 (σ : sn_S) (x1 : Int32) : Option ((sn_S × Int32) ⊕ (sn_S)) :=
  (if (119 : Int32) ≤ x1 then
  (some (.inr (σ)))
  else
  (sn_gd (sn_in x1 119) (sn_lt (sn_pI σ 6 x1.toNatClampNeg (0 : Int32)) fun σ_3 => (sn_lt (x1 + 1) fun y_5 => (some (.inl (σ_3, y_5)))))))
def LX9_house_30  (s : sn_S × Int32) : Option ((sn_S × Int32) ⊕ (sn_S)) := BX9_house_30 s.1 s.2
def fX9_house (σ : sn_S) : Option (Int32 × sn_S) :=
  (sn_lt (sn_pI σ 0 7 (sn_I σ 0 5)) fun σ_1 => (sn_lt (sn_pI σ_1 0 5 (0 : Int32)) fun σ_3 => (sn_lt (sn_pI σ_3 0 8 (0 : Int32)) fun σ_5 => (sn_lt (sn_pI σ_5 0 12 (0 : Int32)) fun σ_7 => (sn_lt (sn_pI σ_7 0 13 (-1 : Int32)) fun σ_9 => ((sn_it (LX9_house_30 ) 5000 (σ_9, (0 : Int32))).bind fun t_11 => (BX9_house_49 t_11)))))))
theorem wX9_house_110 (C : sn_C p s m args meth c RX9 cX9_house 2 (some .int) D ct ad layM A) {σ : sn_S}  {o : (Int32 × sn_S)} (hf : BX9_house_110 σ = some o) (kr : sn_Kr p l e rmX9_house s m args below meth c Q D ct ad layM A cX9_house .ireturn (true) o.2 [.int o.1]) : sn_At p l e rmX9_house s m args below meth c Q D ct ad layM A 2 σ 110 [(0, .ref (ad 0))] [] := by
  intro H locs ls hw hl
  have hx := C.1
  have hb := C.2.1
  unfold BX9_house_110 at hf
  refine lv_aload_n hx hb dX9_house_110 rfl (lv_at hl 0 rfl) ?_
  refine sn_getC (r := 1) C hw fd_RX9_9 layM_0 rfl dX9_house_111 ?_
  refine lv_bipush (v := 10) hx hb dX9_house_114 (by decide) ?_
  obtain ⟨g_1, hf⟩ := sn_gdE hf
  refine sn_iald C hw layM_1 g_1 dX9_house_116 ?_
  cases hf
  exact kr _ _ _ _ hw rfl dX9_house_117
theorem wX9_house_86 (C : sn_C p s m args meth c RX9 cX9_house 2 (some .int) D ct ad layM A) {σ : sn_S} {x1 : Int32}  {o : (sn_S × Int32) ⊕ (sn_S)} (hf : BX9_house_86 σ x1 = some o) (kc : ∀ v, o = .inl v → sn_At p l e rmX9_house s m args below meth c Q D ct ad layM A 2 v.1 86 [(0, .ref (ad 0)), (1, .int v.2)] []) (kx : ∀ v, o = .inr v → sn_At p l e rmX9_house s m args below meth c Q D ct ad layM A 2 v 110 [(0, .ref (ad 0))] []) : sn_At p l e rmX9_house s m args below meth c Q D ct ad layM A 2 σ 86 [(0, .ref (ad 0)), (1, .int x1)] [] := by
  intro H locs ls hw hl
  have hx := C.1
  have hb := C.2.1
  unfold BX9_house_86 at hf
  refine lv_iload_n hx hb dX9_house_86 rfl (lv_at hl 1 rfl) ?_
  refine lv_bipush (v := 119) hx hb dX9_house_87 (by decide) ?_
  refine lv_icmp_ge (tgt := 110) hx hb dX9_house_89 (by decide) (fun c_1 => ?_) (fun c_1 => ?_)
  · have hf := sn_if c_1 hf
    cases hf
    exact kx _ rfl _ _ _ hw (lv_sub hl [0] rfl)
  · have hf := sn_el c_1 hf
    refine lv_aload_n hx hb dX9_house_92 rfl (lv_at hl 0 rfl) ?_
    refine sn_getC (r := 1) C hw fd_RX9_9 layM_0 rfl dX9_house_93 ?_
    refine lv_iload_n hx hb dX9_house_96 rfl (lv_at hl 1 rfl) ?_
    refine lv_aload_n hx hb dX9_house_97 rfl (lv_at hl 0 rfl) ?_
    refine sn_getC (r := 6) C hw fd_RX9_31 layM_0 rfl dX9_house_98 ?_
    refine lv_iload_n hx hb dX9_house_101 rfl (lv_at hl 1 rfl) ?_
    obtain ⟨g_2, hf⟩ := sn_gdE hf
    refine sn_iald C hw layM_6 g_2 dX9_house_102 ?_
    obtain ⟨g_3, hf⟩ := sn_gdE hf
    refine sn_iast C hw layM_1 g_3 dX9_house_103 (fun H locs hw => ?_)
    obtain ⟨σ_4, e_5, hf⟩ := sn_ltE hf
    rw [← e_5] at hw
    obtain ⟨y_6, e_7, hf⟩ := sn_ltE hf
    refine lv_iinc (v := y_6) (lv' := [(1, .int y_6), (0, .ref (ad 0))]) hx hb dX9_house_104 hl (k := 1) rfl (by rw [e_7]; rfl) (by decide) rfl (fun ls hl => ?_)
    refine lv_goto (tgt := 86) hx hb dX9_house_107 (by decide) ?_
    cases hf
    exact kc _ rfl _ _ _ hw (lv_sub hl [1, 0] rfl)
theorem wX9_house_L86 (C : sn_C p s m args meth c RX9 cX9_house 2 (some .int) D ct ad layM A)    {z : sn_S × Int32} {t : sn_S} (h : sn_it (LX9_house_86 ) 5000 z = some t) (kx : ∀ v, t = v → sn_At p l e rmX9_house s m args below meth c Q D ct ad layM A 2 v 110 [(0, .ref (ad 0))] []) : sn_At p l e rmX9_house s m args below meth c Q D ct ad layM A 2 z.1 86 [(0, .ref (ad 0)), (1, .int z.2)] [] :=
  sn_loop (f := LX9_house_86 ) (G := fun z => sn_At p l e rmX9_house s m args below meth c Q D ct ad layM A 2 z.1 86 [(0, .ref (ad 0)), (1, .int z.2)] []) (E := fun t => (∀ v, t = v → sn_At p l e rmX9_house s m args below meth c Q D ct ad layM A 2 v 110 [(0, .ref (ad 0))] []) ∧ True) (fun z o hf k1 k2 => wX9_house_86 C  hf (fun v e => k1 v e) (fun v e => (k2 _ e).1 v rfl)) 5000 z t h ⟨kx, trivial⟩
theorem wX9_house_74 (C : sn_C p s m args meth c RX9 cX9_house 2 (some .int) D ct ad layM A) {σ : sn_S}  {o : (Int32 × sn_S)} (hf : BX9_house_74 σ = some o) (kr : sn_Kr p l e rmX9_house s m args below meth c Q D ct ad layM A cX9_house .ireturn (true) o.2 [.int o.1]) : sn_At p l e rmX9_house s m args below meth c Q D ct ad layM A 2 σ 74 [(0, .ref (ad 0))] [] := by
  intro H locs ls hw hl
  have hx := C.1
  have hb := C.2.1
  unfold BX9_house_74 at hf
  refine lv_aload_n hx hb dX9_house_74 rfl (lv_at hl 0 rfl) ?_
  obtain ⟨t_1, h_2, hf⟩ := sn_bd hf
  refine sn_callVi (rest := []) C hw (ctX9_good l  h_2) kl_RX9_140 layM_0 rfl rfl rfl rfl (Nat.le_of_ble_eq_true rfl) dX9_house_75 hl.1 (fun H locs hw => ?_)
  refine lv_if_ne (tgt := 84) hx hb dX9_house_78 (by decide) (fun c_3 => ?_) (fun c_3 => ?_)
  · have hf := sn_el c_3 hf
    refine lv_iconst (v := 0) hx hb dX9_house_84 rfl ?_
    refine lv_istore_n (lv' := [(1, .int (0 : Int32)), (0, .ref (ad 0))]) hx hb dX9_house_85 rfl hl (by decide) rfl (fun ls hl => ?_)
    obtain ⟨t_4, h_5, hf⟩ := sn_bd hf
    exact wX9_house_L86 C  h_5 (fun v e => by cases e; exact wX9_house_110 C  hf kr) _ _ _ hw (lv_sub hl [1, 0] rfl)
  · have hf := sn_if c_3 hf
    refine lv_bipush (v := (-4)) hx hb dX9_house_81 (by decide) ?_
    cases hf
    exact kr _ _ _ _ hw rfl dX9_house_83
theorem wX9_house_53 (C : sn_C p s m args meth c RX9 cX9_house 2 (some .int) D ct ad layM A) {σ : sn_S}  {o : (sn_S) ⊕ (sn_S)} (hf : BX9_house_53 σ = some o) (kc : ∀ v, o = .inl v → sn_At p l e rmX9_house s m args below meth c Q D ct ad layM A 2 v 53 [(0, .ref (ad 0))] []) (kx : ∀ v, o = .inr v → sn_At p l e rmX9_house s m args below meth c Q D ct ad layM A 2 v 74 [(0, .ref (ad 0))] []) : sn_At p l e rmX9_house s m args below meth c Q D ct ad layM A 2 σ 53 [(0, .ref (ad 0))] [] := by
  intro H locs ls hw hl
  have hx := C.1
  have hb := C.2.1
  unfold BX9_house_53 at hf
  refine lv_aload_n hx hb dX9_house_53 rfl (lv_at hl 0 rfl) ?_
  obtain ⟨t_1, h_2, hf⟩ := sn_bd hf
  refine sn_callVi (rest := []) C hw (ctX9_good l  h_2) kl_RX9_140 layM_0 rfl rfl rfl rfl (Nat.le_of_ble_eq_true rfl) dX9_house_54 hl.1 (fun H locs hw => ?_)
  refine lv_if_eq (tgt := 74) hx hb dX9_house_57 (by decide) (fun c_3 => ?_) (fun c_3 => ?_)
  · have hf := sn_if c_3 hf
    cases hf
    exact kx _ rfl _ _ _ hw (lv_sub hl [0] rfl)
  · have hf := sn_el c_3 hf
    refine lv_aload_n hx hb dX9_house_60 rfl (lv_at hl 0 rfl) ?_
    refine sn_getI C hw fd_RX9_116 layM_0 rfl dX9_house_61 ?_
    refine lv_if_eq (tgt := 74) hx hb dX9_house_64 (by decide) (fun c_4 => ?_) (fun c_4 => ?_)
    · have hf := sn_if c_4 hf
      cases hf
      exact kx _ rfl _ _ _ hw (lv_sub hl [0] rfl)
    · have hf := sn_el c_4 hf
      refine lv_aload_n hx hb dX9_house_67 rfl (lv_at hl 0 rfl) ?_
      obtain ⟨t_5, h_6, hf⟩ := sn_bd hf
      refine sn_callVv (rest := []) C hw (ctX9_readLine l  h_6) kl_RX9_221 layM_0 rfl rfl rfl rfl (Nat.le_of_ble_eq_true rfl) dX9_house_68 hl.1 (fun H locs hw => ?_)
      refine lv_goto (tgt := 53) hx hb dX9_house_71 (by decide) ?_
      cases hf
      exact kc _ rfl _ _ _ hw (lv_sub hl [0] rfl)
theorem wX9_house_L53 (C : sn_C p s m args meth c RX9 cX9_house 2 (some .int) D ct ad layM A)    {z : sn_S} {t : sn_S} (h : sn_it (LX9_house_53 ) 5000 z = some t) (kx : ∀ v, t = v → sn_At p l e rmX9_house s m args below meth c Q D ct ad layM A 2 v 74 [(0, .ref (ad 0))] []) : sn_At p l e rmX9_house s m args below meth c Q D ct ad layM A 2 z 53 [(0, .ref (ad 0))] [] :=
  sn_loop (f := LX9_house_53 ) (G := fun z => sn_At p l e rmX9_house s m args below meth c Q D ct ad layM A 2 z 53 [(0, .ref (ad 0))] []) (E := fun t => (∀ v, t = v → sn_At p l e rmX9_house s m args below meth c Q D ct ad layM A 2 v 74 [(0, .ref (ad 0))] []) ∧ True) (fun z o hf k1 k2 => wX9_house_53 C  hf (fun v e => k1 v e) (fun v e => (k2 _ e).1 v rfl)) 5000 z t h ⟨kx, trivial⟩
theorem wX9_house_49 (C : sn_C p s m args meth c RX9 cX9_house 2 (some .int) D ct ad layM A) {σ : sn_S}  {o : (Int32 × sn_S)} (hf : BX9_house_49 σ = some o) (kr : sn_Kr p l e rmX9_house s m args below meth c Q D ct ad layM A cX9_house .ireturn (true) o.2 [.int o.1]) : sn_At p l e rmX9_house s m args below meth c Q D ct ad layM A 2 σ 49 [(0, .ref (ad 0))] [] := by
  intro H locs ls hw hl
  have hx := C.1
  have hb := C.2.1
  unfold BX9_house_49 at hf
  refine lv_aload_n hx hb dX9_house_49 rfl (lv_at hl 0 rfl) ?_
  obtain ⟨t_1, h_2, hf⟩ := sn_bd hf
  refine sn_callVv (rest := []) C hw (ctX9_advance l  h_2) kl_RX9_158 layM_0 rfl rfl rfl rfl (Nat.le_of_ble_eq_true rfl) dX9_house_50 hl.1 (fun H locs hw => ?_)
  obtain ⟨t_3, h_4, hf⟩ := sn_bd hf
  exact wX9_house_L53 C  h_4 (fun v e => by cases e; exact wX9_house_74 C  hf kr) _ _ _ hw (lv_sub hl [0] rfl)
theorem wX9_house_30 (C : sn_C p s m args meth c RX9 cX9_house 2 (some .int) D ct ad layM A) {σ : sn_S} {x1 : Int32}  {o : (sn_S × Int32) ⊕ (sn_S)} (hf : BX9_house_30 σ x1 = some o) (kc : ∀ v, o = .inl v → sn_At p l e rmX9_house s m args below meth c Q D ct ad layM A 2 v.1 30 [(0, .ref (ad 0)), (1, .int v.2)] []) (kx : ∀ v, o = .inr v → sn_At p l e rmX9_house s m args below meth c Q D ct ad layM A 2 v 49 [(0, .ref (ad 0))] []) : sn_At p l e rmX9_house s m args below meth c Q D ct ad layM A 2 σ 30 [(0, .ref (ad 0)), (1, .int x1)] [] := by
  intro H locs ls hw hl
  have hx := C.1
  have hb := C.2.1
  unfold BX9_house_30 at hf
  refine lv_iload_n hx hb dX9_house_30 rfl (lv_at hl 1 rfl) ?_
  refine lv_bipush (v := 119) hx hb dX9_house_31 (by decide) ?_
  refine lv_icmp_ge (tgt := 49) hx hb dX9_house_33 (by decide) (fun c_1 => ?_) (fun c_1 => ?_)
  · have hf := sn_if c_1 hf
    cases hf
    exact kx _ rfl _ _ _ hw (lv_sub hl [0] rfl)
  · have hf := sn_el c_1 hf
    refine lv_aload_n hx hb dX9_house_36 rfl (lv_at hl 0 rfl) ?_
    refine sn_getC (r := 6) C hw fd_RX9_31 layM_0 rfl dX9_house_37 ?_
    refine lv_iload_n hx hb dX9_house_40 rfl (lv_at hl 1 rfl) ?_
    refine lv_iconst (v := 0) hx hb dX9_house_41 rfl ?_
    obtain ⟨g_2, hf⟩ := sn_gdE hf
    refine sn_iast C hw layM_6 g_2 dX9_house_42 (fun H locs hw => ?_)
    obtain ⟨σ_3, e_4, hf⟩ := sn_ltE hf
    rw [← e_4] at hw
    obtain ⟨y_5, e_6, hf⟩ := sn_ltE hf
    refine lv_iinc (v := y_5) (lv' := [(1, .int y_5), (0, .ref (ad 0))]) hx hb dX9_house_43 hl (k := 1) rfl (by rw [e_6]; rfl) (by decide) rfl (fun ls hl => ?_)
    refine lv_goto (tgt := 30) hx hb dX9_house_46 (by decide) ?_
    cases hf
    exact kc _ rfl _ _ _ hw (lv_sub hl [1, 0] rfl)
theorem wX9_house_L30 (C : sn_C p s m args meth c RX9 cX9_house 2 (some .int) D ct ad layM A)    {z : sn_S × Int32} {t : sn_S} (h : sn_it (LX9_house_30 ) 5000 z = some t) (kx : ∀ v, t = v → sn_At p l e rmX9_house s m args below meth c Q D ct ad layM A 2 v 49 [(0, .ref (ad 0))] []) : sn_At p l e rmX9_house s m args below meth c Q D ct ad layM A 2 z.1 30 [(0, .ref (ad 0)), (1, .int z.2)] [] :=
  sn_loop (f := LX9_house_30 ) (G := fun z => sn_At p l e rmX9_house s m args below meth c Q D ct ad layM A 2 z.1 30 [(0, .ref (ad 0)), (1, .int z.2)] []) (E := fun t => (∀ v, t = v → sn_At p l e rmX9_house s m args below meth c Q D ct ad layM A 2 v 49 [(0, .ref (ad 0))] []) ∧ True) (fun z o hf k1 k2 => wX9_house_30 C  hf (fun v e => k1 v e) (fun v e => (k2 _ e).1 v rfl)) 5000 z t h ⟨kx, trivial⟩
theorem wX9_house_in (C : sn_C p s m args meth c RX9 cX9_house 2 (some .int) D ct ad layM A) {σ : sn_S}  {o : (Int32 × sn_S)} (hf : fX9_house σ = some o) (kr : sn_Kr p l e rmX9_house s m args below meth c Q D ct ad layM A cX9_house .ireturn (true) o.2 [.int o.1]) : sn_At p l e rmX9_house s m args below meth c Q D ct ad layM A 2 σ 0 [(0, .ref (ad 0))] [] := by
  intro H locs ls hw hl
  have hx := C.1
  have hb := C.2.1
  unfold fX9_house at hf
  refine lv_aload_n hx hb dX9_house_0 rfl (lv_at hl 0 rfl) ?_
  refine lv_aload_n hx hb dX9_house_1 rfl (lv_at hl 0 rfl) ?_
  refine sn_getI C hw fd_RX9_100 layM_0 rfl dX9_house_2 ?_
  refine sn_putI C hw fp_RX9_103 layM_0 rfl dX9_house_5 (fun H locs hw => ?_)
  obtain ⟨σ_1, e_2, hf⟩ := sn_ltE hf
  rw [← e_2] at hw
  refine lv_aload_n hx hb dX9_house_8 rfl (lv_at hl 0 rfl) ?_
  refine lv_iconst (v := 0) hx hb dX9_house_9 rfl ?_
  refine sn_putI C hw fp_RX9_100 layM_0 rfl dX9_house_10 (fun H locs hw => ?_)
  obtain ⟨σ_3, e_4, hf⟩ := sn_ltE hf
  rw [← e_4] at hw
  refine lv_aload_n hx hb dX9_house_13 rfl (lv_at hl 0 rfl) ?_
  refine lv_iconst (v := 0) hx hb dX9_house_14 rfl ?_
  refine sn_putI C hw fp_RX9_106 layM_0 rfl dX9_house_15 (fun H locs hw => ?_)
  obtain ⟨σ_5, e_6, hf⟩ := sn_ltE hf
  rw [← e_6] at hw
  refine lv_aload_n hx hb dX9_house_18 rfl (lv_at hl 0 rfl) ?_
  refine lv_iconst (v := 0) hx hb dX9_house_19 rfl ?_
  refine sn_putI C hw fp_RX9_137 layM_0 rfl dX9_house_20 (fun H locs hw => ?_)
  obtain ⟨σ_7, e_8, hf⟩ := sn_ltE hf
  rw [← e_8] at hw
  refine lv_aload_n hx hb dX9_house_23 rfl (lv_at hl 0 rfl) ?_
  refine lv_iconst (v := (-1)) hx hb dX9_house_24 rfl ?_
  refine sn_putI C hw fp_RX9_27 layM_0 rfl dX9_house_25 (fun H locs hw => ?_)
  obtain ⟨σ_9, e_10, hf⟩ := sn_ltE hf
  rw [← e_10] at hw
  refine lv_iconst (v := 0) hx hb dX9_house_28 rfl ?_
  refine lv_istore_n (lv' := [(1, .int (0 : Int32)), (0, .ref (ad 0))]) hx hb dX9_house_29 rfl hl (by decide) rfl (fun ls hl => ?_)
  obtain ⟨t_11, h_12, hf⟩ := sn_bd hf
  exact wX9_house_L30 C  h_12 (fun v e => by cases e; exact wX9_house_49 C  hf kr) _ _ _ hw (lv_sub hl [1, 0] rfl)
theorem ctX9_house (l : Launch) {σ : sn_S}  {o : (Int32 × sn_S)} (hf : fX9_house σ = some o) : sn_M l yX9_house cX9_house 2 (some .int) rmX9_house layM (fun ad => [.ref (ad 0)]) σ (some (fun _ => .int o.1)) o.2 :=
  sn_met (by decide) (fun _ => Nat.le_of_ble_eq_true rfl) (fun p e s m args below meth c ls D ct ad A C hw hl => wX9_house_in C  hf (fun H locs ls pc hw ok hd => sn_iret C hw hd) _ _ _ hw hl)
-- X9_nose
abbrev rmX9_nose : Room := { frames := 2, cells := 0, slots := 0, locals := 47 }
def fX9_nose (σ : sn_S) (x1 : Int32) (x2 : Int32) : Option Int32 :=
  ((fX9_isPerson σ x1.toInt64).bind fun t_1 => (if t_1 = 0 then
  (some (-2 : Int32))
  else
  ((fX9_in x2.toInt64 (0 : Int64) (1 : Int64)).bind fun t_4 => (if t_4 = 0 then
  (some (-2 : Int32))
  else
  (sn_gd (sn_in (((11 : Int32) + ((2 : Int32) * x1)) + x2) 119) (some (sn_I σ 1 (((11 : Int32) + ((2 : Int32) * x1)) + x2).toNatClampNeg)))))))
theorem wX9_nose_in (C : sn_C p s m args meth c RX9 cX9_nose 3 (some .int) D ct ad layM A) {σ : sn_S} {x1 : Int32} {x2 : Int32}  {o : Int32} (hf : fX9_nose σ x1 x2 = some o) (kr : sn_Kr p l e rmX9_nose s m args below meth c Q D ct ad layM A cX9_nose .ireturn (true) σ [.int o]) : sn_At p l e rmX9_nose s m args below meth c Q D ct ad layM A 3 σ 0 [(0, .ref (ad 0)), (1, .int x1), (2, .int x2)] [] := by
  intro H locs ls hw hl
  have hx := C.1
  have hb := C.2.1
  unfold fX9_nose at hf
  refine lv_aload_n hx hb dX9_nose_0 rfl (lv_at hl 0 rfl) ?_
  refine lv_iload_n hx hb dX9_nose_1 rfl (lv_at hl 1 rfl) ?_
  refine lv_i2l hx hb dX9_nose_2 rfl ?_
  obtain ⟨t_1, h_2, hf⟩ := sn_bd hf
  refine sn_callVi (rest := []) C hw (ctX9_isPerson l  h_2) kl_RX9_224 layM_0 rfl rfl rfl rfl (Nat.le_of_ble_eq_true rfl) dX9_nose_3 hl.1 (fun H locs hw => ?_)
  refine lv_if_eq (tgt := 35) hx hb dX9_nose_6 (by decide) (fun c_3 => ?_) (fun c_3 => ?_)
  · have hf := sn_if c_3 hf
    refine lv_bipush (v := (-2)) hx hb dX9_nose_35 (by decide) ?_
    cases hf
    exact kr _ _ _ _ hw rfl dX9_nose_37
  · have hf := sn_el c_3 hf
    refine lv_iload_n hx hb dX9_nose_9 rfl (lv_at hl 2 rfl) ?_
    refine lv_i2l hx hb dX9_nose_10 rfl ?_
    refine lv_lconst (v := 0) hx hb dX9_nose_11 rfl ?_
    refine lv_lconst (v := 1) hx hb dX9_nose_12 rfl ?_
    obtain ⟨t_4, h_5, hf⟩ := sn_bd hf
    refine sn_callSi (rest := []) C hw (ctX9_in l  h_5) kl_RX9_94 rfl rfl rfl (Nat.le_of_ble_eq_true rfl) dX9_nose_13 hl.1 (fun H locs hw => ?_)
    refine lv_if_eq (tgt := 35) hx hb dX9_nose_16 (by decide) (fun c_6 => ?_) (fun c_6 => ?_)
    · have hf := sn_if c_6 hf
      refine lv_bipush (v := (-2)) hx hb dX9_nose_35 (by decide) ?_
      cases hf
      exact kr _ _ _ _ hw rfl dX9_nose_37
    · have hf := sn_el c_6 hf
      refine lv_aload_n hx hb dX9_nose_19 rfl (lv_at hl 0 rfl) ?_
      refine sn_getC (r := 1) C hw fd_RX9_9 layM_0 rfl dX9_nose_20 ?_
      refine lv_bipush (v := 11) hx hb dX9_nose_23 (by decide) ?_
      refine lv_iconst (v := 2) hx hb dX9_nose_25 rfl ?_
      refine lv_iload_n hx hb dX9_nose_26 rfl (lv_at hl 1 rfl) ?_
      refine lv_imul hx hb dX9_nose_27 ?_
      refine lv_iadd hx hb dX9_nose_28 ?_
      refine lv_iload_n hx hb dX9_nose_29 rfl (lv_at hl 2 rfl) ?_
      refine lv_iadd hx hb dX9_nose_30 ?_
      obtain ⟨g_7, hf⟩ := sn_gdE hf
      refine sn_iald C hw layM_1 g_7 dX9_nose_31 ?_
      refine lv_goto (tgt := 37) hx hb dX9_nose_32 (by decide) ?_
      cases hf
      exact kr _ _ _ _ hw rfl dX9_nose_37
theorem ctX9_nose (l : Launch) {σ : sn_S} {x1 : Int32} {x2 : Int32}  {o : Int32} (hf : fX9_nose σ x1 x2 = some o) : sn_M l yX9_nose cX9_nose 3 (some .int) rmX9_nose layM (fun ad => [.ref (ad 0), .int x1, .int x2]) σ (some (fun _ => .int o)) σ :=
  sn_met (by decide) (fun _ => Nat.le_of_ble_eq_true rfl) (fun p e s m args below meth c ls D ct ad A C hw hl => wX9_nose_in C  hf (fun H locs ls pc hw ok hd => sn_iret C hw hd) _ _ _ hw hl)
-- X9_policy
abbrev rmX9_policy : Room := { frames := 2, cells := 0, slots := 0, locals := 46 }
def fX9_policy (σ : sn_S) (x1 : Int32) (x2 : Int32) : Option Int32 :=
  ((fX9_isPolicy σ x1).bind fun t_1 => (if t_1 = 0 then
  (some (-2 : Int32))
  else
  ((fX9_in x2.toInt64 (0 : Int64) (4 : Int64)).bind fun t_4 => (if t_4 = 0 then
  (some (-2 : Int32))
  else
  ((fX9_of σ x1 x2).bind fun t_7 => (some t_7))))))
theorem wX9_policy_in (C : sn_C p s m args meth c RX9 cX9_policy 3 (some .int) D ct ad layM A) {σ : sn_S} {x1 : Int32} {x2 : Int32}  {o : Int32} (hf : fX9_policy σ x1 x2 = some o) (kr : sn_Kr p l e rmX9_policy s m args below meth c Q D ct ad layM A cX9_policy .ireturn (true) σ [.int o]) : sn_At p l e rmX9_policy s m args below meth c Q D ct ad layM A 3 σ 0 [(0, .ref (ad 0)), (1, .int x1), (2, .int x2)] [] := by
  intro H locs ls hw hl
  have hx := C.1
  have hb := C.2.1
  unfold fX9_policy at hf
  refine lv_aload_n hx hb dX9_policy_0 rfl (lv_at hl 0 rfl) ?_
  refine lv_iload_n hx hb dX9_policy_1 rfl (lv_at hl 1 rfl) ?_
  obtain ⟨t_1, h_2, hf⟩ := sn_bd hf
  refine sn_callVi (rest := []) C hw (ctX9_isPolicy l  h_2) kl_RX9_228 layM_0 rfl rfl rfl rfl (Nat.le_of_ble_eq_true rfl) dX9_policy_2 hl.1 (fun H locs hw => ?_)
  refine lv_if_eq (tgt := 29) hx hb dX9_policy_5 (by decide) (fun c_3 => ?_) (fun c_3 => ?_)
  · have hf := sn_if c_3 hf
    refine lv_bipush (v := (-2)) hx hb dX9_policy_29 (by decide) ?_
    cases hf
    exact kr _ _ _ _ hw rfl dX9_policy_31
  · have hf := sn_el c_3 hf
    refine lv_iload_n hx hb dX9_policy_8 rfl (lv_at hl 2 rfl) ?_
    refine lv_i2l hx hb dX9_policy_9 rfl ?_
    refine lv_lconst (v := 0) hx hb dX9_policy_10 rfl ?_
    refine lv_ldc2 hx hb C.2.2.2.1 (C.2.2.2.2.1 _ kk_RX9_232) dX9_policy_11 ?_
    obtain ⟨t_4, h_5, hf⟩ := sn_bd hf
    refine sn_callSi (rest := []) C hw (ctX9_in l  h_5) kl_RX9_94 rfl rfl rfl (Nat.le_of_ble_eq_true rfl) dX9_policy_14 hl.1 (fun H locs hw => ?_)
    refine lv_if_eq (tgt := 29) hx hb dX9_policy_17 (by decide) (fun c_6 => ?_) (fun c_6 => ?_)
    · have hf := sn_if c_6 hf
      refine lv_bipush (v := (-2)) hx hb dX9_policy_29 (by decide) ?_
      cases hf
      exact kr _ _ _ _ hw rfl dX9_policy_31
    · have hf := sn_el c_6 hf
      refine lv_aload_n hx hb dX9_policy_20 rfl (lv_at hl 0 rfl) ?_
      refine lv_iload_n hx hb dX9_policy_21 rfl (lv_at hl 1 rfl) ?_
      refine lv_iload_n hx hb dX9_policy_22 rfl (lv_at hl 2 rfl) ?_
      obtain ⟨t_7, h_8, hf⟩ := sn_bd hf
      refine sn_callVi (rest := []) C hw (ctX9_of l  h_8) kl_RX9_234 layM_0 rfl rfl rfl rfl (Nat.le_of_ble_eq_true rfl) dX9_policy_23 hl.1 (fun H locs hw => ?_)
      refine lv_goto (tgt := 31) hx hb dX9_policy_26 (by decide) ?_
      cases hf
      exact kr _ _ _ _ hw rfl dX9_policy_31
theorem ctX9_policy (l : Launch) {σ : sn_S} {x1 : Int32} {x2 : Int32}  {o : Int32} (hf : fX9_policy σ x1 x2 = some o) : sn_M l yX9_policy cX9_policy 3 (some .int) rmX9_policy layM (fun ad => [.ref (ad 0), .int x1, .int x2]) σ (some (fun _ => .int o)) σ :=
  sn_met (by decide) (fun _ => Nat.le_of_ble_eq_true rfl) (fun p e s m args below meth c ls D ct ad A C hw hl => wX9_policy_in C  hf (fun H locs ls pc hw ok hd => sn_iret C hw hd) _ _ _ hw hl)
-- X9_asItIs
abbrev rmX9_asItIs : Room := { frames := 1, cells := 0, slots := 0, locals := 20 }
def BX9_asItIs_238 (σ : sn_S) : Option (sn_S) :=
  (some σ)
def BX9_asItIs_232 (σ : sn_S) (x1 : Int32) : Option ((sn_S × Int32) ⊕ (sn_S)) :=
  (sn_lt (x1 + 1) fun y_1 => (some (.inl (σ, y_1))))
def BX9_asItIs_161 (σ : sn_S) (x1 : Int32) : Option ((sn_S × Int32) ⊕ (sn_S)) :=
  (sn_gd (sn_in (9 : Int32) 119) (if (sn_I σ 1 (9 : Int32).toNatClampNeg) ≤ x1 then
  (some (.inr (σ)))
  else
  (sn_gd (sn_in ((79 : Int32) + x1) 119) (sn_lt (sn_I σ 1 ((79 : Int32) + x1).toNatClampNeg) fun y_4 => (sn_lt (y_4 / (200 : Int32)) fun y_6 => (sn_lt ((y_4 / (2 : Int32)) - (y_4 / (2 : Int32)) / (100 : Int32) * (100 : Int32)) fun y_8 => (if (y_4 - y_4 / (2 : Int32) * (2 : Int32)) = (1 : Int32) then
  (sn_gd (sn_in y_6 6) (sn_gd (sn_in y_6 6) (sn_lt (sn_pI σ 9 y_6.toNatClampNeg ((sn_I σ 9 y_6.toNatClampNeg) ||| ((1 : Int32) <<< (y_8 &&& 31)))) fun σ_17 => (BX9_asItIs_232 σ_17 x1))))
  else
  (sn_gd (sn_in y_6 6) (sn_gd (sn_in y_6 6) (sn_lt (sn_pI σ 8 y_6.toNatClampNeg ((sn_I σ 8 y_6.toNatClampNeg) ||| ((1 : Int32) <<< (y_8 &&& 31)))) fun σ_13 => (BX9_asItIs_232 σ_13 x1)))))))))))
def LX9_asItIs_161  (s : sn_S × Int32) : Option ((sn_S × Int32) ⊕ (sn_S)) := BX9_asItIs_161 s.1 s.2
def BX9_asItIs_159 (σ : sn_S) : Option (sn_S) :=
  ((sn_it (LX9_asItIs_161 ) 5000 (σ, (0 : Int32))).bind fun t_1 => (BX9_asItIs_238 t_1))
def BX9_asItIs_133 (σ : sn_S) (x1 : Int32) : Option ((sn_S × Int32) ⊕ (sn_S)) :=
  (if (6 : Int32) ≤ x1 then
  (some (.inr (σ)))
  else
  (sn_gd (sn_in x1 6) (sn_lt (sn_pI σ 8 x1.toNatClampNeg (0 : Int32)) fun σ_3 => (sn_gd (sn_in x1 6) (sn_lt (sn_pI σ_3 9 x1.toNatClampNeg (0 : Int32)) fun σ_6 => (sn_lt (x1 + 1) fun y_8 => (some (.inl (σ_6, y_8)))))))))
def LX9_asItIs_133  (s : sn_S × Int32) : Option ((sn_S × Int32) ⊕ (sn_S)) := BX9_asItIs_133 s.1 s.2
def BX9_asItIs_131 (σ : sn_S) : Option (sn_S) :=
  ((sn_it (LX9_asItIs_133 ) 5000 (σ, (0 : Int32))).bind fun t_1 => (BX9_asItIs_159 t_1))
def BX9_asItIs_68 (σ : sn_S) (x1 : Int32) : Option ((sn_S × Int32) ⊕ (sn_S)) :=
  (sn_gd (sn_in (6 : Int32) 119) (if (sn_I σ 1 (6 : Int32).toNatClampNeg) ≤ x1 then
  (some (.inr (σ)))
  else
  (sn_gd (sn_in (((23 : Int32) + ((2 : Int32) * x1)) + (1 : Int32)) 119) (sn_lt (sn_I σ 1 (((23 : Int32) + ((2 : Int32) * x1)) + (1 : Int32)).toNatClampNeg) fun y_4 => (sn_gd (sn_in y_4 30) (sn_gd (sn_in ((23 : Int32) + ((2 : Int32) * x1)) 119) (sn_gd (sn_in y_4 30) (sn_lt (sn_pI σ 7 y_4.toNatClampNeg ((sn_I σ 7 y_4.toNatClampNeg) + (sn_I σ 1 ((23 : Int32) + ((2 : Int32) * x1)).toNatClampNeg))) fun σ_9 => (sn_lt (sn_pI σ_9 0 18 ((sn_I σ_9 0 18) ||| ((1 : Int32) <<< (y_4 &&& 31)))) fun σ_11 => (sn_lt (x1 + 1) fun y_13 => (some (.inl (σ_11, y_13)))))))))))))
def LX9_asItIs_68  (s : sn_S × Int32) : Option ((sn_S × Int32) ⊕ (sn_S)) := BX9_asItIs_68 s.1 s.2
def BX9_asItIs_66 (σ : sn_S) : Option (sn_S) :=
  ((sn_it (LX9_asItIs_68 ) 5000 (σ, (0 : Int32))).bind fun t_1 => (BX9_asItIs_131 t_1))
def BX9_asItIs_42 (σ : sn_S) (x1 : Int32) : Option ((sn_S × Int32) ⊕ (sn_S)) :=
  (if (30 : Int32) ≤ x1 then
  (some (.inr (σ)))
  else
  (sn_gd (sn_in (1 : Int32) 119) (sn_gd (sn_in x1 30) (sn_lt (sn_pI σ 7 x1.toNatClampNeg (sn_I σ 1 (1 : Int32).toNatClampNeg)) fun σ_4 => (sn_lt (x1 + 1) fun y_6 => (some (.inl (σ_4, y_6))))))))
def LX9_asItIs_42  (s : sn_S × Int32) : Option ((sn_S × Int32) ⊕ (sn_S)) := BX9_asItIs_42 s.1 s.2
def fX9_asItIs (σ : sn_S) : Option sn_S :=
  (sn_lt (sn_pI σ 0 18 (0 : Int32)) fun σ_1 => (sn_lt (sn_pI σ_1 0 19 (-1 : Int32)) fun σ_3 => (sn_gd (sn_in (2 : Int32) 119) (sn_lt (sn_pI σ_3 0 20 (sn_I σ_3 1 (2 : Int32).toNatClampNeg)) fun σ_6 => (sn_gd (sn_in (3 : Int32) 119) (sn_lt (sn_pI σ_6 0 21 (sn_I σ_6 1 (3 : Int32).toNatClampNeg)) fun σ_9 => ((fX9_minutes σ_9).bind fun t_11 => (sn_lt (sn_pI σ_9 0 22 (t_11 - (1 : Int32))) fun σ_13 => ((sn_it (LX9_asItIs_42 ) 5000 (σ_13, (0 : Int32))).bind fun t_15 => (BX9_asItIs_66 t_15))))))))))
theorem wX9_asItIs_238 (C : sn_C p s m args meth c RX9 cX9_asItIs 5 none D ct ad layM A) {σ : sn_S}  {o : sn_S} (hf : BX9_asItIs_238 σ = some o) (kr : sn_Kr p l e rmX9_asItIs s m args below meth c Q D ct ad layM A cX9_asItIs .return_ (true) o []) : sn_At p l e rmX9_asItIs s m args below meth c Q D ct ad layM A 5 σ 238 [] [] := by
  intro H locs ls hw hl
  have hx := C.1
  have hb := C.2.1
  unfold BX9_asItIs_238 at hf
  cases hf
  exact kr _ _ _ _ hw rfl dX9_asItIs_238
theorem wX9_asItIs_232 (C : sn_C p s m args meth c RX9 cX9_asItIs 5 none D ct ad layM A) {σ : sn_S} {x1 : Int32}  {o : (sn_S × Int32) ⊕ (sn_S)} (hf : BX9_asItIs_232 σ x1 = some o) (kc : ∀ v, o = .inl v → sn_At p l e rmX9_asItIs s m args below meth c Q D ct ad layM A 5 v.1 161 [(0, .ref (ad 0)), (1, .int v.2)] []) (kx : ∀ v, o = .inr v → sn_At p l e rmX9_asItIs s m args below meth c Q D ct ad layM A 5 v 238 [] []) : sn_At p l e rmX9_asItIs s m args below meth c Q D ct ad layM A 5 σ 232 [(0, .ref (ad 0)), (1, .int x1)] [] := by
  intro H locs ls hw hl
  have hx := C.1
  have hb := C.2.1
  unfold BX9_asItIs_232 at hf
  obtain ⟨y_1, e_2, hf⟩ := sn_ltE hf
  refine lv_iinc (v := y_1) (lv' := [(1, .int y_1), (0, .ref (ad 0))]) hx hb dX9_asItIs_232 hl (k := 1) rfl (by rw [e_2]; rfl) (by decide) rfl (fun ls hl => ?_)
  refine lv_goto (tgt := 161) hx hb dX9_asItIs_235 (by decide) ?_
  cases hf
  exact kc _ rfl _ _ _ hw (lv_sub hl [1, 0] rfl)
theorem wX9_asItIs_161 (C : sn_C p s m args meth c RX9 cX9_asItIs 5 none D ct ad layM A) {σ : sn_S} {x1 : Int32}  {o : (sn_S × Int32) ⊕ (sn_S)} (hf : BX9_asItIs_161 σ x1 = some o) (kc : ∀ v, o = .inl v → sn_At p l e rmX9_asItIs s m args below meth c Q D ct ad layM A 5 v.1 161 [(0, .ref (ad 0)), (1, .int v.2)] []) (kx : ∀ v, o = .inr v → sn_At p l e rmX9_asItIs s m args below meth c Q D ct ad layM A 5 v 238 [] []) : sn_At p l e rmX9_asItIs s m args below meth c Q D ct ad layM A 5 σ 161 [(0, .ref (ad 0)), (1, .int x1)] [] := by
  intro H locs ls hw hl
  have hx := C.1
  have hb := C.2.1
  unfold BX9_asItIs_161 at hf
  refine lv_iload_n hx hb dX9_asItIs_161 rfl (lv_at hl 1 rfl) ?_
  refine lv_aload_n hx hb dX9_asItIs_162 rfl (lv_at hl 0 rfl) ?_
  refine sn_getC (r := 1) C hw fd_RX9_9 layM_0 rfl dX9_asItIs_163 ?_
  refine lv_bipush (v := 9) hx hb dX9_asItIs_166 (by decide) ?_
  obtain ⟨g_1, hf⟩ := sn_gdE hf
  refine sn_iald C hw layM_1 g_1 dX9_asItIs_168 ?_
  refine lv_icmp_ge (tgt := 238) hx hb dX9_asItIs_169 (by decide) (fun c_2 => ?_) (fun c_2 => ?_)
  · have hf := sn_if c_2 hf
    cases hf
    exact kx _ rfl _ _ _ hw (lv_sub hl [] rfl)
  · have hf := sn_el c_2 hf
    refine lv_aload_n hx hb dX9_asItIs_172 rfl (lv_at hl 0 rfl) ?_
    refine sn_getC (r := 1) C hw fd_RX9_9 layM_0 rfl dX9_asItIs_173 ?_
    refine lv_bipush (v := 79) hx hb dX9_asItIs_176 (by decide) ?_
    refine lv_iload_n hx hb dX9_asItIs_178 rfl (lv_at hl 1 rfl) ?_
    refine lv_iadd hx hb dX9_asItIs_179 ?_
    obtain ⟨g_3, hf⟩ := sn_gdE hf
    refine sn_iald C hw layM_1 g_3 dX9_asItIs_180 ?_
    obtain ⟨y_4, e_5, hf⟩ := sn_ltE hf
    refine lv_topi (fun y_4_ e_5_ => ?_)
    obtain rfl : y_4 = y_4_ := e_5.trans e_5_.symm
    refine lv_istore_n (lv' := [(2, .int y_4), (0, .ref (ad 0)), (1, .int x1)]) hx hb dX9_asItIs_181 rfl hl (by decide) rfl (fun ls hl => ?_)
    refine lv_iload_n hx hb dX9_asItIs_182 rfl (lv_at hl 0 rfl) ?_
    refine lv_sipush (v := 200) hx hb dX9_asItIs_183 (by decide) ?_
    refine lv_idiv hx hb dX9_asItIs_186 (by decide) ?_
    obtain ⟨y_6, e_7, hf⟩ := sn_ltE hf
    refine lv_topi (fun y_6_ e_7_ => ?_)
    obtain rfl : y_6 = y_6_ := e_7.trans e_7_.symm
    refine lv_istore_n (lv' := [(3, .int y_6), (2, .int y_4), (0, .ref (ad 0)), (1, .int x1)]) hx hb dX9_asItIs_187 rfl hl (by decide) rfl (fun ls hl => ?_)
    refine lv_iload_n hx hb dX9_asItIs_188 rfl (lv_at hl 1 rfl) ?_
    refine lv_iconst (v := 2) hx hb dX9_asItIs_189 rfl ?_
    refine lv_idiv hx hb dX9_asItIs_190 (by decide) ?_
    refine lv_bipush (v := 100) hx hb dX9_asItIs_191 (by decide) ?_
    refine lv_irem hx hb dX9_asItIs_193 (by decide) ?_
    obtain ⟨y_8, e_9, hf⟩ := sn_ltE hf
    refine lv_topi (fun y_8_ e_9_ => ?_)
    obtain rfl : y_8 = y_8_ := e_9.trans e_9_.symm
    refine lv_istore (lv' := [(4, .int y_8), (3, .int y_6), (2, .int y_4), (0, .ref (ad 0)), (1, .int x1)]) hx hb dX9_asItIs_194 hl (by decide) rfl (fun ls hl => ?_)
    refine lv_iload_n hx hb dX9_asItIs_196 rfl (lv_at hl 2 rfl) ?_
    refine lv_iconst (v := 2) hx hb dX9_asItIs_197 rfl ?_
    refine lv_irem hx hb dX9_asItIs_198 (by decide) ?_
    refine lv_iconst (v := 1) hx hb dX9_asItIs_199 rfl ?_
    refine lv_icmp_ne (tgt := 219) hx hb dX9_asItIs_200 (by decide) (fun c_10 => ?_) (fun c_10 => ?_)
    · have hf := sn_el c_10 hf
      refine lv_aload_n hx hb dX9_asItIs_219 rfl (lv_at hl 3 rfl) ?_
      refine sn_getC (r := 8) C hw fd_RX9_37 layM_0 rfl dX9_asItIs_220 ?_
      refine lv_iload_n hx hb dX9_asItIs_223 rfl (lv_at hl 1 rfl) ?_
      refine lv_dup2_11 hx hb dX9_asItIs_224 rfl rfl ?_
      obtain ⟨g_11, hf⟩ := sn_gdE hf
      refine sn_iald C hw layM_8 g_11 dX9_asItIs_225 ?_
      refine lv_iconst (v := 1) hx hb dX9_asItIs_226 rfl ?_
      refine lv_iload hx hb dX9_asItIs_227 (lv_at hl 0 rfl) ?_
      refine lv_ishl hx hb dX9_asItIs_229 ?_
      refine lv_ior hx hb dX9_asItIs_230 ?_
      obtain ⟨g_12, hf⟩ := sn_gdE hf
      refine sn_iast C hw layM_8 g_12 dX9_asItIs_231 (fun H locs hw => ?_)
      obtain ⟨σ_13, e_14, hf⟩ := sn_ltE hf
      rw [← e_14] at hw
      exact wX9_asItIs_232 C  hf kc kx _ _ _ hw (lv_sub hl [3, 4] rfl)
    · have hf := sn_if c_10 hf
      refine lv_aload_n hx hb dX9_asItIs_203 rfl (lv_at hl 3 rfl) ?_
      refine sn_getC (r := 9) C hw fd_RX9_40 layM_0 rfl dX9_asItIs_204 ?_
      refine lv_iload_n hx hb dX9_asItIs_207 rfl (lv_at hl 1 rfl) ?_
      refine lv_dup2_11 hx hb dX9_asItIs_208 rfl rfl ?_
      obtain ⟨g_15, hf⟩ := sn_gdE hf
      refine sn_iald C hw layM_9 g_15 dX9_asItIs_209 ?_
      refine lv_iconst (v := 1) hx hb dX9_asItIs_210 rfl ?_
      refine lv_iload hx hb dX9_asItIs_211 (lv_at hl 0 rfl) ?_
      refine lv_ishl hx hb dX9_asItIs_213 ?_
      refine lv_ior hx hb dX9_asItIs_214 ?_
      obtain ⟨g_16, hf⟩ := sn_gdE hf
      refine sn_iast C hw layM_9 g_16 dX9_asItIs_215 (fun H locs hw => ?_)
      obtain ⟨σ_17, e_18, hf⟩ := sn_ltE hf
      rw [← e_18] at hw
      refine lv_goto (tgt := 232) hx hb dX9_asItIs_216 (by decide) ?_
      exact wX9_asItIs_232 C  hf kc kx _ _ _ hw (lv_sub hl [3, 4] rfl)
theorem wX9_asItIs_L161 (C : sn_C p s m args meth c RX9 cX9_asItIs 5 none D ct ad layM A)    {z : sn_S × Int32} {t : sn_S} (h : sn_it (LX9_asItIs_161 ) 5000 z = some t) (kx : ∀ v, t = v → sn_At p l e rmX9_asItIs s m args below meth c Q D ct ad layM A 5 v 238 [] []) : sn_At p l e rmX9_asItIs s m args below meth c Q D ct ad layM A 5 z.1 161 [(0, .ref (ad 0)), (1, .int z.2)] [] :=
  sn_loop (f := LX9_asItIs_161 ) (G := fun z => sn_At p l e rmX9_asItIs s m args below meth c Q D ct ad layM A 5 z.1 161 [(0, .ref (ad 0)), (1, .int z.2)] []) (E := fun t => (∀ v, t = v → sn_At p l e rmX9_asItIs s m args below meth c Q D ct ad layM A 5 v 238 [] []) ∧ True) (fun z o hf k1 k2 => wX9_asItIs_161 C  hf (fun v e => k1 v e) (fun v e => (k2 _ e).1 v rfl)) 5000 z t h ⟨kx, trivial⟩
theorem wX9_asItIs_159 (C : sn_C p s m args meth c RX9 cX9_asItIs 5 none D ct ad layM A) {σ : sn_S}  {o : sn_S} (hf : BX9_asItIs_159 σ = some o) (kr : sn_Kr p l e rmX9_asItIs s m args below meth c Q D ct ad layM A cX9_asItIs .return_ (true) o []) : sn_At p l e rmX9_asItIs s m args below meth c Q D ct ad layM A 5 σ 159 [(0, .ref (ad 0))] [] := by
  intro H locs ls hw hl
  have hx := C.1
  have hb := C.2.1
  unfold BX9_asItIs_159 at hf
  refine lv_iconst (v := 0) hx hb dX9_asItIs_159 rfl ?_
  refine lv_istore_n (lv' := [(1, .int (0 : Int32)), (0, .ref (ad 0))]) hx hb dX9_asItIs_160 rfl hl (by decide) rfl (fun ls hl => ?_)
  obtain ⟨t_1, h_2, hf⟩ := sn_bd hf
  exact wX9_asItIs_L161 C  h_2 (fun v e => by cases e; exact wX9_asItIs_238 C  hf kr) _ _ _ hw (lv_sub hl [1, 0] rfl)
theorem wX9_asItIs_133 (C : sn_C p s m args meth c RX9 cX9_asItIs 5 none D ct ad layM A) {σ : sn_S} {x1 : Int32}  {o : (sn_S × Int32) ⊕ (sn_S)} (hf : BX9_asItIs_133 σ x1 = some o) (kc : ∀ v, o = .inl v → sn_At p l e rmX9_asItIs s m args below meth c Q D ct ad layM A 5 v.1 133 [(0, .ref (ad 0)), (1, .int v.2)] []) (kx : ∀ v, o = .inr v → sn_At p l e rmX9_asItIs s m args below meth c Q D ct ad layM A 5 v 159 [(0, .ref (ad 0))] []) : sn_At p l e rmX9_asItIs s m args below meth c Q D ct ad layM A 5 σ 133 [(0, .ref (ad 0)), (1, .int x1)] [] := by
  intro H locs ls hw hl
  have hx := C.1
  have hb := C.2.1
  unfold BX9_asItIs_133 at hf
  refine lv_iload_n hx hb dX9_asItIs_133 rfl (lv_at hl 1 rfl) ?_
  refine lv_bipush (v := 6) hx hb dX9_asItIs_134 (by decide) ?_
  refine lv_icmp_ge (tgt := 159) hx hb dX9_asItIs_136 (by decide) (fun c_1 => ?_) (fun c_1 => ?_)
  · have hf := sn_if c_1 hf
    cases hf
    exact kx _ rfl _ _ _ hw (lv_sub hl [0] rfl)
  · have hf := sn_el c_1 hf
    refine lv_aload_n hx hb dX9_asItIs_139 rfl (lv_at hl 0 rfl) ?_
    refine sn_getC (r := 8) C hw fd_RX9_37 layM_0 rfl dX9_asItIs_140 ?_
    refine lv_iload_n hx hb dX9_asItIs_143 rfl (lv_at hl 1 rfl) ?_
    refine lv_iconst (v := 0) hx hb dX9_asItIs_144 rfl ?_
    obtain ⟨g_2, hf⟩ := sn_gdE hf
    refine sn_iast C hw layM_8 g_2 dX9_asItIs_145 (fun H locs hw => ?_)
    obtain ⟨σ_3, e_4, hf⟩ := sn_ltE hf
    rw [← e_4] at hw
    refine lv_aload_n hx hb dX9_asItIs_146 rfl (lv_at hl 0 rfl) ?_
    refine sn_getC (r := 9) C hw fd_RX9_40 layM_0 rfl dX9_asItIs_147 ?_
    refine lv_iload_n hx hb dX9_asItIs_150 rfl (lv_at hl 1 rfl) ?_
    refine lv_iconst (v := 0) hx hb dX9_asItIs_151 rfl ?_
    obtain ⟨g_5, hf⟩ := sn_gdE hf
    refine sn_iast C hw layM_9 g_5 dX9_asItIs_152 (fun H locs hw => ?_)
    obtain ⟨σ_6, e_7, hf⟩ := sn_ltE hf
    rw [← e_7] at hw
    obtain ⟨y_8, e_9, hf⟩ := sn_ltE hf
    refine lv_iinc (v := y_8) (lv' := [(1, .int y_8), (0, .ref (ad 0))]) hx hb dX9_asItIs_153 hl (k := 1) rfl (by rw [e_9]; rfl) (by decide) rfl (fun ls hl => ?_)
    refine lv_goto (tgt := 133) hx hb dX9_asItIs_156 (by decide) ?_
    cases hf
    exact kc _ rfl _ _ _ hw (lv_sub hl [1, 0] rfl)
theorem wX9_asItIs_L133 (C : sn_C p s m args meth c RX9 cX9_asItIs 5 none D ct ad layM A)    {z : sn_S × Int32} {t : sn_S} (h : sn_it (LX9_asItIs_133 ) 5000 z = some t) (kx : ∀ v, t = v → sn_At p l e rmX9_asItIs s m args below meth c Q D ct ad layM A 5 v 159 [(0, .ref (ad 0))] []) : sn_At p l e rmX9_asItIs s m args below meth c Q D ct ad layM A 5 z.1 133 [(0, .ref (ad 0)), (1, .int z.2)] [] :=
  sn_loop (f := LX9_asItIs_133 ) (G := fun z => sn_At p l e rmX9_asItIs s m args below meth c Q D ct ad layM A 5 z.1 133 [(0, .ref (ad 0)), (1, .int z.2)] []) (E := fun t => (∀ v, t = v → sn_At p l e rmX9_asItIs s m args below meth c Q D ct ad layM A 5 v 159 [(0, .ref (ad 0))] []) ∧ True) (fun z o hf k1 k2 => wX9_asItIs_133 C  hf (fun v e => k1 v e) (fun v e => (k2 _ e).1 v rfl)) 5000 z t h ⟨kx, trivial⟩
theorem wX9_asItIs_131 (C : sn_C p s m args meth c RX9 cX9_asItIs 5 none D ct ad layM A) {σ : sn_S}  {o : sn_S} (hf : BX9_asItIs_131 σ = some o) (kr : sn_Kr p l e rmX9_asItIs s m args below meth c Q D ct ad layM A cX9_asItIs .return_ (true) o []) : sn_At p l e rmX9_asItIs s m args below meth c Q D ct ad layM A 5 σ 131 [(0, .ref (ad 0))] [] := by
  intro H locs ls hw hl
  have hx := C.1
  have hb := C.2.1
  unfold BX9_asItIs_131 at hf
  refine lv_iconst (v := 0) hx hb dX9_asItIs_131 rfl ?_
  refine lv_istore_n (lv' := [(1, .int (0 : Int32)), (0, .ref (ad 0))]) hx hb dX9_asItIs_132 rfl hl (by decide) rfl (fun ls hl => ?_)
  obtain ⟨t_1, h_2, hf⟩ := sn_bd hf
  exact wX9_asItIs_L133 C  h_2 (fun v e => by cases e; exact wX9_asItIs_159 C  hf kr) _ _ _ hw (lv_sub hl [1, 0] rfl)
theorem wX9_asItIs_68 (C : sn_C p s m args meth c RX9 cX9_asItIs 5 none D ct ad layM A) {σ : sn_S} {x1 : Int32}  {o : (sn_S × Int32) ⊕ (sn_S)} (hf : BX9_asItIs_68 σ x1 = some o) (kc : ∀ v, o = .inl v → sn_At p l e rmX9_asItIs s m args below meth c Q D ct ad layM A 5 v.1 68 [(0, .ref (ad 0)), (1, .int v.2)] []) (kx : ∀ v, o = .inr v → sn_At p l e rmX9_asItIs s m args below meth c Q D ct ad layM A 5 v 131 [(0, .ref (ad 0))] []) : sn_At p l e rmX9_asItIs s m args below meth c Q D ct ad layM A 5 σ 68 [(0, .ref (ad 0)), (1, .int x1)] [] := by
  intro H locs ls hw hl
  have hx := C.1
  have hb := C.2.1
  unfold BX9_asItIs_68 at hf
  refine lv_iload_n hx hb dX9_asItIs_68 rfl (lv_at hl 1 rfl) ?_
  refine lv_aload_n hx hb dX9_asItIs_69 rfl (lv_at hl 0 rfl) ?_
  refine sn_getC (r := 1) C hw fd_RX9_9 layM_0 rfl dX9_asItIs_70 ?_
  refine lv_bipush (v := 6) hx hb dX9_asItIs_73 (by decide) ?_
  obtain ⟨g_1, hf⟩ := sn_gdE hf
  refine sn_iald C hw layM_1 g_1 dX9_asItIs_75 ?_
  refine lv_icmp_ge (tgt := 131) hx hb dX9_asItIs_76 (by decide) (fun c_2 => ?_) (fun c_2 => ?_)
  · have hf := sn_if c_2 hf
    cases hf
    exact kx _ rfl _ _ _ hw (lv_sub hl [0] rfl)
  · have hf := sn_el c_2 hf
    refine lv_aload_n hx hb dX9_asItIs_79 rfl (lv_at hl 0 rfl) ?_
    refine sn_getC (r := 1) C hw fd_RX9_9 layM_0 rfl dX9_asItIs_80 ?_
    refine lv_bipush (v := 23) hx hb dX9_asItIs_83 (by decide) ?_
    refine lv_iconst (v := 2) hx hb dX9_asItIs_85 rfl ?_
    refine lv_iload_n hx hb dX9_asItIs_86 rfl (lv_at hl 1 rfl) ?_
    refine lv_imul hx hb dX9_asItIs_87 ?_
    refine lv_iadd hx hb dX9_asItIs_88 ?_
    refine lv_iconst (v := 1) hx hb dX9_asItIs_89 rfl ?_
    refine lv_iadd hx hb dX9_asItIs_90 ?_
    obtain ⟨g_3, hf⟩ := sn_gdE hf
    refine sn_iald C hw layM_1 g_3 dX9_asItIs_91 ?_
    obtain ⟨y_4, e_5, hf⟩ := sn_ltE hf
    refine lv_topi (fun y_4_ e_5_ => ?_)
    obtain rfl : y_4 = y_4_ := e_5.trans e_5_.symm
    refine lv_istore_n (lv' := [(2, .int y_4), (0, .ref (ad 0)), (1, .int x1)]) hx hb dX9_asItIs_92 rfl hl (by decide) rfl (fun ls hl => ?_)
    refine lv_aload_n hx hb dX9_asItIs_93 rfl (lv_at hl 1 rfl) ?_
    refine sn_getC (r := 7) C hw fd_RX9_34 layM_0 rfl dX9_asItIs_94 ?_
    refine lv_iload_n hx hb dX9_asItIs_97 rfl (lv_at hl 0 rfl) ?_
    refine lv_dup2_11 hx hb dX9_asItIs_98 rfl rfl ?_
    obtain ⟨g_6, hf⟩ := sn_gdE hf
    refine sn_iald C hw layM_7 g_6 dX9_asItIs_99 ?_
    refine lv_aload_n hx hb dX9_asItIs_100 rfl (lv_at hl 1 rfl) ?_
    refine sn_getC (r := 1) C hw fd_RX9_9 layM_0 rfl dX9_asItIs_101 ?_
    refine lv_bipush (v := 23) hx hb dX9_asItIs_104 (by decide) ?_
    refine lv_iconst (v := 2) hx hb dX9_asItIs_106 rfl ?_
    refine lv_iload_n hx hb dX9_asItIs_107 rfl (lv_at hl 2 rfl) ?_
    refine lv_imul hx hb dX9_asItIs_108 ?_
    refine lv_iadd hx hb dX9_asItIs_109 ?_
    obtain ⟨g_7, hf⟩ := sn_gdE hf
    refine sn_iald C hw layM_1 g_7 dX9_asItIs_110 ?_
    refine lv_iadd hx hb dX9_asItIs_111 ?_
    obtain ⟨g_8, hf⟩ := sn_gdE hf
    refine sn_iast C hw layM_7 g_8 dX9_asItIs_112 (fun H locs hw => ?_)
    obtain ⟨σ_9, e_10, hf⟩ := sn_ltE hf
    rw [← e_10] at hw
    refine lv_aload_n hx hb dX9_asItIs_113 rfl (lv_at hl 1 rfl) ?_
    refine lv_dup hx hb dX9_asItIs_114 rfl ?_
    refine sn_getI C hw fd_RX9_237 layM_0 rfl dX9_asItIs_115 ?_
    refine lv_iconst (v := 1) hx hb dX9_asItIs_118 rfl ?_
    refine lv_iload_n hx hb dX9_asItIs_119 rfl (lv_at hl 0 rfl) ?_
    refine lv_ishl hx hb dX9_asItIs_120 ?_
    refine lv_ior hx hb dX9_asItIs_121 ?_
    refine sn_putI C hw fp_RX9_237 layM_0 rfl dX9_asItIs_122 (fun H locs hw => ?_)
    obtain ⟨σ_11, e_12, hf⟩ := sn_ltE hf
    rw [← e_12] at hw
    obtain ⟨y_13, e_14, hf⟩ := sn_ltE hf
    refine lv_iinc (v := y_13) (lv' := [(1, .int y_13), (2, .int y_4), (0, .ref (ad 0))]) hx hb dX9_asItIs_125 hl (k := 2) rfl (by rw [e_14]; rfl) (by decide) rfl (fun ls hl => ?_)
    refine lv_goto (tgt := 68) hx hb dX9_asItIs_128 (by decide) ?_
    cases hf
    exact kc _ rfl _ _ _ hw (lv_sub hl [2, 0] rfl)
theorem wX9_asItIs_L68 (C : sn_C p s m args meth c RX9 cX9_asItIs 5 none D ct ad layM A)    {z : sn_S × Int32} {t : sn_S} (h : sn_it (LX9_asItIs_68 ) 5000 z = some t) (kx : ∀ v, t = v → sn_At p l e rmX9_asItIs s m args below meth c Q D ct ad layM A 5 v 131 [(0, .ref (ad 0))] []) : sn_At p l e rmX9_asItIs s m args below meth c Q D ct ad layM A 5 z.1 68 [(0, .ref (ad 0)), (1, .int z.2)] [] :=
  sn_loop (f := LX9_asItIs_68 ) (G := fun z => sn_At p l e rmX9_asItIs s m args below meth c Q D ct ad layM A 5 z.1 68 [(0, .ref (ad 0)), (1, .int z.2)] []) (E := fun t => (∀ v, t = v → sn_At p l e rmX9_asItIs s m args below meth c Q D ct ad layM A 5 v 131 [(0, .ref (ad 0))] []) ∧ True) (fun z o hf k1 k2 => wX9_asItIs_68 C  hf (fun v e => k1 v e) (fun v e => (k2 _ e).1 v rfl)) 5000 z t h ⟨kx, trivial⟩
theorem wX9_asItIs_66 (C : sn_C p s m args meth c RX9 cX9_asItIs 5 none D ct ad layM A) {σ : sn_S}  {o : sn_S} (hf : BX9_asItIs_66 σ = some o) (kr : sn_Kr p l e rmX9_asItIs s m args below meth c Q D ct ad layM A cX9_asItIs .return_ (true) o []) : sn_At p l e rmX9_asItIs s m args below meth c Q D ct ad layM A 5 σ 66 [(0, .ref (ad 0))] [] := by
  intro H locs ls hw hl
  have hx := C.1
  have hb := C.2.1
  unfold BX9_asItIs_66 at hf
  refine lv_iconst (v := 0) hx hb dX9_asItIs_66 rfl ?_
  refine lv_istore_n (lv' := [(1, .int (0 : Int32)), (0, .ref (ad 0))]) hx hb dX9_asItIs_67 rfl hl (by decide) rfl (fun ls hl => ?_)
  obtain ⟨t_1, h_2, hf⟩ := sn_bd hf
  exact wX9_asItIs_L68 C  h_2 (fun v e => by cases e; exact wX9_asItIs_131 C  hf kr) _ _ _ hw (lv_sub hl [1, 0] rfl)
theorem wX9_asItIs_42 (C : sn_C p s m args meth c RX9 cX9_asItIs 5 none D ct ad layM A) {σ : sn_S} {x1 : Int32}  {o : (sn_S × Int32) ⊕ (sn_S)} (hf : BX9_asItIs_42 σ x1 = some o) (kc : ∀ v, o = .inl v → sn_At p l e rmX9_asItIs s m args below meth c Q D ct ad layM A 5 v.1 42 [(0, .ref (ad 0)), (1, .int v.2)] []) (kx : ∀ v, o = .inr v → sn_At p l e rmX9_asItIs s m args below meth c Q D ct ad layM A 5 v 66 [(0, .ref (ad 0))] []) : sn_At p l e rmX9_asItIs s m args below meth c Q D ct ad layM A 5 σ 42 [(0, .ref (ad 0)), (1, .int x1)] [] := by
  intro H locs ls hw hl
  have hx := C.1
  have hb := C.2.1
  unfold BX9_asItIs_42 at hf
  refine lv_iload_n hx hb dX9_asItIs_42 rfl (lv_at hl 1 rfl) ?_
  refine lv_bipush (v := 30) hx hb dX9_asItIs_43 (by decide) ?_
  refine lv_icmp_ge (tgt := 66) hx hb dX9_asItIs_45 (by decide) (fun c_1 => ?_) (fun c_1 => ?_)
  · have hf := sn_if c_1 hf
    cases hf
    exact kx _ rfl _ _ _ hw (lv_sub hl [0] rfl)
  · have hf := sn_el c_1 hf
    refine lv_aload_n hx hb dX9_asItIs_48 rfl (lv_at hl 0 rfl) ?_
    refine sn_getC (r := 7) C hw fd_RX9_34 layM_0 rfl dX9_asItIs_49 ?_
    refine lv_iload_n hx hb dX9_asItIs_52 rfl (lv_at hl 1 rfl) ?_
    refine lv_aload_n hx hb dX9_asItIs_53 rfl (lv_at hl 0 rfl) ?_
    refine sn_getC (r := 1) C hw fd_RX9_9 layM_0 rfl dX9_asItIs_54 ?_
    refine lv_iconst (v := 1) hx hb dX9_asItIs_57 rfl ?_
    obtain ⟨g_2, hf⟩ := sn_gdE hf
    refine sn_iald C hw layM_1 g_2 dX9_asItIs_58 ?_
    obtain ⟨g_3, hf⟩ := sn_gdE hf
    refine sn_iast C hw layM_7 g_3 dX9_asItIs_59 (fun H locs hw => ?_)
    obtain ⟨σ_4, e_5, hf⟩ := sn_ltE hf
    rw [← e_5] at hw
    obtain ⟨y_6, e_7, hf⟩ := sn_ltE hf
    refine lv_iinc (v := y_6) (lv' := [(1, .int y_6), (0, .ref (ad 0))]) hx hb dX9_asItIs_60 hl (k := 1) rfl (by rw [e_7]; rfl) (by decide) rfl (fun ls hl => ?_)
    refine lv_goto (tgt := 42) hx hb dX9_asItIs_63 (by decide) ?_
    cases hf
    exact kc _ rfl _ _ _ hw (lv_sub hl [1, 0] rfl)
theorem wX9_asItIs_L42 (C : sn_C p s m args meth c RX9 cX9_asItIs 5 none D ct ad layM A)    {z : sn_S × Int32} {t : sn_S} (h : sn_it (LX9_asItIs_42 ) 5000 z = some t) (kx : ∀ v, t = v → sn_At p l e rmX9_asItIs s m args below meth c Q D ct ad layM A 5 v 66 [(0, .ref (ad 0))] []) : sn_At p l e rmX9_asItIs s m args below meth c Q D ct ad layM A 5 z.1 42 [(0, .ref (ad 0)), (1, .int z.2)] [] :=
  sn_loop (f := LX9_asItIs_42 ) (G := fun z => sn_At p l e rmX9_asItIs s m args below meth c Q D ct ad layM A 5 z.1 42 [(0, .ref (ad 0)), (1, .int z.2)] []) (E := fun t => (∀ v, t = v → sn_At p l e rmX9_asItIs s m args below meth c Q D ct ad layM A 5 v 66 [(0, .ref (ad 0))] []) ∧ True) (fun z o hf k1 k2 => wX9_asItIs_42 C  hf (fun v e => k1 v e) (fun v e => (k2 _ e).1 v rfl)) 5000 z t h ⟨kx, trivial⟩
theorem wX9_asItIs_in (C : sn_C p s m args meth c RX9 cX9_asItIs 5 none D ct ad layM A) {σ : sn_S}  {o : sn_S} (hf : fX9_asItIs σ = some o) (kr : sn_Kr p l e rmX9_asItIs s m args below meth c Q D ct ad layM A cX9_asItIs .return_ (true) o []) : sn_At p l e rmX9_asItIs s m args below meth c Q D ct ad layM A 5 σ 0 [(0, .ref (ad 0))] [] := by
  intro H locs ls hw hl
  have hx := C.1
  have hb := C.2.1
  unfold fX9_asItIs at hf
  refine lv_aload_n hx hb dX9_asItIs_0 rfl (lv_at hl 0 rfl) ?_
  refine lv_iconst (v := 0) hx hb dX9_asItIs_1 rfl ?_
  refine sn_putI C hw fp_RX9_237 layM_0 rfl dX9_asItIs_2 (fun H locs hw => ?_)
  obtain ⟨σ_1, e_2, hf⟩ := sn_ltE hf
  rw [← e_2] at hw
  refine lv_aload_n hx hb dX9_asItIs_5 rfl (lv_at hl 0 rfl) ?_
  refine lv_iconst (v := (-1)) hx hb dX9_asItIs_6 rfl ?_
  refine sn_putI C hw fp_RX9_240 layM_0 rfl dX9_asItIs_7 (fun H locs hw => ?_)
  obtain ⟨σ_3, e_4, hf⟩ := sn_ltE hf
  rw [← e_4] at hw
  refine lv_aload_n hx hb dX9_asItIs_10 rfl (lv_at hl 0 rfl) ?_
  refine lv_aload_n hx hb dX9_asItIs_11 rfl (lv_at hl 0 rfl) ?_
  refine sn_getC (r := 1) C hw fd_RX9_9 layM_0 rfl dX9_asItIs_12 ?_
  refine lv_iconst (v := 2) hx hb dX9_asItIs_15 rfl ?_
  obtain ⟨g_5, hf⟩ := sn_gdE hf
  refine sn_iald C hw layM_1 g_5 dX9_asItIs_16 ?_
  refine sn_putI C hw fp_RX9_243 layM_0 rfl dX9_asItIs_17 (fun H locs hw => ?_)
  obtain ⟨σ_6, e_7, hf⟩ := sn_ltE hf
  rw [← e_7] at hw
  refine lv_aload_n hx hb dX9_asItIs_20 rfl (lv_at hl 0 rfl) ?_
  refine lv_aload_n hx hb dX9_asItIs_21 rfl (lv_at hl 0 rfl) ?_
  refine sn_getC (r := 1) C hw fd_RX9_9 layM_0 rfl dX9_asItIs_22 ?_
  refine lv_iconst (v := 3) hx hb dX9_asItIs_25 rfl ?_
  obtain ⟨g_8, hf⟩ := sn_gdE hf
  refine sn_iald C hw layM_1 g_8 dX9_asItIs_26 ?_
  refine sn_putI C hw fp_RX9_246 layM_0 rfl dX9_asItIs_27 (fun H locs hw => ?_)
  obtain ⟨σ_9, e_10, hf⟩ := sn_ltE hf
  rw [← e_10] at hw
  refine lv_aload_n hx hb dX9_asItIs_30 rfl (lv_at hl 0 rfl) ?_
  refine lv_aload_n hx hb dX9_asItIs_31 rfl (lv_at hl 0 rfl) ?_
  obtain ⟨t_11, h_12, hf⟩ := sn_bd hf
  refine sn_callVi (rest := [.ref (ad 0)]) C hw (ctX9_minutes l  h_12) kl_RX9_249 layM_0 rfl rfl rfl rfl (Nat.le_of_ble_eq_true rfl) dX9_asItIs_32 hl.1 (fun H locs hw => ?_)
  refine lv_iconst (v := 1) hx hb dX9_asItIs_35 rfl ?_
  refine lv_isub hx hb dX9_asItIs_36 ?_
  refine sn_putI C hw fp_RX9_251 layM_0 rfl dX9_asItIs_37 (fun H locs hw => ?_)
  obtain ⟨σ_13, e_14, hf⟩ := sn_ltE hf
  rw [← e_14] at hw
  refine lv_iconst (v := 0) hx hb dX9_asItIs_40 rfl ?_
  refine lv_istore_n (lv' := [(1, .int (0 : Int32)), (0, .ref (ad 0))]) hx hb dX9_asItIs_41 rfl hl (by decide) rfl (fun ls hl => ?_)
  obtain ⟨t_15, h_16, hf⟩ := sn_bd hf
  exact wX9_asItIs_L42 C  h_16 (fun v e => by cases e; exact wX9_asItIs_66 C  hf kr) _ _ _ hw (lv_sub hl [1, 0] rfl)
theorem ctX9_asItIs (l : Launch) {σ : sn_S}  {o : sn_S} (hf : fX9_asItIs σ = some o) : sn_M l yX9_asItIs cX9_asItIs 5 none rmX9_asItIs layM (fun ad => [.ref (ad 0)]) σ none o :=
  sn_met (by decide) (fun _ => Nat.le_of_ble_eq_true rfl) (fun p e s m args below meth c ls D ct ad A C hw hl => wX9_asItIs_in C  hf (fun H locs ls pc hw ok hd => sn_vret C hw hd) _ _ _ hw hl)
-- X9_netsTo
abbrev rmX9_netsTo : Room := { frames := 1, cells := 0, slots := 0, locals := 21 }
def BX9_netsTo_97 (σ : sn_S) (x3 : Int32) : Option (Int32) :=
  (some x3)
def BX9_netsTo_91 (σ : sn_S) (x1 : Int32) (x2 : Int32) (x3 : Int32) (x4 : Int32) : Option ((Int32 × Int32) ⊕ (Int32)) :=
  (sn_lt (x4 + 1) fun y_1 => (some (.inl (x3, y_1))))
def BX9_netsTo_88 (σ : sn_S) (x1 : Int32) (x2 : Int32) (x3 : Int32) (x4 : Int32) : Option ((Int32 × Int32) ⊕ (Int32)) :=
  (sn_lt (x3 + 1) fun y_1 => (BX9_netsTo_91 σ x1 x2 y_1 x4))
def BX9_netsTo_72 (σ : sn_S) (x1 : Int32) (x2 : Int32) (x3 : Int32) (x4 : Int32) (x5 : Int32) (x6 : Int32) : Option ((Int32 × Int32) ⊕ (Int32)) :=
  (if x6 = x1 then
  ((fX9_bit x2 x5).bind fun t_2 => (if t_2 = (1 : Int32) then
  (BX9_netsTo_88 σ x1 x2 x3 x4)
  else
  (BX9_netsTo_91 σ x1 x2 x3 x4)))
  else
  (BX9_netsTo_91 σ x1 x2 x3 x4))
def BX9_netsTo_5 (σ : sn_S) (x1 : Int32) (x2 : Int32) (x3 : Int32) (x4 : Int32) : Option ((Int32 × Int32) ⊕ (Int32)) :=
  (sn_gd (sn_in (7 : Int32) 119) (if (sn_I σ 1 (7 : Int32).toNatClampNeg) ≤ x4 then
  (some (.inr (x3)))
  else
  (sn_gd (sn_in ((33 : Int32) + ((2 : Int32) * x4)) 119) (sn_lt (sn_I σ 1 ((33 : Int32) + ((2 : Int32) * x4)).toNatClampNeg) fun y_4 => (sn_gd (sn_in (((33 : Int32) + ((2 : Int32) * x4)) + (1 : Int32)) 119) (sn_lt (sn_I σ 1 (((33 : Int32) + ((2 : Int32) * x4)) + (1 : Int32)).toNatClampNeg) fun y_7 => (if x4 = (sn_I σ 0 19) then
  (BX9_netsTo_91 σ x1 x2 x3 x4)
  else
  (if y_4 = x1 then
  ((fX9_bit x2 y_7).bind fun t_11 => (if t_11 = (1 : Int32) then
  (BX9_netsTo_88 σ x1 x2 x3 x4)
  else
  (BX9_netsTo_72 σ x1 x2 x3 x4 y_4 y_7)))
  else
  (BX9_netsTo_72 σ x1 x2 x3 x4 y_4 y_7)))))))))
def LX9_netsTo_5 (σ : sn_S) (x1 : Int32) (x2 : Int32) (s : Int32 × Int32) : Option ((Int32 × Int32) ⊕ (Int32)) := BX9_netsTo_5 σ x1 x2 s.1 s.2
def fX9_netsTo (σ : sn_S) (x1 : Int32) (x2 : Int32) : Option Int32 :=
  ((sn_it (LX9_netsTo_5 σ x1 x2) 5000 ((0 : Int32), (0 : Int32))).bind fun t_1 => (BX9_netsTo_97 σ t_1))
theorem wX9_netsTo_97 (C : sn_C p s m args meth c RX9 cX9_netsTo 7 (some .int) D ct ad layM A) {σ : sn_S} {x3 : Int32}  {o : Int32} (hf : BX9_netsTo_97 σ x3 = some o) (kr : sn_Kr p l e rmX9_netsTo s m args below meth c Q D ct ad layM A cX9_netsTo .ireturn (true) σ [.int o]) : sn_At p l e rmX9_netsTo s m args below meth c Q D ct ad layM A 7 σ 97 [(3, .int x3)] [] := by
  intro H locs ls hw hl
  have hx := C.1
  have hb := C.2.1
  unfold BX9_netsTo_97 at hf
  refine lv_iload_n hx hb dX9_netsTo_97 rfl (lv_at hl 0 rfl) ?_
  cases hf
  exact kr _ _ _ _ hw rfl dX9_netsTo_98
theorem wX9_netsTo_91 (C : sn_C p s m args meth c RX9 cX9_netsTo 7 (some .int) D ct ad layM A) {σ : sn_S} {x1 : Int32} {x2 : Int32} {x3 : Int32} {x4 : Int32}  {o : (Int32 × Int32) ⊕ (Int32)} (hf : BX9_netsTo_91 σ x1 x2 x3 x4 = some o) (kc : ∀ v, o = .inl v → sn_At p l e rmX9_netsTo s m args below meth c Q D ct ad layM A 7 σ 5 [(0, .ref (ad 0)), (1, .int x1), (2, .int x2), (3, .int v.1), (4, .int v.2)] []) (kx : ∀ v, o = .inr v → sn_At p l e rmX9_netsTo s m args below meth c Q D ct ad layM A 7 σ 97 [(3, .int v)] []) : sn_At p l e rmX9_netsTo s m args below meth c Q D ct ad layM A 7 σ 91 [(0, .ref (ad 0)), (1, .int x1), (2, .int x2), (3, .int x3), (4, .int x4)] [] := by
  intro H locs ls hw hl
  have hx := C.1
  have hb := C.2.1
  unfold BX9_netsTo_91 at hf
  obtain ⟨y_1, e_2, hf⟩ := sn_ltE hf
  refine lv_iinc (v := y_1) (lv' := [(4, .int y_1), (0, .ref (ad 0)), (1, .int x1), (2, .int x2), (3, .int x3)]) hx hb dX9_netsTo_91 hl (k := 4) rfl (by rw [e_2]; rfl) (by decide) rfl (fun ls hl => ?_)
  refine lv_goto (tgt := 5) hx hb dX9_netsTo_94 (by decide) ?_
  cases hf
  exact kc _ rfl _ _ _ hw (lv_sub hl [1, 2, 3, 4, 0] rfl)
theorem wX9_netsTo_88 (C : sn_C p s m args meth c RX9 cX9_netsTo 7 (some .int) D ct ad layM A) {σ : sn_S} {x1 : Int32} {x2 : Int32} {x3 : Int32} {x4 : Int32}  {o : (Int32 × Int32) ⊕ (Int32)} (hf : BX9_netsTo_88 σ x1 x2 x3 x4 = some o) (kc : ∀ v, o = .inl v → sn_At p l e rmX9_netsTo s m args below meth c Q D ct ad layM A 7 σ 5 [(0, .ref (ad 0)), (1, .int x1), (2, .int x2), (3, .int v.1), (4, .int v.2)] []) (kx : ∀ v, o = .inr v → sn_At p l e rmX9_netsTo s m args below meth c Q D ct ad layM A 7 σ 97 [(3, .int v)] []) : sn_At p l e rmX9_netsTo s m args below meth c Q D ct ad layM A 7 σ 88 [(0, .ref (ad 0)), (1, .int x1), (2, .int x2), (3, .int x3), (4, .int x4)] [] := by
  intro H locs ls hw hl
  have hx := C.1
  have hb := C.2.1
  unfold BX9_netsTo_88 at hf
  obtain ⟨y_1, e_2, hf⟩ := sn_ltE hf
  refine lv_iinc (v := y_1) (lv' := [(3, .int y_1), (0, .ref (ad 0)), (1, .int x1), (2, .int x2), (4, .int x4)]) hx hb dX9_netsTo_88 hl (k := 3) rfl (by rw [e_2]; rfl) (by decide) rfl (fun ls hl => ?_)
  exact wX9_netsTo_91 C  hf kc kx _ _ _ hw (lv_sub hl [1, 2, 3, 0, 4] rfl)
theorem wX9_netsTo_72 (C : sn_C p s m args meth c RX9 cX9_netsTo 7 (some .int) D ct ad layM A) {σ : sn_S} {x1 : Int32} {x2 : Int32} {x3 : Int32} {x4 : Int32} {x5 : Int32} {x6 : Int32}  {o : (Int32 × Int32) ⊕ (Int32)} (hf : BX9_netsTo_72 σ x1 x2 x3 x4 x5 x6 = some o) (kc : ∀ v, o = .inl v → sn_At p l e rmX9_netsTo s m args below meth c Q D ct ad layM A 7 σ 5 [(0, .ref (ad 0)), (1, .int x1), (2, .int x2), (3, .int v.1), (4, .int v.2)] []) (kx : ∀ v, o = .inr v → sn_At p l e rmX9_netsTo s m args below meth c Q D ct ad layM A 7 σ 97 [(3, .int v)] []) : sn_At p l e rmX9_netsTo s m args below meth c Q D ct ad layM A 7 σ 72 [(0, .ref (ad 0)), (1, .int x1), (2, .int x2), (3, .int x3), (4, .int x4), (5, .int x5), (6, .int x6)] [] := by
  intro H locs ls hw hl
  have hx := C.1
  have hb := C.2.1
  unfold BX9_netsTo_72 at hf
  refine lv_iload hx hb dX9_netsTo_72 (lv_at hl 6 rfl) ?_
  refine lv_iload_n hx hb dX9_netsTo_74 rfl (lv_at hl 1 rfl) ?_
  refine lv_icmp_ne (tgt := 91) hx hb dX9_netsTo_75 (by decide) (fun c_1 => ?_) (fun c_1 => ?_)
  · have hf := sn_el c_1 hf
    exact wX9_netsTo_91 C  hf kc kx _ _ _ hw (lv_sub hl [0, 1, 2, 3, 4] rfl)
  · have hf := sn_if c_1 hf
    refine lv_iload_n hx hb dX9_netsTo_78 rfl (lv_at hl 2 rfl) ?_
    refine lv_iload hx hb dX9_netsTo_79 (lv_at hl 5 rfl) ?_
    obtain ⟨t_2, h_3, hf⟩ := sn_bd hf
    refine sn_callSi (rest := []) C hw (ctX9_bit l  h_3) kl_RX9_254 rfl rfl rfl (Nat.le_of_ble_eq_true rfl) dX9_netsTo_81 hl.1 (fun H locs hw => ?_)
    refine lv_iconst (v := 1) hx hb dX9_netsTo_84 rfl ?_
    refine lv_icmp_ne (tgt := 91) hx hb dX9_netsTo_85 (by decide) (fun c_4 => ?_) (fun c_4 => ?_)
    · have hf := sn_el c_4 hf
      exact wX9_netsTo_91 C  hf kc kx _ _ _ hw (lv_sub hl [0, 1, 2, 3, 4] rfl)
    · have hf := sn_if c_4 hf
      exact wX9_netsTo_88 C  hf kc kx _ _ _ hw (lv_sub hl [0, 1, 2, 3, 4] rfl)
theorem wX9_netsTo_5 (C : sn_C p s m args meth c RX9 cX9_netsTo 7 (some .int) D ct ad layM A) {σ : sn_S} {x1 : Int32} {x2 : Int32} {x3 : Int32} {x4 : Int32}  {o : (Int32 × Int32) ⊕ (Int32)} (hf : BX9_netsTo_5 σ x1 x2 x3 x4 = some o) (kc : ∀ v, o = .inl v → sn_At p l e rmX9_netsTo s m args below meth c Q D ct ad layM A 7 σ 5 [(0, .ref (ad 0)), (1, .int x1), (2, .int x2), (3, .int v.1), (4, .int v.2)] []) (kx : ∀ v, o = .inr v → sn_At p l e rmX9_netsTo s m args below meth c Q D ct ad layM A 7 σ 97 [(3, .int v)] []) : sn_At p l e rmX9_netsTo s m args below meth c Q D ct ad layM A 7 σ 5 [(0, .ref (ad 0)), (1, .int x1), (2, .int x2), (3, .int x3), (4, .int x4)] [] := by
  intro H locs ls hw hl
  have hx := C.1
  have hb := C.2.1
  unfold BX9_netsTo_5 at hf
  refine lv_iload hx hb dX9_netsTo_5 (lv_at hl 4 rfl) ?_
  refine lv_aload_n hx hb dX9_netsTo_7 rfl (lv_at hl 0 rfl) ?_
  refine sn_getC (r := 1) C hw fd_RX9_9 layM_0 rfl dX9_netsTo_8 ?_
  refine lv_bipush (v := 7) hx hb dX9_netsTo_11 (by decide) ?_
  obtain ⟨g_1, hf⟩ := sn_gdE hf
  refine sn_iald C hw layM_1 g_1 dX9_netsTo_13 ?_
  refine lv_icmp_ge (tgt := 97) hx hb dX9_netsTo_14 (by decide) (fun c_2 => ?_) (fun c_2 => ?_)
  · have hf := sn_if c_2 hf
    cases hf
    exact kx _ rfl _ _ _ hw (lv_sub hl [3] rfl)
  · have hf := sn_el c_2 hf
    refine lv_aload_n hx hb dX9_netsTo_17 rfl (lv_at hl 0 rfl) ?_
    refine sn_getC (r := 1) C hw fd_RX9_9 layM_0 rfl dX9_netsTo_18 ?_
    refine lv_bipush (v := 33) hx hb dX9_netsTo_21 (by decide) ?_
    refine lv_iconst (v := 2) hx hb dX9_netsTo_23 rfl ?_
    refine lv_iload hx hb dX9_netsTo_24 (lv_at hl 4 rfl) ?_
    refine lv_imul hx hb dX9_netsTo_26 ?_
    refine lv_iadd hx hb dX9_netsTo_27 ?_
    obtain ⟨g_3, hf⟩ := sn_gdE hf
    refine sn_iald C hw layM_1 g_3 dX9_netsTo_28 ?_
    obtain ⟨y_4, e_5, hf⟩ := sn_ltE hf
    refine lv_topi (fun y_4_ e_5_ => ?_)
    obtain rfl : y_4 = y_4_ := e_5.trans e_5_.symm
    refine lv_istore (lv' := [(5, .int y_4), (0, .ref (ad 0)), (1, .int x1), (2, .int x2), (3, .int x3), (4, .int x4)]) hx hb dX9_netsTo_29 hl (by decide) rfl (fun ls hl => ?_)
    refine lv_aload_n hx hb dX9_netsTo_31 rfl (lv_at hl 1 rfl) ?_
    refine sn_getC (r := 1) C hw fd_RX9_9 layM_0 rfl dX9_netsTo_32 ?_
    refine lv_bipush (v := 33) hx hb dX9_netsTo_35 (by decide) ?_
    refine lv_iconst (v := 2) hx hb dX9_netsTo_37 rfl ?_
    refine lv_iload hx hb dX9_netsTo_38 (lv_at hl 5 rfl) ?_
    refine lv_imul hx hb dX9_netsTo_40 ?_
    refine lv_iadd hx hb dX9_netsTo_41 ?_
    refine lv_iconst (v := 1) hx hb dX9_netsTo_42 rfl ?_
    refine lv_iadd hx hb dX9_netsTo_43 ?_
    obtain ⟨g_6, hf⟩ := sn_gdE hf
    refine sn_iald C hw layM_1 g_6 dX9_netsTo_44 ?_
    obtain ⟨y_7, e_8, hf⟩ := sn_ltE hf
    refine lv_topi (fun y_7_ e_8_ => ?_)
    obtain rfl : y_7 = y_7_ := e_8.trans e_8_.symm
    refine lv_istore (lv' := [(6, .int y_7), (5, .int y_4), (0, .ref (ad 0)), (1, .int x1), (2, .int x2), (3, .int x3), (4, .int x4)]) hx hb dX9_netsTo_45 hl (by decide) rfl (fun ls hl => ?_)
    refine lv_iload hx hb dX9_netsTo_47 (lv_at hl 6 rfl) ?_
    refine lv_aload_n hx hb dX9_netsTo_49 rfl (lv_at hl 2 rfl) ?_
    refine sn_getI C hw fd_RX9_240 layM_0 rfl dX9_netsTo_50 ?_
    refine lv_icmp_eq (tgt := 91) hx hb dX9_netsTo_53 (by decide) (fun c_9 => ?_) (fun c_9 => ?_)
    · have hf := sn_if c_9 hf
      exact wX9_netsTo_91 C  hf kc kx _ _ _ hw (lv_sub hl [2, 3, 4, 5, 6] rfl)
    · have hf := sn_el c_9 hf
      refine lv_iload hx hb dX9_netsTo_56 (lv_at hl 1 rfl) ?_
      refine lv_iload_n hx hb dX9_netsTo_58 rfl (lv_at hl 3 rfl) ?_
      refine lv_icmp_ne (tgt := 72) hx hb dX9_netsTo_59 (by decide) (fun c_10 => ?_) (fun c_10 => ?_)
      · have hf := sn_el c_10 hf
        exact wX9_netsTo_72 C  hf kc kx _ _ _ hw (lv_sub hl [2, 3, 4, 5, 6, 1, 0] rfl)
      · have hf := sn_if c_10 hf
        refine lv_iload_n hx hb dX9_netsTo_62 rfl (lv_at hl 4 rfl) ?_
        refine lv_iload hx hb dX9_netsTo_63 (lv_at hl 0 rfl) ?_
        obtain ⟨t_11, h_12, hf⟩ := sn_bd hf
        refine sn_callSi (rest := []) C hw (ctX9_bit l  h_12) kl_RX9_254 rfl rfl rfl (Nat.le_of_ble_eq_true rfl) dX9_netsTo_65 hl.1 (fun H locs hw => ?_)
        refine lv_iconst (v := 1) hx hb dX9_netsTo_68 rfl ?_
        refine lv_icmp_eq (tgt := 88) hx hb dX9_netsTo_69 (by decide) (fun c_13 => ?_) (fun c_13 => ?_)
        · have hf := sn_if c_13 hf
          exact wX9_netsTo_88 C  hf kc kx _ _ _ hw (lv_sub hl [2, 3, 4, 5, 6] rfl)
        · have hf := sn_el c_13 hf
          exact wX9_netsTo_72 C  hf kc kx _ _ _ hw (lv_sub hl [2, 3, 4, 5, 6, 1, 0] rfl)
theorem wX9_netsTo_L5 (C : sn_C p s m args meth c RX9 cX9_netsTo 7 (some .int) D ct ad layM A) {σ : sn_S} {x1 : Int32} {x2 : Int32}   {z : Int32 × Int32} {t : Int32} (h : sn_it (LX9_netsTo_5 σ x1 x2) 5000 z = some t) (kx : ∀ v, t = v → sn_At p l e rmX9_netsTo s m args below meth c Q D ct ad layM A 7 σ 97 [(3, .int v)] []) : sn_At p l e rmX9_netsTo s m args below meth c Q D ct ad layM A 7 σ 5 [(0, .ref (ad 0)), (1, .int x1), (2, .int x2), (3, .int z.1), (4, .int z.2)] [] :=
  sn_loop (f := LX9_netsTo_5 σ x1 x2) (G := fun z => sn_At p l e rmX9_netsTo s m args below meth c Q D ct ad layM A 7 σ 5 [(0, .ref (ad 0)), (1, .int x1), (2, .int x2), (3, .int z.1), (4, .int z.2)] []) (E := fun t => (∀ v, t = v → sn_At p l e rmX9_netsTo s m args below meth c Q D ct ad layM A 7 σ 97 [(3, .int v)] []) ∧ True) (fun z o hf k1 k2 => wX9_netsTo_5 C  hf (fun v e => k1 v e) (fun v e => (k2 _ e).1 v rfl)) 5000 z t h ⟨kx, trivial⟩
theorem wX9_netsTo_in (C : sn_C p s m args meth c RX9 cX9_netsTo 7 (some .int) D ct ad layM A) {σ : sn_S} {x1 : Int32} {x2 : Int32}  {o : Int32} (hf : fX9_netsTo σ x1 x2 = some o) (kr : sn_Kr p l e rmX9_netsTo s m args below meth c Q D ct ad layM A cX9_netsTo .ireturn (true) σ [.int o]) : sn_At p l e rmX9_netsTo s m args below meth c Q D ct ad layM A 7 σ 0 [(0, .ref (ad 0)), (1, .int x1), (2, .int x2)] [] := by
  intro H locs ls hw hl
  have hx := C.1
  have hb := C.2.1
  unfold fX9_netsTo at hf
  refine lv_iconst (v := 0) hx hb dX9_netsTo_0 rfl ?_
  refine lv_istore_n (lv' := [(3, .int (0 : Int32)), (0, .ref (ad 0)), (1, .int x1), (2, .int x2)]) hx hb dX9_netsTo_1 rfl hl (by decide) rfl (fun ls hl => ?_)
  refine lv_iconst (v := 0) hx hb dX9_netsTo_2 rfl ?_
  refine lv_istore (lv' := [(4, .int (0 : Int32)), (3, .int (0 : Int32)), (0, .ref (ad 0)), (1, .int x1), (2, .int x2)]) hx hb dX9_netsTo_3 hl (by decide) rfl (fun ls hl => ?_)
  obtain ⟨t_1, h_2, hf⟩ := sn_bd hf
  exact wX9_netsTo_L5 C  h_2 (fun v e => by cases e; exact wX9_netsTo_97 C  hf kr) _ _ _ hw (lv_sub hl [2, 3, 4, 1, 0] rfl)
theorem ctX9_netsTo (l : Launch) {σ : sn_S} {x1 : Int32} {x2 : Int32}  {o : Int32} (hf : fX9_netsTo σ x1 x2 = some o) : sn_M l yX9_netsTo cX9_netsTo 7 (some .int) rmX9_netsTo layM (fun ad => [.ref (ad 0), .int x1, .int x2]) σ (some (fun _ => .int o)) σ :=
  sn_met (by decide) (fun _ => Nat.le_of_ble_eq_true rfl) (fun p e s m args below meth c ls D ct ad A C hw hl => wX9_netsTo_in C  hf (fun H locs ls pc hw ok hd => sn_iret C hw hd) _ _ _ hw hl)
end
end
section
section
variable {p : Program} {l : Launch} {e : Env} {s : State} {m : MethodId} {args : Array Value} {below : List Frame} {meth : Method} {c : Code} {Q : State → Prop} {D : va_G} {ct : Nat → ClassId} {ad : Nat → Nat} {A : Nat → Prop} {lay : List sn_E}
-- X9_goMinute
abbrev rmX9_goMinute : Room := { frames := 2, cells := 0, slots := 0, locals := 47 }
def BX9_goMinute_231 (σ : sn_S) : Option (sn_S) :=
  (some σ)
def BX9_goMinute_225 (σ : sn_S) (x1 : Int32) (x2 : Int32) (x3 : Int32) : Option ((sn_S × Int32) ⊕ (sn_S)) :=
  (sn_lt (x3 + 1) fun y_1 => (some (.inl (σ, y_1))))
def BX9_goMinute_192 (σ : sn_S) (x1 : Int32) (x2 : Int32) (x3 : Int32) (x7 : Int32) (t1 : Int32) (t2 : Int32) : Option ((sn_S × Int32) ⊕ (sn_S)) :=
  (sn_gd (sn_in t1 180) (sn_lt (sn_pI σ 12 t1.toNatClampNeg t2) fun σ_2 => (if x7 = 0 then
  (BX9_goMinute_225 σ_2 x1 x2 x3)
  else
  (sn_gd (sn_in x1 30) (sn_gd (sn_in x1 30) (sn_lt (sn_pI σ_2 11 x1.toNatClampNeg ((sn_I σ_2 11 x1.toNatClampNeg) ||| ((1 : Int32) <<< (x3 &&& 31)))) fun σ_7 => (sn_gd (sn_in x3 6) (sn_gd (sn_in x3 6) (sn_lt (sn_pI σ_7 10 x3.toNatClampNeg ((sn_I σ_7 10 x3.toNatClampNeg) ||| ((1 : Int32) <<< (x1 &&& 31)))) fun σ_11 => (BX9_goMinute_225 σ_11 x1 x2 x3))))))))))
def BX9_goMinute_145 (σ : sn_S) (x1 : Int32) (x2 : Int32) (x3 : Int32) (x4 : Int32) (x5 : Int32) (x6 : Int32) (t0 : Int32) : Option ((sn_S × Int32) ⊕ (sn_S)) :=
  (sn_gd (sn_in x3 6) (sn_gd (sn_in x3 6) (sn_lt (sn_pI σ 14 x3.toNatClampNeg ((sn_I σ 14 x3.toNatClampNeg) + x4)) fun σ_3 => (sn_gd (sn_in (((6 : Int32) * x1) + x3) 180) (sn_lt (sn_pI σ_3 13 (((6 : Int32) * x1) + x3).toNatClampNeg x5) fun σ_6 => (if t0 = 0 then
  (BX9_goMinute_192 σ_6 x1 x2 x3 t0 (((6 : Int32) * x1) + x3) x6)
  else
  (BX9_goMinute_192 σ_6 x1 x2 x3 t0 (((6 : Int32) * x1) + x3) (0 : Int32))))))))
def BX9_goMinute_144 (σ : sn_S) (x1 : Int32) (x2 : Int32) (x3 : Int32) (x4 : Int32) (x5 : Int32) (x6 : Int32) : Option ((sn_S × Int32) ⊕ (sn_S)) :=
  (BX9_goMinute_145 σ x1 x2 x3 x4 x5 x6 (0 : Int32))
def BX9_goMinute_104 (σ : sn_S) (x1 : Int32) (x2 : Int32) (x3 : Int32) (x4 : Int32) (x5 : Int32) (t0 : Int32) : Option ((sn_S × Int32) ⊕ (sn_S)) :=
  (sn_lt (t0 + x5) fun y_1 => (sn_gd (sn_in (((11 : Int32) + ((2 : Int32) * x3)) + (1 : Int32)) 119) (if y_1 < (sn_I σ 1 (((11 : Int32) + ((2 : Int32) * x3)) + (1 : Int32)).toNatClampNeg) then
  (BX9_goMinute_144 σ x1 x2 x3 x4 x5 y_1)
  else
  (sn_gd (sn_in x3 6) ((fX9_bit (sn_I σ 8 x3.toNatClampNeg) x1).bind fun t_6 => (if t_6 = 0 then
  (BX9_goMinute_145 σ x1 x2 x3 x4 x5 y_1 (1 : Int32))
  else
  (BX9_goMinute_144 σ x1 x2 x3 x4 x5 y_1)))))))
def BX9_goMinute_26 (σ : sn_S) (x1 : Int32) (x2 : Int32) (x3 : Int32) : Option ((sn_S × Int32) ⊕ (sn_S)) :=
  (sn_gd (sn_in (5 : Int32) 119) (if (sn_I σ 1 (5 : Int32).toNatClampNeg) ≤ x3 then
  (some (.inr (σ)))
  else
  ((fX9_netsTo σ x3 x2).bind fun t_3 => (sn_lt ((5 : Int32) * t_3) fun y_5 => (sn_gd (sn_in ((11 : Int32) + ((2 : Int32) * x3)) 119) (sn_gd (sn_in x1 30) (sn_gd (sn_in x3 6) ((fX9_bit (sn_I σ 9 x3.toNatClampNeg) x1).bind fun t_10 => (sn_lt ((((sn_I σ 1 ((11 : Int32) + ((2 : Int32) * x3)).toNatClampNeg) * (sn_I σ 7 x1.toNatClampNeg)) + y_5) + ((40 : Int32) * t_10)) fun y_12 => (if x1 = 0 then
  (BX9_goMinute_104 σ x1 x2 x3 y_5 y_12 (0 : Int32))
  else
  (sn_gd (sn_in (((6 : Int32) * (x1 - (1 : Int32))) + x3) 180) (BX9_goMinute_104 σ x1 x2 x3 y_5 y_12 (sn_I σ 12 (((6 : Int32) * (x1 - (1 : Int32))) + x3).toNatClampNeg)))))))))))))
def LX9_goMinute_26 (x1 : Int32) (x2 : Int32) (s : sn_S × Int32) : Option ((sn_S × Int32) ⊕ (sn_S)) := BX9_goMinute_26 s.1 x1 x2 s.2
def BX9_goMinute_23 (σ : sn_S) (x1 : Int32) (t0 : Int32) : Option (sn_S) :=
  ((sn_it (LX9_goMinute_26 x1 t0) 5000 (σ, (0 : Int32))).bind fun t_1 => (BX9_goMinute_231 t_1))
def fX9_goMinute (σ : sn_S) (x1 : Int32) : Option sn_S :=
  (sn_gd (sn_in x1 30) (sn_lt (sn_pI σ 11 x1.toNatClampNeg (0 : Int32)) fun σ_2 => (if x1 = 0 then
  (BX9_goMinute_23 σ_2 x1 (0 : Int32))
  else
  (sn_gd (sn_in (x1 - (1 : Int32)) 30) (BX9_goMinute_23 σ_2 x1 (sn_I σ_2 11 (x1 - (1 : Int32)).toNatClampNeg))))))
theorem wX9_goMinute_231 (C : sn_C p s m args meth c RX9 cX9_goMinute 8 none D ct ad layM A) {σ : sn_S}  {o : sn_S} (hf : BX9_goMinute_231 σ = some o) (kr : sn_Kr p l e rmX9_goMinute s m args below meth c Q D ct ad layM A cX9_goMinute .return_ (true) o []) : sn_At p l e rmX9_goMinute s m args below meth c Q D ct ad layM A 8 σ 231 [] [] := by
  intro H locs ls hw hl
  have hx := C.1
  have hb := C.2.1
  unfold BX9_goMinute_231 at hf
  cases hf
  exact kr _ _ _ _ hw rfl dX9_goMinute_231
theorem wX9_goMinute_225 (C : sn_C p s m args meth c RX9 cX9_goMinute 8 none D ct ad layM A) {σ : sn_S} {x1 : Int32} {x2 : Int32} {x3 : Int32}  {o : (sn_S × Int32) ⊕ (sn_S)} (hf : BX9_goMinute_225 σ x1 x2 x3 = some o) (kc : ∀ v, o = .inl v → sn_At p l e rmX9_goMinute s m args below meth c Q D ct ad layM A 8 v.1 26 [(0, .ref (ad 0)), (1, .int x1), (2, .int x2), (3, .int v.2)] []) (kx : ∀ v, o = .inr v → sn_At p l e rmX9_goMinute s m args below meth c Q D ct ad layM A 8 v 231 [] []) : sn_At p l e rmX9_goMinute s m args below meth c Q D ct ad layM A 8 σ 225 [(0, .ref (ad 0)), (1, .int x1), (2, .int x2), (3, .int x3)] [] := by
  intro H locs ls hw hl
  have hx := C.1
  have hb := C.2.1
  unfold BX9_goMinute_225 at hf
  obtain ⟨y_1, e_2, hf⟩ := sn_ltE hf
  refine lv_iinc (v := y_1) (lv' := [(3, .int y_1), (0, .ref (ad 0)), (1, .int x1), (2, .int x2)]) hx hb dX9_goMinute_225 hl (k := 3) rfl (by rw [e_2]; rfl) (by decide) rfl (fun ls hl => ?_)
  refine lv_goto (tgt := 26) hx hb dX9_goMinute_228 (by decide) ?_
  cases hf
  exact kc _ rfl _ _ _ hw (lv_sub hl [1, 2, 3, 0] rfl)
theorem wX9_goMinute_192 (C : sn_C p s m args meth c RX9 cX9_goMinute 8 none D ct ad layM A) {σ : sn_S} {x1 : Int32} {x2 : Int32} {x3 : Int32} {x7 : Int32} {t1 : Int32} {t2 : Int32}  {o : (sn_S × Int32) ⊕ (sn_S)} (hf : BX9_goMinute_192 σ x1 x2 x3 x7 t1 t2 = some o) (kc : ∀ v, o = .inl v → sn_At p l e rmX9_goMinute s m args below meth c Q D ct ad layM A 8 v.1 26 [(0, .ref (ad 0)), (1, .int x1), (2, .int x2), (3, .int v.2)] []) (kx : ∀ v, o = .inr v → sn_At p l e rmX9_goMinute s m args below meth c Q D ct ad layM A 8 v 231 [] []) : sn_At p l e rmX9_goMinute s m args below meth c Q D ct ad layM A 8 σ 192 [(0, .ref (ad 0)), (1, .int x1), (2, .int x2), (3, .int x3), (7, .int x7)] [.int t2, .int t1, .ref (ad 12)] := by
  intro H locs ls hw hl
  have hx := C.1
  have hb := C.2.1
  unfold BX9_goMinute_192 at hf
  obtain ⟨g_1, hf⟩ := sn_gdE hf
  refine sn_iast C hw layM_12 g_1 dX9_goMinute_192 (fun H locs hw => ?_)
  obtain ⟨σ_2, e_3, hf⟩ := sn_ltE hf
  rw [← e_3] at hw
  refine lv_iload hx hb dX9_goMinute_193 (lv_at hl 4 rfl) ?_
  refine lv_if_ne (tgt := 201) hx hb dX9_goMinute_195 (by decide) (fun c_4 => ?_) (fun c_4 => ?_)
  · have hf := sn_el c_4 hf
    refine lv_aload_n hx hb dX9_goMinute_201 rfl (lv_at hl 0 rfl) ?_
    refine sn_getC (r := 11) C hw fd_RX9_46 layM_0 rfl dX9_goMinute_202 ?_
    refine lv_iload_n hx hb dX9_goMinute_205 rfl (lv_at hl 1 rfl) ?_
    refine lv_dup2_11 hx hb dX9_goMinute_206 rfl rfl ?_
    obtain ⟨g_5, hf⟩ := sn_gdE hf
    refine sn_iald C hw layM_11 g_5 dX9_goMinute_207 ?_
    refine lv_iconst (v := 1) hx hb dX9_goMinute_208 rfl ?_
    refine lv_iload_n hx hb dX9_goMinute_209 rfl (lv_at hl 3 rfl) ?_
    refine lv_ishl hx hb dX9_goMinute_210 ?_
    refine lv_ior hx hb dX9_goMinute_211 ?_
    obtain ⟨g_6, hf⟩ := sn_gdE hf
    refine sn_iast C hw layM_11 g_6 dX9_goMinute_212 (fun H locs hw => ?_)
    obtain ⟨σ_7, e_8, hf⟩ := sn_ltE hf
    rw [← e_8] at hw
    refine lv_aload_n hx hb dX9_goMinute_213 rfl (lv_at hl 0 rfl) ?_
    refine sn_getC (r := 10) C hw fd_RX9_43 layM_0 rfl dX9_goMinute_214 ?_
    refine lv_iload_n hx hb dX9_goMinute_217 rfl (lv_at hl 3 rfl) ?_
    refine lv_dup2_11 hx hb dX9_goMinute_218 rfl rfl ?_
    obtain ⟨g_9, hf⟩ := sn_gdE hf
    refine sn_iald C hw layM_10 g_9 dX9_goMinute_219 ?_
    refine lv_iconst (v := 1) hx hb dX9_goMinute_220 rfl ?_
    refine lv_iload_n hx hb dX9_goMinute_221 rfl (lv_at hl 1 rfl) ?_
    refine lv_ishl hx hb dX9_goMinute_222 ?_
    refine lv_ior hx hb dX9_goMinute_223 ?_
    obtain ⟨g_10, hf⟩ := sn_gdE hf
    refine sn_iast C hw layM_10 g_10 dX9_goMinute_224 (fun H locs hw => ?_)
    obtain ⟨σ_11, e_12, hf⟩ := sn_ltE hf
    rw [← e_12] at hw
    exact wX9_goMinute_225 C  hf kc kx _ _ _ hw (lv_sub hl [0, 1, 2, 3] rfl)
  · have hf := sn_if c_4 hf
    refine lv_goto (tgt := 225) hx hb dX9_goMinute_198 (by decide) ?_
    exact wX9_goMinute_225 C  hf kc kx _ _ _ hw (lv_sub hl [0, 1, 2, 3] rfl)
theorem wX9_goMinute_145 (C : sn_C p s m args meth c RX9 cX9_goMinute 8 none D ct ad layM A) {σ : sn_S} {x1 : Int32} {x2 : Int32} {x3 : Int32} {x4 : Int32} {x5 : Int32} {x6 : Int32} {t0 : Int32}  {o : (sn_S × Int32) ⊕ (sn_S)} (hf : BX9_goMinute_145 σ x1 x2 x3 x4 x5 x6 t0 = some o) (kc : ∀ v, o = .inl v → sn_At p l e rmX9_goMinute s m args below meth c Q D ct ad layM A 8 v.1 26 [(0, .ref (ad 0)), (1, .int x1), (2, .int x2), (3, .int v.2)] []) (kx : ∀ v, o = .inr v → sn_At p l e rmX9_goMinute s m args below meth c Q D ct ad layM A 8 v 231 [] []) : sn_At p l e rmX9_goMinute s m args below meth c Q D ct ad layM A 8 σ 145 [(0, .ref (ad 0)), (1, .int x1), (2, .int x2), (3, .int x3), (4, .int x4), (5, .int x5), (6, .int x6)] [.int t0] := by
  intro H locs ls hw hl
  have hx := C.1
  have hb := C.2.1
  unfold BX9_goMinute_145 at hf
  refine lv_istore (lv' := [(7, .int t0), (0, .ref (ad 0)), (1, .int x1), (2, .int x2), (3, .int x3), (4, .int x4), (5, .int x5), (6, .int x6)]) hx hb dX9_goMinute_145 hl (by decide) rfl (fun ls hl => ?_)
  refine lv_aload_n hx hb dX9_goMinute_147 rfl (lv_at hl 1 rfl) ?_
  refine sn_getC (r := 14) C hw fd_RX9_55 layM_0 rfl dX9_goMinute_148 ?_
  refine lv_iload_n hx hb dX9_goMinute_151 rfl (lv_at hl 4 rfl) ?_
  refine lv_dup2_11 hx hb dX9_goMinute_152 rfl rfl ?_
  obtain ⟨g_1, hf⟩ := sn_gdE hf
  refine sn_iald C hw layM_14 g_1 dX9_goMinute_153 ?_
  refine lv_iload hx hb dX9_goMinute_154 (lv_at hl 5 rfl) ?_
  refine lv_iadd hx hb dX9_goMinute_156 ?_
  obtain ⟨g_2, hf⟩ := sn_gdE hf
  refine sn_iast C hw layM_14 g_2 dX9_goMinute_157 (fun H locs hw => ?_)
  obtain ⟨σ_3, e_4, hf⟩ := sn_ltE hf
  rw [← e_4] at hw
  refine lv_aload_n hx hb dX9_goMinute_158 rfl (lv_at hl 1 rfl) ?_
  refine sn_getC (r := 13) C hw fd_RX9_52 layM_0 rfl dX9_goMinute_159 ?_
  refine lv_bipush (v := 6) hx hb dX9_goMinute_162 (by decide) ?_
  refine lv_iload_n hx hb dX9_goMinute_164 rfl (lv_at hl 2 rfl) ?_
  refine lv_imul hx hb dX9_goMinute_165 ?_
  refine lv_iload_n hx hb dX9_goMinute_166 rfl (lv_at hl 4 rfl) ?_
  refine lv_iadd hx hb dX9_goMinute_167 ?_
  refine lv_iload hx hb dX9_goMinute_168 (lv_at hl 6 rfl) ?_
  obtain ⟨g_5, hf⟩ := sn_gdE hf
  refine sn_iast C hw layM_13 g_5 dX9_goMinute_170 (fun H locs hw => ?_)
  obtain ⟨σ_6, e_7, hf⟩ := sn_ltE hf
  rw [← e_7] at hw
  refine lv_aload_n hx hb dX9_goMinute_171 rfl (lv_at hl 1 rfl) ?_
  refine sn_getC (r := 12) C hw fd_RX9_49 layM_0 rfl dX9_goMinute_172 ?_
  refine lv_bipush (v := 6) hx hb dX9_goMinute_175 (by decide) ?_
  refine lv_iload_n hx hb dX9_goMinute_177 rfl (lv_at hl 2 rfl) ?_
  refine lv_imul hx hb dX9_goMinute_178 ?_
  refine lv_iload_n hx hb dX9_goMinute_179 rfl (lv_at hl 4 rfl) ?_
  refine lv_iadd hx hb dX9_goMinute_180 ?_
  refine lv_iload hx hb dX9_goMinute_181 (lv_at hl 0 rfl) ?_
  refine lv_if_eq (tgt := 190) hx hb dX9_goMinute_183 (by decide) (fun c_8 => ?_) (fun c_8 => ?_)
  · have hf := sn_if c_8 hf
    refine lv_iload hx hb dX9_goMinute_190 (lv_at hl 7 rfl) ?_
    exact wX9_goMinute_192 C  hf kc kx _ _ _ hw (lv_sub hl [1, 2, 3, 4, 0] rfl)
  · have hf := sn_el c_8 hf
    refine lv_iconst (v := 0) hx hb dX9_goMinute_186 rfl ?_
    refine lv_goto (tgt := 192) hx hb dX9_goMinute_187 (by decide) ?_
    exact wX9_goMinute_192 C  hf kc kx _ _ _ hw (lv_sub hl [1, 2, 3, 4, 0] rfl)
theorem wX9_goMinute_144 (C : sn_C p s m args meth c RX9 cX9_goMinute 8 none D ct ad layM A) {σ : sn_S} {x1 : Int32} {x2 : Int32} {x3 : Int32} {x4 : Int32} {x5 : Int32} {x6 : Int32}  {o : (sn_S × Int32) ⊕ (sn_S)} (hf : BX9_goMinute_144 σ x1 x2 x3 x4 x5 x6 = some o) (kc : ∀ v, o = .inl v → sn_At p l e rmX9_goMinute s m args below meth c Q D ct ad layM A 8 v.1 26 [(0, .ref (ad 0)), (1, .int x1), (2, .int x2), (3, .int v.2)] []) (kx : ∀ v, o = .inr v → sn_At p l e rmX9_goMinute s m args below meth c Q D ct ad layM A 8 v 231 [] []) : sn_At p l e rmX9_goMinute s m args below meth c Q D ct ad layM A 8 σ 144 [(0, .ref (ad 0)), (1, .int x1), (2, .int x2), (3, .int x3), (4, .int x4), (5, .int x5), (6, .int x6)] [] := by
  intro H locs ls hw hl
  have hx := C.1
  have hb := C.2.1
  unfold BX9_goMinute_144 at hf
  refine lv_iconst (v := 0) hx hb dX9_goMinute_144 rfl ?_
  exact wX9_goMinute_145 C  hf kc kx _ _ _ hw (lv_sub hl [0, 1, 2, 3, 4, 5, 6] rfl)
theorem wX9_goMinute_104 (C : sn_C p s m args meth c RX9 cX9_goMinute 8 none D ct ad layM A) {σ : sn_S} {x1 : Int32} {x2 : Int32} {x3 : Int32} {x4 : Int32} {x5 : Int32} {t0 : Int32}  {o : (sn_S × Int32) ⊕ (sn_S)} (hf : BX9_goMinute_104 σ x1 x2 x3 x4 x5 t0 = some o) (kc : ∀ v, o = .inl v → sn_At p l e rmX9_goMinute s m args below meth c Q D ct ad layM A 8 v.1 26 [(0, .ref (ad 0)), (1, .int x1), (2, .int x2), (3, .int v.2)] []) (kx : ∀ v, o = .inr v → sn_At p l e rmX9_goMinute s m args below meth c Q D ct ad layM A 8 v 231 [] []) : sn_At p l e rmX9_goMinute s m args below meth c Q D ct ad layM A 8 σ 104 [(0, .ref (ad 0)), (1, .int x1), (2, .int x2), (3, .int x3), (4, .int x4), (5, .int x5)] [.int t0] := by
  intro H locs ls hw hl
  have hx := C.1
  have hb := C.2.1
  unfold BX9_goMinute_104 at hf
  refine lv_iload hx hb dX9_goMinute_104 (lv_at hl 5 rfl) ?_
  refine lv_iadd hx hb dX9_goMinute_106 ?_
  obtain ⟨y_1, e_2, hf⟩ := sn_ltE hf
  refine lv_topi (fun y_1_ e_2_ => ?_)
  obtain rfl : y_1 = y_1_ := e_2.trans e_2_.symm
  refine lv_istore (lv' := [(6, .int y_1), (0, .ref (ad 0)), (1, .int x1), (2, .int x2), (3, .int x3), (4, .int x4), (5, .int x5)]) hx hb dX9_goMinute_107 hl (by decide) rfl (fun ls hl => ?_)
  refine lv_iload hx hb dX9_goMinute_109 (lv_at hl 0 rfl) ?_
  refine lv_aload_n hx hb dX9_goMinute_111 rfl (lv_at hl 1 rfl) ?_
  refine sn_getC (r := 1) C hw fd_RX9_9 layM_0 rfl dX9_goMinute_112 ?_
  refine lv_bipush (v := 11) hx hb dX9_goMinute_115 (by decide) ?_
  refine lv_iconst (v := 2) hx hb dX9_goMinute_117 rfl ?_
  refine lv_iload_n hx hb dX9_goMinute_118 rfl (lv_at hl 4 rfl) ?_
  refine lv_imul hx hb dX9_goMinute_119 ?_
  refine lv_iadd hx hb dX9_goMinute_120 ?_
  refine lv_iconst (v := 1) hx hb dX9_goMinute_121 rfl ?_
  refine lv_iadd hx hb dX9_goMinute_122 ?_
  obtain ⟨g_3, hf⟩ := sn_gdE hf
  refine sn_iald C hw layM_1 g_3 dX9_goMinute_123 ?_
  refine lv_icmp_lt (tgt := 144) hx hb dX9_goMinute_124 (by decide) (fun c_4 => ?_) (fun c_4 => ?_)
  · have hf := sn_if c_4 hf
    exact wX9_goMinute_144 C  hf kc kx _ _ _ hw (lv_sub hl [1, 2, 3, 4, 5, 6, 0] rfl)
  · have hf := sn_el c_4 hf
    refine lv_aload_n hx hb dX9_goMinute_127 rfl (lv_at hl 1 rfl) ?_
    refine sn_getC (r := 8) C hw fd_RX9_37 layM_0 rfl dX9_goMinute_128 ?_
    refine lv_iload_n hx hb dX9_goMinute_131 rfl (lv_at hl 4 rfl) ?_
    obtain ⟨g_5, hf⟩ := sn_gdE hf
    refine sn_iald C hw layM_8 g_5 dX9_goMinute_132 ?_
    refine lv_iload_n hx hb dX9_goMinute_133 rfl (lv_at hl 2 rfl) ?_
    obtain ⟨t_6, h_7, hf⟩ := sn_bd hf
    refine sn_callSi (rest := []) C hw (ctX9_bit l  h_7) kl_RX9_254 rfl rfl rfl (Nat.le_of_ble_eq_true rfl) dX9_goMinute_134 hl.1 (fun H locs hw => ?_)
    refine lv_if_ne (tgt := 144) hx hb dX9_goMinute_137 (by decide) (fun c_8 => ?_) (fun c_8 => ?_)
    · have hf := sn_el c_8 hf
      exact wX9_goMinute_144 C  hf kc kx _ _ _ hw (lv_sub hl [1, 2, 3, 4, 5, 6, 0] rfl)
    · have hf := sn_if c_8 hf
      refine lv_iconst (v := 1) hx hb dX9_goMinute_140 rfl ?_
      refine lv_goto (tgt := 145) hx hb dX9_goMinute_141 (by decide) ?_
      exact wX9_goMinute_145 C  hf kc kx _ _ _ hw (lv_sub hl [1, 2, 3, 4, 5, 6, 0] rfl)
theorem wX9_goMinute_26 (C : sn_C p s m args meth c RX9 cX9_goMinute 8 none D ct ad layM A) {σ : sn_S} {x1 : Int32} {x2 : Int32} {x3 : Int32}  {o : (sn_S × Int32) ⊕ (sn_S)} (hf : BX9_goMinute_26 σ x1 x2 x3 = some o) (kc : ∀ v, o = .inl v → sn_At p l e rmX9_goMinute s m args below meth c Q D ct ad layM A 8 v.1 26 [(0, .ref (ad 0)), (1, .int x1), (2, .int x2), (3, .int v.2)] []) (kx : ∀ v, o = .inr v → sn_At p l e rmX9_goMinute s m args below meth c Q D ct ad layM A 8 v 231 [] []) : sn_At p l e rmX9_goMinute s m args below meth c Q D ct ad layM A 8 σ 26 [(0, .ref (ad 0)), (1, .int x1), (2, .int x2), (3, .int x3)] [] := by
  intro H locs ls hw hl
  have hx := C.1
  have hb := C.2.1
  unfold BX9_goMinute_26 at hf
  refine lv_iload_n hx hb dX9_goMinute_26 rfl (lv_at hl 3 rfl) ?_
  refine lv_aload_n hx hb dX9_goMinute_27 rfl (lv_at hl 0 rfl) ?_
  refine sn_getC (r := 1) C hw fd_RX9_9 layM_0 rfl dX9_goMinute_28 ?_
  refine lv_iconst (v := 5) hx hb dX9_goMinute_31 rfl ?_
  obtain ⟨g_1, hf⟩ := sn_gdE hf
  refine sn_iald C hw layM_1 g_1 dX9_goMinute_32 ?_
  refine lv_icmp_ge (tgt := 231) hx hb dX9_goMinute_33 (by decide) (fun c_2 => ?_) (fun c_2 => ?_)
  · have hf := sn_if c_2 hf
    cases hf
    exact kx _ rfl _ _ _ hw (lv_sub hl [] rfl)
  · have hf := sn_el c_2 hf
    refine lv_iconst (v := 5) hx hb dX9_goMinute_36 rfl ?_
    refine lv_aload_n hx hb dX9_goMinute_37 rfl (lv_at hl 0 rfl) ?_
    refine lv_iload_n hx hb dX9_goMinute_38 rfl (lv_at hl 3 rfl) ?_
    refine lv_iload_n hx hb dX9_goMinute_39 rfl (lv_at hl 2 rfl) ?_
    obtain ⟨t_3, h_4, hf⟩ := sn_bd hf
    refine sn_callVi (rest := [.int (5 : Int32)]) C hw (ctX9_netsTo l  h_4) kl_RX9_257 layM_0 rfl rfl rfl rfl (Nat.le_of_ble_eq_true rfl) dX9_goMinute_40 hl.1 (fun H locs hw => ?_)
    refine lv_imul hx hb dX9_goMinute_43 ?_
    obtain ⟨y_5, e_6, hf⟩ := sn_ltE hf
    refine lv_topi (fun y_5_ e_6_ => ?_)
    obtain rfl : y_5 = y_5_ := e_6.trans e_6_.symm
    refine lv_istore (lv' := [(4, .int y_5), (0, .ref (ad 0)), (1, .int x1), (2, .int x2), (3, .int x3)]) hx hb dX9_goMinute_44 hl (by decide) rfl (fun ls hl => ?_)
    refine lv_aload_n hx hb dX9_goMinute_46 rfl (lv_at hl 1 rfl) ?_
    refine sn_getC (r := 1) C hw fd_RX9_9 layM_0 rfl dX9_goMinute_47 ?_
    refine lv_bipush (v := 11) hx hb dX9_goMinute_50 (by decide) ?_
    refine lv_iconst (v := 2) hx hb dX9_goMinute_52 rfl ?_
    refine lv_iload_n hx hb dX9_goMinute_53 rfl (lv_at hl 4 rfl) ?_
    refine lv_imul hx hb dX9_goMinute_54 ?_
    refine lv_iadd hx hb dX9_goMinute_55 ?_
    obtain ⟨g_7, hf⟩ := sn_gdE hf
    refine sn_iald C hw layM_1 g_7 dX9_goMinute_56 ?_
    refine lv_aload_n hx hb dX9_goMinute_57 rfl (lv_at hl 1 rfl) ?_
    refine sn_getC (r := 7) C hw fd_RX9_34 layM_0 rfl dX9_goMinute_58 ?_
    refine lv_iload_n hx hb dX9_goMinute_61 rfl (lv_at hl 2 rfl) ?_
    obtain ⟨g_8, hf⟩ := sn_gdE hf
    refine sn_iald C hw layM_7 g_8 dX9_goMinute_62 ?_
    refine lv_imul hx hb dX9_goMinute_63 ?_
    refine lv_iload hx hb dX9_goMinute_64 (lv_at hl 0 rfl) ?_
    refine lv_iadd hx hb dX9_goMinute_66 ?_
    refine lv_bipush (v := 40) hx hb dX9_goMinute_67 (by decide) ?_
    refine lv_aload_n hx hb dX9_goMinute_69 rfl (lv_at hl 1 rfl) ?_
    refine sn_getC (r := 9) C hw fd_RX9_40 layM_0 rfl dX9_goMinute_70 ?_
    refine lv_iload_n hx hb dX9_goMinute_73 rfl (lv_at hl 4 rfl) ?_
    obtain ⟨g_9, hf⟩ := sn_gdE hf
    refine sn_iald C hw layM_9 g_9 dX9_goMinute_74 ?_
    refine lv_iload_n hx hb dX9_goMinute_75 rfl (lv_at hl 2 rfl) ?_
    obtain ⟨t_10, h_11, hf⟩ := sn_bd hf
    refine sn_callSi (rest := [.int (40 : Int32), .int (((sn_I σ 1 ((11 : Int32) + ((2 : Int32) * x3)).toNatClampNeg) * (sn_I σ 7 x1.toNatClampNeg)) + y_5)]) C hw (ctX9_bit l  h_11) kl_RX9_254 rfl rfl rfl (Nat.le_of_ble_eq_true rfl) dX9_goMinute_76 hl.1 (fun H locs hw => ?_)
    refine lv_imul hx hb dX9_goMinute_79 ?_
    refine lv_iadd hx hb dX9_goMinute_80 ?_
    obtain ⟨y_12, e_13, hf⟩ := sn_ltE hf
    refine lv_topi (fun y_12_ e_13_ => ?_)
    obtain rfl : y_12 = y_12_ := e_13.trans e_13_.symm
    refine lv_istore (lv' := [(5, .int y_12), (4, .int y_5), (0, .ref (ad 0)), (1, .int x1), (2, .int x2), (3, .int x3)]) hx hb dX9_goMinute_81 hl (by decide) rfl (fun ls hl => ?_)
    refine lv_iload_n hx hb dX9_goMinute_83 rfl (lv_at hl 3 rfl) ?_
    refine lv_if_ne (tgt := 91) hx hb dX9_goMinute_84 (by decide) (fun c_14 => ?_) (fun c_14 => ?_)
    · have hf := sn_el c_14 hf
      refine lv_aload_n hx hb dX9_goMinute_91 rfl (lv_at hl 2 rfl) ?_
      refine sn_getC (r := 12) C hw fd_RX9_49 layM_0 rfl dX9_goMinute_92 ?_
      refine lv_bipush (v := 6) hx hb dX9_goMinute_95 (by decide) ?_
      refine lv_iload_n hx hb dX9_goMinute_97 rfl (lv_at hl 3 rfl) ?_
      refine lv_iconst (v := 1) hx hb dX9_goMinute_98 rfl ?_
      refine lv_isub hx hb dX9_goMinute_99 ?_
      refine lv_imul hx hb dX9_goMinute_100 ?_
      refine lv_iload_n hx hb dX9_goMinute_101 rfl (lv_at hl 5 rfl) ?_
      refine lv_iadd hx hb dX9_goMinute_102 ?_
      obtain ⟨g_15, hf⟩ := sn_gdE hf
      refine sn_iald C hw layM_12 g_15 dX9_goMinute_103 ?_
      exact wX9_goMinute_104 C  hf kc kx _ _ _ hw (lv_sub hl [2, 3, 4, 5, 1, 0] rfl)
    · have hf := sn_if c_14 hf
      refine lv_iconst (v := 0) hx hb dX9_goMinute_87 rfl ?_
      refine lv_goto (tgt := 104) hx hb dX9_goMinute_88 (by decide) ?_
      exact wX9_goMinute_104 C  hf kc kx _ _ _ hw (lv_sub hl [2, 3, 4, 5, 1, 0] rfl)
theorem wX9_goMinute_L26 (C : sn_C p s m args meth c RX9 cX9_goMinute 8 none D ct ad layM A) {x1 : Int32} {x2 : Int32}   {z : sn_S × Int32} {t : sn_S} (h : sn_it (LX9_goMinute_26 x1 x2) 5000 z = some t) (kx : ∀ v, t = v → sn_At p l e rmX9_goMinute s m args below meth c Q D ct ad layM A 8 v 231 [] []) : sn_At p l e rmX9_goMinute s m args below meth c Q D ct ad layM A 8 z.1 26 [(0, .ref (ad 0)), (1, .int x1), (2, .int x2), (3, .int z.2)] [] :=
  sn_loop (f := LX9_goMinute_26 x1 x2) (G := fun z => sn_At p l e rmX9_goMinute s m args below meth c Q D ct ad layM A 8 z.1 26 [(0, .ref (ad 0)), (1, .int x1), (2, .int x2), (3, .int z.2)] []) (E := fun t => (∀ v, t = v → sn_At p l e rmX9_goMinute s m args below meth c Q D ct ad layM A 8 v 231 [] []) ∧ True) (fun z o hf k1 k2 => wX9_goMinute_26 C  hf (fun v e => k1 v e) (fun v e => (k2 _ e).1 v rfl)) 5000 z t h ⟨kx, trivial⟩
theorem wX9_goMinute_23 (C : sn_C p s m args meth c RX9 cX9_goMinute 8 none D ct ad layM A) {σ : sn_S} {x1 : Int32} {t0 : Int32}  {o : sn_S} (hf : BX9_goMinute_23 σ x1 t0 = some o) (kr : sn_Kr p l e rmX9_goMinute s m args below meth c Q D ct ad layM A cX9_goMinute .return_ (true) o []) : sn_At p l e rmX9_goMinute s m args below meth c Q D ct ad layM A 8 σ 23 [(0, .ref (ad 0)), (1, .int x1)] [.int t0] := by
  intro H locs ls hw hl
  have hx := C.1
  have hb := C.2.1
  unfold BX9_goMinute_23 at hf
  refine lv_istore_n (lv' := [(2, .int t0), (0, .ref (ad 0)), (1, .int x1)]) hx hb dX9_goMinute_23 rfl hl (by decide) rfl (fun ls hl => ?_)
  refine lv_iconst (v := 0) hx hb dX9_goMinute_24 rfl ?_
  refine lv_istore_n (lv' := [(3, .int (0 : Int32)), (2, .int t0), (0, .ref (ad 0)), (1, .int x1)]) hx hb dX9_goMinute_25 rfl hl (by decide) rfl (fun ls hl => ?_)
  obtain ⟨t_1, h_2, hf⟩ := sn_bd hf
  exact wX9_goMinute_L26 C  h_2 (fun v e => by cases e; exact wX9_goMinute_231 C  hf kr) _ _ _ hw (lv_sub hl [2, 3, 1, 0] rfl)
theorem wX9_goMinute_in (C : sn_C p s m args meth c RX9 cX9_goMinute 8 none D ct ad layM A) {σ : sn_S} {x1 : Int32}  {o : sn_S} (hf : fX9_goMinute σ x1 = some o) (kr : sn_Kr p l e rmX9_goMinute s m args below meth c Q D ct ad layM A cX9_goMinute .return_ (true) o []) : sn_At p l e rmX9_goMinute s m args below meth c Q D ct ad layM A 8 σ 0 [(0, .ref (ad 0)), (1, .int x1)] [] := by
  intro H locs ls hw hl
  have hx := C.1
  have hb := C.2.1
  unfold fX9_goMinute at hf
  refine lv_aload_n hx hb dX9_goMinute_0 rfl (lv_at hl 0 rfl) ?_
  refine sn_getC (r := 11) C hw fd_RX9_46 layM_0 rfl dX9_goMinute_1 ?_
  refine lv_iload_n hx hb dX9_goMinute_4 rfl (lv_at hl 1 rfl) ?_
  refine lv_iconst (v := 0) hx hb dX9_goMinute_5 rfl ?_
  obtain ⟨g_1, hf⟩ := sn_gdE hf
  refine sn_iast C hw layM_11 g_1 dX9_goMinute_6 (fun H locs hw => ?_)
  obtain ⟨σ_2, e_3, hf⟩ := sn_ltE hf
  rw [← e_3] at hw
  refine lv_iload_n hx hb dX9_goMinute_7 rfl (lv_at hl 1 rfl) ?_
  refine lv_if_ne (tgt := 15) hx hb dX9_goMinute_8 (by decide) (fun c_4 => ?_) (fun c_4 => ?_)
  · have hf := sn_el c_4 hf
    refine lv_aload_n hx hb dX9_goMinute_15 rfl (lv_at hl 0 rfl) ?_
    refine sn_getC (r := 11) C hw fd_RX9_46 layM_0 rfl dX9_goMinute_16 ?_
    refine lv_iload_n hx hb dX9_goMinute_19 rfl (lv_at hl 1 rfl) ?_
    refine lv_iconst (v := 1) hx hb dX9_goMinute_20 rfl ?_
    refine lv_isub hx hb dX9_goMinute_21 ?_
    obtain ⟨g_5, hf⟩ := sn_gdE hf
    refine sn_iald C hw layM_11 g_5 dX9_goMinute_22 ?_
    exact wX9_goMinute_23 C  hf kr _ _ _ hw (lv_sub hl [0, 1] rfl)
  · have hf := sn_if c_4 hf
    refine lv_iconst (v := 0) hx hb dX9_goMinute_11 rfl ?_
    refine lv_goto (tgt := 23) hx hb dX9_goMinute_12 (by decide) ?_
    exact wX9_goMinute_23 C  hf kr _ _ _ hw (lv_sub hl [0, 1] rfl)
theorem ctX9_goMinute (l : Launch) {σ : sn_S} {x1 : Int32}  {o : sn_S} (hf : fX9_goMinute σ x1 = some o) : sn_M l yX9_goMinute cX9_goMinute 8 none rmX9_goMinute layM (fun ad => [.ref (ad 0), .int x1]) σ none o :=
  sn_met (by decide) (fun _ => Nat.le_of_ble_eq_true rfl) (fun p e s m args below meth c ls D ct ad A C hw hl => wX9_goMinute_in C  hf (fun H locs ls pc hw ok hd => sn_vret C hw hd) _ _ _ hw hl)
-- X9_goAll
abbrev rmX9_goAll : Room := { frames := 3, cells := 0, slots := 0, locals := 74 }
def BX9_goAll_49 (σ : sn_S) : Option (sn_S) :=
  (some σ)
def BX9_goAll_30 (σ : sn_S) (x1 : Int32) : Option ((sn_S × Int32) ⊕ (sn_S)) :=
  (if (sn_I σ 0 22) < x1 then
  (some (.inr (σ)))
  else
  ((fX9_goMinute σ x1).bind fun t_2 => (sn_lt (x1 + 1) fun y_4 => (some (.inl (t_2, y_4))))))
def LX9_goAll_30  (s : sn_S × Int32) : Option ((sn_S × Int32) ⊕ (sn_S)) := BX9_goAll_30 s.1 s.2
def BX9_goAll_28 (σ : sn_S) : Option (sn_S) :=
  ((sn_it (LX9_goAll_30 ) 5000 (σ, (0 : Int32))).bind fun t_1 => (BX9_goAll_49 t_1))
def BX9_goAll_2 (σ : sn_S) (x1 : Int32) : Option ((sn_S × Int32) ⊕ (sn_S)) :=
  (if (6 : Int32) ≤ x1 then
  (some (.inr (σ)))
  else
  (sn_gd (sn_in x1 6) (sn_lt (sn_pI σ 10 x1.toNatClampNeg (0 : Int32)) fun σ_3 => (sn_gd (sn_in x1 6) (sn_lt (sn_pI σ_3 14 x1.toNatClampNeg (0 : Int32)) fun σ_6 => (sn_lt (x1 + 1) fun y_8 => (some (.inl (σ_6, y_8)))))))))
def LX9_goAll_2  (s : sn_S × Int32) : Option ((sn_S × Int32) ⊕ (sn_S)) := BX9_goAll_2 s.1 s.2
def fX9_goAll (σ : sn_S) : Option sn_S :=
  ((sn_it (LX9_goAll_2 ) 5000 (σ, (0 : Int32))).bind fun t_1 => (BX9_goAll_28 t_1))
theorem wX9_goAll_49 (C : sn_C p s m args meth c RX9 cX9_goAll 2 none D ct ad layM A) {σ : sn_S}  {o : sn_S} (hf : BX9_goAll_49 σ = some o) (kr : sn_Kr p l e rmX9_goAll s m args below meth c Q D ct ad layM A cX9_goAll .return_ (true) o []) : sn_At p l e rmX9_goAll s m args below meth c Q D ct ad layM A 2 σ 49 [] [] := by
  intro H locs ls hw hl
  have hx := C.1
  have hb := C.2.1
  unfold BX9_goAll_49 at hf
  cases hf
  exact kr _ _ _ _ hw rfl dX9_goAll_49
theorem wX9_goAll_30 (C : sn_C p s m args meth c RX9 cX9_goAll 2 none D ct ad layM A) {σ : sn_S} {x1 : Int32}  {o : (sn_S × Int32) ⊕ (sn_S)} (hf : BX9_goAll_30 σ x1 = some o) (kc : ∀ v, o = .inl v → sn_At p l e rmX9_goAll s m args below meth c Q D ct ad layM A 2 v.1 30 [(0, .ref (ad 0)), (1, .int v.2)] []) (kx : ∀ v, o = .inr v → sn_At p l e rmX9_goAll s m args below meth c Q D ct ad layM A 2 v 49 [] []) : sn_At p l e rmX9_goAll s m args below meth c Q D ct ad layM A 2 σ 30 [(0, .ref (ad 0)), (1, .int x1)] [] := by
  intro H locs ls hw hl
  have hx := C.1
  have hb := C.2.1
  unfold BX9_goAll_30 at hf
  refine lv_iload_n hx hb dX9_goAll_30 rfl (lv_at hl 1 rfl) ?_
  refine lv_aload_n hx hb dX9_goAll_31 rfl (lv_at hl 0 rfl) ?_
  refine sn_getI C hw fd_RX9_251 layM_0 rfl dX9_goAll_32 ?_
  refine lv_icmp_gt (tgt := 49) hx hb dX9_goAll_35 (by decide) (fun c_1 => ?_) (fun c_1 => ?_)
  · have hf := sn_if c_1 hf
    cases hf
    exact kx _ rfl _ _ _ hw (lv_sub hl [] rfl)
  · have hf := sn_el c_1 hf
    refine lv_aload_n hx hb dX9_goAll_38 rfl (lv_at hl 0 rfl) ?_
    refine lv_iload_n hx hb dX9_goAll_39 rfl (lv_at hl 1 rfl) ?_
    obtain ⟨t_2, h_3, hf⟩ := sn_bd hf
    refine sn_callVv (rest := []) C hw (ctX9_goMinute l  h_3) kl_RX9_260 layM_0 rfl rfl rfl rfl (Nat.le_of_ble_eq_true rfl) dX9_goAll_40 hl.1 (fun H locs hw => ?_)
    obtain ⟨y_4, e_5, hf⟩ := sn_ltE hf
    refine lv_iinc (v := y_4) (lv' := [(1, .int y_4), (0, .ref (ad 0))]) hx hb dX9_goAll_43 hl (k := 1) rfl (by rw [e_5]; rfl) (by decide) rfl (fun ls hl => ?_)
    refine lv_goto (tgt := 30) hx hb dX9_goAll_46 (by decide) ?_
    cases hf
    exact kc _ rfl _ _ _ hw (lv_sub hl [1, 0] rfl)
theorem wX9_goAll_L30 (C : sn_C p s m args meth c RX9 cX9_goAll 2 none D ct ad layM A)    {z : sn_S × Int32} {t : sn_S} (h : sn_it (LX9_goAll_30 ) 5000 z = some t) (kx : ∀ v, t = v → sn_At p l e rmX9_goAll s m args below meth c Q D ct ad layM A 2 v 49 [] []) : sn_At p l e rmX9_goAll s m args below meth c Q D ct ad layM A 2 z.1 30 [(0, .ref (ad 0)), (1, .int z.2)] [] :=
  sn_loop (f := LX9_goAll_30 ) (G := fun z => sn_At p l e rmX9_goAll s m args below meth c Q D ct ad layM A 2 z.1 30 [(0, .ref (ad 0)), (1, .int z.2)] []) (E := fun t => (∀ v, t = v → sn_At p l e rmX9_goAll s m args below meth c Q D ct ad layM A 2 v 49 [] []) ∧ True) (fun z o hf k1 k2 => wX9_goAll_30 C  hf (fun v e => k1 v e) (fun v e => (k2 _ e).1 v rfl)) 5000 z t h ⟨kx, trivial⟩
theorem wX9_goAll_28 (C : sn_C p s m args meth c RX9 cX9_goAll 2 none D ct ad layM A) {σ : sn_S}  {o : sn_S} (hf : BX9_goAll_28 σ = some o) (kr : sn_Kr p l e rmX9_goAll s m args below meth c Q D ct ad layM A cX9_goAll .return_ (true) o []) : sn_At p l e rmX9_goAll s m args below meth c Q D ct ad layM A 2 σ 28 [(0, .ref (ad 0))] [] := by
  intro H locs ls hw hl
  have hx := C.1
  have hb := C.2.1
  unfold BX9_goAll_28 at hf
  refine lv_iconst (v := 0) hx hb dX9_goAll_28 rfl ?_
  refine lv_istore_n (lv' := [(1, .int (0 : Int32)), (0, .ref (ad 0))]) hx hb dX9_goAll_29 rfl hl (by decide) rfl (fun ls hl => ?_)
  obtain ⟨t_1, h_2, hf⟩ := sn_bd hf
  exact wX9_goAll_L30 C  h_2 (fun v e => by cases e; exact wX9_goAll_49 C  hf kr) _ _ _ hw (lv_sub hl [1, 0] rfl)
theorem wX9_goAll_2 (C : sn_C p s m args meth c RX9 cX9_goAll 2 none D ct ad layM A) {σ : sn_S} {x1 : Int32}  {o : (sn_S × Int32) ⊕ (sn_S)} (hf : BX9_goAll_2 σ x1 = some o) (kc : ∀ v, o = .inl v → sn_At p l e rmX9_goAll s m args below meth c Q D ct ad layM A 2 v.1 2 [(0, .ref (ad 0)), (1, .int v.2)] []) (kx : ∀ v, o = .inr v → sn_At p l e rmX9_goAll s m args below meth c Q D ct ad layM A 2 v 28 [(0, .ref (ad 0))] []) : sn_At p l e rmX9_goAll s m args below meth c Q D ct ad layM A 2 σ 2 [(0, .ref (ad 0)), (1, .int x1)] [] := by
  intro H locs ls hw hl
  have hx := C.1
  have hb := C.2.1
  unfold BX9_goAll_2 at hf
  refine lv_iload_n hx hb dX9_goAll_2 rfl (lv_at hl 1 rfl) ?_
  refine lv_bipush (v := 6) hx hb dX9_goAll_3 (by decide) ?_
  refine lv_icmp_ge (tgt := 28) hx hb dX9_goAll_5 (by decide) (fun c_1 => ?_) (fun c_1 => ?_)
  · have hf := sn_if c_1 hf
    cases hf
    exact kx _ rfl _ _ _ hw (lv_sub hl [0] rfl)
  · have hf := sn_el c_1 hf
    refine lv_aload_n hx hb dX9_goAll_8 rfl (lv_at hl 0 rfl) ?_
    refine sn_getC (r := 10) C hw fd_RX9_43 layM_0 rfl dX9_goAll_9 ?_
    refine lv_iload_n hx hb dX9_goAll_12 rfl (lv_at hl 1 rfl) ?_
    refine lv_iconst (v := 0) hx hb dX9_goAll_13 rfl ?_
    obtain ⟨g_2, hf⟩ := sn_gdE hf
    refine sn_iast C hw layM_10 g_2 dX9_goAll_14 (fun H locs hw => ?_)
    obtain ⟨σ_3, e_4, hf⟩ := sn_ltE hf
    rw [← e_4] at hw
    refine lv_aload_n hx hb dX9_goAll_15 rfl (lv_at hl 0 rfl) ?_
    refine sn_getC (r := 14) C hw fd_RX9_55 layM_0 rfl dX9_goAll_16 ?_
    refine lv_iload_n hx hb dX9_goAll_19 rfl (lv_at hl 1 rfl) ?_
    refine lv_iconst (v := 0) hx hb dX9_goAll_20 rfl ?_
    obtain ⟨g_5, hf⟩ := sn_gdE hf
    refine sn_iast C hw layM_14 g_5 dX9_goAll_21 (fun H locs hw => ?_)
    obtain ⟨σ_6, e_7, hf⟩ := sn_ltE hf
    rw [← e_7] at hw
    obtain ⟨y_8, e_9, hf⟩ := sn_ltE hf
    refine lv_iinc (v := y_8) (lv' := [(1, .int y_8), (0, .ref (ad 0))]) hx hb dX9_goAll_22 hl (k := 1) rfl (by rw [e_9]; rfl) (by decide) rfl (fun ls hl => ?_)
    refine lv_goto (tgt := 2) hx hb dX9_goAll_25 (by decide) ?_
    cases hf
    exact kc _ rfl _ _ _ hw (lv_sub hl [1, 0] rfl)
theorem wX9_goAll_L2 (C : sn_C p s m args meth c RX9 cX9_goAll 2 none D ct ad layM A)    {z : sn_S × Int32} {t : sn_S} (h : sn_it (LX9_goAll_2 ) 5000 z = some t) (kx : ∀ v, t = v → sn_At p l e rmX9_goAll s m args below meth c Q D ct ad layM A 2 v 28 [(0, .ref (ad 0))] []) : sn_At p l e rmX9_goAll s m args below meth c Q D ct ad layM A 2 z.1 2 [(0, .ref (ad 0)), (1, .int z.2)] [] :=
  sn_loop (f := LX9_goAll_2 ) (G := fun z => sn_At p l e rmX9_goAll s m args below meth c Q D ct ad layM A 2 z.1 2 [(0, .ref (ad 0)), (1, .int z.2)] []) (E := fun t => (∀ v, t = v → sn_At p l e rmX9_goAll s m args below meth c Q D ct ad layM A 2 v 28 [(0, .ref (ad 0))] []) ∧ True) (fun z o hf k1 k2 => wX9_goAll_2 C  hf (fun v e => k1 v e) (fun v e => (k2 _ e).1 v rfl)) 5000 z t h ⟨kx, trivial⟩
theorem wX9_goAll_in (C : sn_C p s m args meth c RX9 cX9_goAll 2 none D ct ad layM A) {σ : sn_S}  {o : sn_S} (hf : fX9_goAll σ = some o) (kr : sn_Kr p l e rmX9_goAll s m args below meth c Q D ct ad layM A cX9_goAll .return_ (true) o []) : sn_At p l e rmX9_goAll s m args below meth c Q D ct ad layM A 2 σ 0 [(0, .ref (ad 0))] [] := by
  intro H locs ls hw hl
  have hx := C.1
  have hb := C.2.1
  unfold fX9_goAll at hf
  refine lv_iconst (v := 0) hx hb dX9_goAll_0 rfl ?_
  refine lv_istore_n (lv' := [(1, .int (0 : Int32)), (0, .ref (ad 0))]) hx hb dX9_goAll_1 rfl hl (by decide) rfl (fun ls hl => ?_)
  obtain ⟨t_1, h_2, hf⟩ := sn_bd hf
  exact wX9_goAll_L2 C  h_2 (fun v e => by cases e; exact wX9_goAll_28 C  hf kr) _ _ _ hw (lv_sub hl [1, 0] rfl)
theorem ctX9_goAll (l : Launch) {σ : sn_S}  {o : sn_S} (hf : fX9_goAll σ = some o) : sn_M l yX9_goAll cX9_goAll 2 none rmX9_goAll layM (fun ad => [.ref (ad 0)]) σ none o :=
  sn_met (by decide) (fun _ => Nat.le_of_ble_eq_true rfl) (fun p e s m args below meth c ls D ct ad A C hw hl => wX9_goAll_in C  hf (fun H locs ls pc hw ok hd => sn_vret C hw hd) _ _ _ hw hl)
-- X9_asksHouse
abbrev rmX9_asksHouse : Room := { frames := 4, cells := 0, slots := 0, locals := 95 }
def fX9_asksHouse (σ : sn_S) : Option (Int32 × sn_S) :=
  ((fX9_asItIs σ).bind fun t_1 => ((fX9_goAll t_1).bind fun t_3 => ((fX9_isHouse t_3).bind fun t_5 => (sn_gd (sn_b01 t_5) (some (t_5, t_3))))))
theorem wX9_asksHouse_in (C : sn_C p s m args meth c RX9 cX9_asksHouse 1 (some .boolean) D ct ad layM A) {σ : sn_S}  {o : (Int32 × sn_S)} (hf : fX9_asksHouse σ = some o) (kr : sn_Kr p l e rmX9_asksHouse s m args below meth c Q D ct ad layM A cX9_asksHouse .ireturn (sn_b01 o.1) o.2 [.int o.1]) : sn_At p l e rmX9_asksHouse s m args below meth c Q D ct ad layM A 1 σ 0 [(0, .ref (ad 0))] [] := by
  intro H locs ls hw hl
  have hx := C.1
  have hb := C.2.1
  unfold fX9_asksHouse at hf
  refine lv_aload_n hx hb dX9_asksHouse_0 rfl (lv_at hl 0 rfl) ?_
  obtain ⟨t_1, h_2, hf⟩ := sn_bd hf
  refine sn_callVv (rest := []) C hw (ctX9_asItIs l  h_2) kl_RX9_263 layM_0 rfl rfl rfl rfl (Nat.le_of_ble_eq_true rfl) dX9_asksHouse_1 hl.1 (fun H locs hw => ?_)
  refine lv_aload_n hx hb dX9_asksHouse_4 rfl (lv_at hl 0 rfl) ?_
  obtain ⟨t_3, h_4, hf⟩ := sn_bd hf
  refine sn_callVv (rest := []) C hw (ctX9_goAll l  h_4) kl_RX9_266 layM_0 rfl rfl rfl rfl (Nat.le_of_ble_eq_true rfl) dX9_asksHouse_5 hl.1 (fun H locs hw => ?_)
  refine lv_aload_n hx hb dX9_asksHouse_8 rfl (lv_at hl 0 rfl) ?_
  obtain ⟨t_5, h_6, hf⟩ := sn_bd hf
  refine sn_callVi (rest := []) C hw (ctX9_isHouse l  h_6) kl_RX9_269 layM_0 rfl rfl rfl rfl (Nat.le_of_ble_eq_true rfl) dX9_asksHouse_9 hl.1 (fun H locs hw => ?_)
  obtain ⟨g_7, hf⟩ := sn_gdE hf
  cases hf
  exact kr _ _ _ _ hw g_7 dX9_asksHouse_12
theorem ctX9_asksHouse (l : Launch) {σ : sn_S}  {o : (Int32 × sn_S)} (hf : fX9_asksHouse σ = some o) : sn_M l yX9_asksHouse cX9_asksHouse 1 (some .boolean) rmX9_asksHouse layM (fun ad => [.ref (ad 0)]) σ (some (fun _ => .int o.1)) o.2 :=
  sn_met (by decide) (fun _ => Nat.le_of_ble_eq_true rfl) (fun p e s m args below meth c ls D ct ad A C hw hl => wX9_asksHouse_in C  hf (fun H locs ls pc hw ok hd => sn_zret C hw ok hd) _ _ _ hw hl)
-- X9_asksPerson
abbrev rmX9_asksPerson : Room := { frames := 5, cells := 0, slots := 0, locals := 115 }
def fX9_asksPerson (σ : sn_S) (x1 : Int32) : Option (Int32 × sn_S) :=
  ((fX9_asksHouse σ).bind fun t_1 => ((fX9_isPerson t_1.2 x1.toInt64).bind fun t_3 => (sn_gd (sn_b01 t_3) (some (t_3, t_1.2)))))
theorem wX9_asksPerson_in (C : sn_C p s m args meth c RX9 cX9_asksPerson 2 (some .boolean) D ct ad layM A) {σ : sn_S} {x1 : Int32}  {o : (Int32 × sn_S)} (hf : fX9_asksPerson σ x1 = some o) (kr : sn_Kr p l e rmX9_asksPerson s m args below meth c Q D ct ad layM A cX9_asksPerson .ireturn (sn_b01 o.1) o.2 [.int o.1]) : sn_At p l e rmX9_asksPerson s m args below meth c Q D ct ad layM A 2 σ 0 [(0, .ref (ad 0)), (1, .int x1)] [] := by
  intro H locs ls hw hl
  have hx := C.1
  have hb := C.2.1
  unfold fX9_asksPerson at hf
  refine lv_aload_n hx hb dX9_asksPerson_0 rfl (lv_at hl 0 rfl) ?_
  obtain ⟨t_1, h_2, hf⟩ := sn_bd hf
  refine sn_callVi (rest := []) C hw (ctX9_asksHouse l  h_2) kl_RX9_272 layM_0 rfl rfl rfl rfl (Nat.le_of_ble_eq_true rfl) dX9_asksPerson_1 hl.1 (fun H locs hw => ?_)
  refine lv_pop hx hb dX9_asksPerson_4 rfl ?_
  refine lv_aload_n hx hb dX9_asksPerson_5 rfl (lv_at hl 0 rfl) ?_
  refine lv_iload_n hx hb dX9_asksPerson_6 rfl (lv_at hl 1 rfl) ?_
  refine lv_i2l hx hb dX9_asksPerson_7 rfl ?_
  obtain ⟨t_3, h_4, hf⟩ := sn_bd hf
  refine sn_callVi (rest := []) C hw (ctX9_isPerson l  h_4) kl_RX9_224 layM_0 rfl rfl rfl rfl (Nat.le_of_ble_eq_true rfl) dX9_asksPerson_8 hl.1 (fun H locs hw => ?_)
  obtain ⟨g_5, hf⟩ := sn_gdE hf
  cases hf
  exact kr _ _ _ _ hw g_5 dX9_asksPerson_11
theorem ctX9_asksPerson (l : Launch) {σ : sn_S} {x1 : Int32}  {o : (Int32 × sn_S)} (hf : fX9_asksPerson σ x1 = some o) : sn_M l yX9_asksPerson cX9_asksPerson 2 (some .boolean) rmX9_asksPerson layM (fun ad => [.ref (ad 0), .int x1]) σ (some (fun _ => .int o.1)) o.2 :=
  sn_met (by decide) (fun _ => Nat.le_of_ble_eq_true rfl) (fun p e s m args below meth c ls D ct ad A C hw hl => wX9_asksPerson_in C  hf (fun H locs ls pc hw ok hd => sn_zret C hw ok hd) _ _ _ hw hl)
-- X9_asksMinute
abbrev rmX9_asksMinute : Room := { frames := 5, cells := 0, slots := 0, locals := 115 }
def fX9_asksMinute (σ : sn_S) (x1 : Int32) : Option (Int32 × sn_S) :=
  ((fX9_asksHouse σ).bind fun t_1 => ((fX9_isMinute t_1.2 x1.toInt64).bind fun t_3 => (sn_gd (sn_b01 t_3) (some (t_3, t_1.2)))))
theorem wX9_asksMinute_in (C : sn_C p s m args meth c RX9 cX9_asksMinute 2 (some .boolean) D ct ad layM A) {σ : sn_S} {x1 : Int32}  {o : (Int32 × sn_S)} (hf : fX9_asksMinute σ x1 = some o) (kr : sn_Kr p l e rmX9_asksMinute s m args below meth c Q D ct ad layM A cX9_asksMinute .ireturn (sn_b01 o.1) o.2 [.int o.1]) : sn_At p l e rmX9_asksMinute s m args below meth c Q D ct ad layM A 2 σ 0 [(0, .ref (ad 0)), (1, .int x1)] [] := by
  intro H locs ls hw hl
  have hx := C.1
  have hb := C.2.1
  unfold fX9_asksMinute at hf
  refine lv_aload_n hx hb dX9_asksMinute_0 rfl (lv_at hl 0 rfl) ?_
  obtain ⟨t_1, h_2, hf⟩ := sn_bd hf
  refine sn_callVi (rest := []) C hw (ctX9_asksHouse l  h_2) kl_RX9_272 layM_0 rfl rfl rfl rfl (Nat.le_of_ble_eq_true rfl) dX9_asksMinute_1 hl.1 (fun H locs hw => ?_)
  refine lv_pop hx hb dX9_asksMinute_4 rfl ?_
  refine lv_aload_n hx hb dX9_asksMinute_5 rfl (lv_at hl 0 rfl) ?_
  refine lv_iload_n hx hb dX9_asksMinute_6 rfl (lv_at hl 1 rfl) ?_
  refine lv_i2l hx hb dX9_asksMinute_7 rfl ?_
  obtain ⟨t_3, h_4, hf⟩ := sn_bd hf
  refine sn_callVi (rest := []) C hw (ctX9_isMinute l  h_4) kl_RX9_275 layM_0 rfl rfl rfl rfl (Nat.le_of_ble_eq_true rfl) dX9_asksMinute_8 hl.1 (fun H locs hw => ?_)
  obtain ⟨g_5, hf⟩ := sn_gdE hf
  cases hf
  exact kr _ _ _ _ hw g_5 dX9_asksMinute_11
theorem ctX9_asksMinute (l : Launch) {σ : sn_S} {x1 : Int32}  {o : (Int32 × sn_S)} (hf : fX9_asksMinute σ x1 = some o) : sn_M l yX9_asksMinute cX9_asksMinute 2 (some .boolean) rmX9_asksMinute layM (fun ad => [.ref (ad 0), .int x1]) σ (some (fun _ => .int o.1)) o.2 :=
  sn_met (by decide) (fun _ => Nat.le_of_ble_eq_true rfl) (fun p e s m args below meth c ls D ct ad A C hw hl => wX9_asksMinute_in C  hf (fun H locs ls pc hw ok hd => sn_zret C hw ok hd) _ _ _ hw hl)
-- X9_firstOf
abbrev rmX9_firstOf : Room := { frames := 1, cells := 0, slots := 0, locals := 21 }
def BX9_firstOf_25  : Option (Int32) :=
  (some (-1 : Int32))
def BX9_firstOf_2 (x0 : Int32) (x1 : Int32) : Option ((Int32) ⊕ ((Unit) ⊕ Int32)) :=
  (if (30 : Int32) ≤ x1 then
  (some (.inr (.inl ())))
  else
  ((fX9_bit x0 x1).bind fun t_2 => (if t_2 = (1 : Int32) then
  (some (.inr (.inr x1)))
  else
  (sn_lt (x1 + 1) fun y_5 => (some (.inl (y_5)))))))
def LX9_firstOf_2 (x0 : Int32) (s : Int32) : Option ((Int32) ⊕ ((Unit) ⊕ Int32)) := BX9_firstOf_2 x0 s
def fX9_firstOf (x0 : Int32) : Option Int32 :=
  ((sn_it (LX9_firstOf_2 x0) 5000 ((0 : Int32))).bind fun t_1 => Sum.elim (fun v_3 => (BX9_firstOf_25 )) (fun r_4 => (some r_4)) t_1)
theorem wX9_firstOf_25 (C : sn_C p s m args meth c RX9 cX9_firstOf 2 (some .int) D ct ad layM A) {σ : sn_S}   {o : Int32} (hf : BX9_firstOf_25  = some o) (kr : sn_Kr p l e rmX9_firstOf s m args below meth c Q D ct ad layM A cX9_firstOf .ireturn (true) σ [.int o]) : sn_At p l e rmX9_firstOf s m args below meth c Q D ct ad layM A 2 σ 25 [] [] := by
  intro H locs ls hw hl
  have hx := C.1
  have hb := C.2.1
  unfold BX9_firstOf_25 at hf
  refine lv_iconst (v := (-1)) hx hb dX9_firstOf_25 rfl ?_
  cases hf
  exact kr _ _ _ _ hw rfl dX9_firstOf_26
theorem wX9_firstOf_2 (C : sn_C p s m args meth c RX9 cX9_firstOf 2 (some .int) D ct ad layM A) {σ : sn_S} {x0 : Int32} {x1 : Int32}  {o : (Int32) ⊕ ((Unit) ⊕ Int32)} (hf : BX9_firstOf_2 x0 x1 = some o) (kc : ∀ v, o = .inl v → sn_At p l e rmX9_firstOf s m args below meth c Q D ct ad layM A 2 σ 2 [(0, .int x0), (1, .int v)] []) (kx : ∀ v, o = .inr (.inl v) → sn_At p l e rmX9_firstOf s m args below meth c Q D ct ad layM A 2 σ 25 [] []) (kr : ∀ r, o = .inr (.inr r) → sn_Kr p l e rmX9_firstOf s m args below meth c Q D ct ad layM A cX9_firstOf .ireturn (true) σ [.int r]) : sn_At p l e rmX9_firstOf s m args below meth c Q D ct ad layM A 2 σ 2 [(0, .int x0), (1, .int x1)] [] := by
  intro H locs ls hw hl
  have hx := C.1
  have hb := C.2.1
  unfold BX9_firstOf_2 at hf
  refine lv_iload_n hx hb dX9_firstOf_2 rfl (lv_at hl 1 rfl) ?_
  refine lv_bipush (v := 30) hx hb dX9_firstOf_3 (by decide) ?_
  refine lv_icmp_ge (tgt := 25) hx hb dX9_firstOf_5 (by decide) (fun c_1 => ?_) (fun c_1 => ?_)
  · have hf := sn_if c_1 hf
    cases hf
    exact kx _ rfl _ _ _ hw (lv_sub hl [] rfl)
  · have hf := sn_el c_1 hf
    refine lv_iload_n hx hb dX9_firstOf_8 rfl (lv_at hl 0 rfl) ?_
    refine lv_iload_n hx hb dX9_firstOf_9 rfl (lv_at hl 1 rfl) ?_
    obtain ⟨t_2, h_3, hf⟩ := sn_bd hf
    refine sn_callSi (rest := []) C hw (ctX9_bit l  h_3) kl_RX9_254 rfl rfl rfl (Nat.le_of_ble_eq_true rfl) dX9_firstOf_10 hl.1 (fun H locs hw => ?_)
    refine lv_iconst (v := 1) hx hb dX9_firstOf_13 rfl ?_
    refine lv_icmp_ne (tgt := 19) hx hb dX9_firstOf_14 (by decide) (fun c_4 => ?_) (fun c_4 => ?_)
    · have hf := sn_el c_4 hf
      obtain ⟨y_5, e_6, hf⟩ := sn_ltE hf
      refine lv_iinc (v := y_5) (lv' := [(1, .int y_5), (0, .int x0)]) hx hb dX9_firstOf_19 hl (k := 1) rfl (by rw [e_6]; rfl) (by decide) rfl (fun ls hl => ?_)
      refine lv_goto (tgt := 2) hx hb dX9_firstOf_22 (by decide) ?_
      cases hf
      exact kc _ rfl _ _ _ hw (lv_sub hl [1, 0] rfl)
    · have hf := sn_if c_4 hf
      refine lv_iload_n hx hb dX9_firstOf_17 rfl (lv_at hl 1 rfl) ?_
      cases hf
      exact kr _ rfl _ _ _ _ hw rfl dX9_firstOf_18
theorem wX9_firstOf_L2 (C : sn_C p s m args meth c RX9 cX9_firstOf 2 (some .int) D ct ad layM A) {σ : sn_S} {x0 : Int32}   {z : Int32} {t : (Unit) ⊕ Int32} (h : sn_it (LX9_firstOf_2 x0) 5000 z = some t) (kx : ∀ v, t = .inl v → sn_At p l e rmX9_firstOf s m args below meth c Q D ct ad layM A 2 σ 25 [] []) (kr : ∀ r, t = .inr r → sn_Kr p l e rmX9_firstOf s m args below meth c Q D ct ad layM A cX9_firstOf .ireturn (true) σ [.int r]) : sn_At p l e rmX9_firstOf s m args below meth c Q D ct ad layM A 2 σ 2 [(0, .int x0), (1, .int z)] [] :=
  sn_loop (f := LX9_firstOf_2 x0) (G := fun z => sn_At p l e rmX9_firstOf s m args below meth c Q D ct ad layM A 2 σ 2 [(0, .int x0), (1, .int z)] []) (E := fun t => (∀ v, t = .inl v → sn_At p l e rmX9_firstOf s m args below meth c Q D ct ad layM A 2 σ 25 [] []) ∧ (∀ r, t = .inr r → sn_Kr p l e rmX9_firstOf s m args below meth c Q D ct ad layM A cX9_firstOf .ireturn (true) σ [.int r])) (fun z o hf k1 k2 => wX9_firstOf_2 C  hf (fun v e => k1 v e) (fun v e => (k2 _ e).1 v rfl) (fun r e => (k2 _ e).2 r rfl)) 5000 z t h ⟨kx, kr⟩
theorem wX9_firstOf_in (C : sn_C p s m args meth c RX9 cX9_firstOf 2 (some .int) D ct ad layM A) {σ : sn_S} {x0 : Int32}  {o : Int32} (hf : fX9_firstOf x0 = some o) (kr : sn_Kr p l e rmX9_firstOf s m args below meth c Q D ct ad layM A cX9_firstOf .ireturn (true) σ [.int o]) : sn_At p l e rmX9_firstOf s m args below meth c Q D ct ad layM A 2 σ 0 [(0, .int x0)] [] := by
  intro H locs ls hw hl
  have hx := C.1
  have hb := C.2.1
  unfold fX9_firstOf at hf
  refine lv_iconst (v := 0) hx hb dX9_firstOf_0 rfl ?_
  refine lv_istore_n (lv' := [(1, .int (0 : Int32)), (0, .int x0)]) hx hb dX9_firstOf_1 rfl hl (by decide) rfl (fun ls hl => ?_)
  obtain ⟨t_1, h_2, hf⟩ := sn_bd hf
  rcases t_1 with v_3 | r_4
  · rw [Sum.elim_inl] at hf
    exact wX9_firstOf_L2 C  h_2 (fun v e => by cases e; exact wX9_firstOf_25 C  hf kr) (fun r e => by cases e) _ _ _ hw (lv_sub hl [1, 0] rfl)
  · rw [Sum.elim_inr] at hf
    cases hf
    exact wX9_firstOf_L2 C  h_2 (fun v e => by cases e) (fun r e => by cases e; exact kr) _ _ _ hw (lv_sub hl [1, 0] rfl)
theorem ctX9_firstOf (l : Launch) {σ : sn_S} {x0 : Int32}  {o : Int32} (hf : fX9_firstOf x0 = some o) : sn_M l yX9_firstOf cX9_firstOf 2 (some .int) rmX9_firstOf layM (fun ad => [.int x0]) σ (some (fun _ => .int o)) σ :=
  sn_met (by decide) (fun _ => Nat.le_of_ble_eq_true rfl) (fun p e s m args below meth c ls D ct ad A C hw hl => wX9_firstOf_in C  hf (fun H locs ls pc hw ok hd => sn_iret C hw hd) _ _ _ hw hl)
-- X9_allSneezes
abbrev rmX9_allSneezes : Room := { frames := 1, cells := 0, slots := 0, locals := 22 }
def BX9_allSneezes_32 (σ : sn_S) (x1 : Int32) : Option (Int32) :=
  (some x1)
def BX9_allSneezes_4 (σ : sn_S) (x1 : Int32) (x2 : Int32) : Option ((Int32 × Int32) ⊕ (Int32)) :=
  (sn_gd (sn_in (5 : Int32) 119) (if (sn_I σ 1 (5 : Int32).toNatClampNeg) ≤ x2 then
  (some (.inr (x1)))
  else
  (sn_gd (sn_in x2 6) ((fX9_bits (sn_I σ 10 x2.toNatClampNeg)).bind fun t_4 => (sn_lt (x1 + t_4) fun y_6 => (sn_lt (x2 + 1) fun y_8 => (some (.inl (y_6, y_8)))))))))
def LX9_allSneezes_4 (σ : sn_S) (s : Int32 × Int32) : Option ((Int32 × Int32) ⊕ (Int32)) := BX9_allSneezes_4 σ s.1 s.2
def fX9_allSneezes (σ : sn_S) : Option Int32 :=
  ((sn_it (LX9_allSneezes_4 σ) 5000 ((0 : Int32), (0 : Int32))).bind fun t_1 => (BX9_allSneezes_32 σ t_1))
theorem wX9_allSneezes_32 (C : sn_C p s m args meth c RX9 cX9_allSneezes 3 (some .int) D ct ad layM A) {σ : sn_S} {x1 : Int32}  {o : Int32} (hf : BX9_allSneezes_32 σ x1 = some o) (kr : sn_Kr p l e rmX9_allSneezes s m args below meth c Q D ct ad layM A cX9_allSneezes .ireturn (true) σ [.int o]) : sn_At p l e rmX9_allSneezes s m args below meth c Q D ct ad layM A 3 σ 32 [(1, .int x1)] [] := by
  intro H locs ls hw hl
  have hx := C.1
  have hb := C.2.1
  unfold BX9_allSneezes_32 at hf
  refine lv_iload_n hx hb dX9_allSneezes_32 rfl (lv_at hl 0 rfl) ?_
  cases hf
  exact kr _ _ _ _ hw rfl dX9_allSneezes_33
theorem wX9_allSneezes_4 (C : sn_C p s m args meth c RX9 cX9_allSneezes 3 (some .int) D ct ad layM A) {σ : sn_S} {x1 : Int32} {x2 : Int32}  {o : (Int32 × Int32) ⊕ (Int32)} (hf : BX9_allSneezes_4 σ x1 x2 = some o) (kc : ∀ v, o = .inl v → sn_At p l e rmX9_allSneezes s m args below meth c Q D ct ad layM A 3 σ 4 [(0, .ref (ad 0)), (1, .int v.1), (2, .int v.2)] []) (kx : ∀ v, o = .inr v → sn_At p l e rmX9_allSneezes s m args below meth c Q D ct ad layM A 3 σ 32 [(1, .int v)] []) : sn_At p l e rmX9_allSneezes s m args below meth c Q D ct ad layM A 3 σ 4 [(0, .ref (ad 0)), (1, .int x1), (2, .int x2)] [] := by
  intro H locs ls hw hl
  have hx := C.1
  have hb := C.2.1
  unfold BX9_allSneezes_4 at hf
  refine lv_iload_n hx hb dX9_allSneezes_4 rfl (lv_at hl 2 rfl) ?_
  refine lv_aload_n hx hb dX9_allSneezes_5 rfl (lv_at hl 0 rfl) ?_
  refine sn_getC (r := 1) C hw fd_RX9_9 layM_0 rfl dX9_allSneezes_6 ?_
  refine lv_iconst (v := 5) hx hb dX9_allSneezes_9 rfl ?_
  obtain ⟨g_1, hf⟩ := sn_gdE hf
  refine sn_iald C hw layM_1 g_1 dX9_allSneezes_10 ?_
  refine lv_icmp_ge (tgt := 32) hx hb dX9_allSneezes_11 (by decide) (fun c_2 => ?_) (fun c_2 => ?_)
  · have hf := sn_if c_2 hf
    cases hf
    exact kx _ rfl _ _ _ hw (lv_sub hl [1] rfl)
  · have hf := sn_el c_2 hf
    refine lv_iload_n hx hb dX9_allSneezes_14 rfl (lv_at hl 1 rfl) ?_
    refine lv_aload_n hx hb dX9_allSneezes_15 rfl (lv_at hl 0 rfl) ?_
    refine sn_getC (r := 10) C hw fd_RX9_43 layM_0 rfl dX9_allSneezes_16 ?_
    refine lv_iload_n hx hb dX9_allSneezes_19 rfl (lv_at hl 2 rfl) ?_
    obtain ⟨g_3, hf⟩ := sn_gdE hf
    refine sn_iald C hw layM_10 g_3 dX9_allSneezes_20 ?_
    obtain ⟨t_4, h_5, hf⟩ := sn_bd hf
    refine sn_callSi (rest := [.int x1]) C hw (ctX9_bits l  h_5) kl_RX9_278 rfl rfl rfl (Nat.le_of_ble_eq_true rfl) dX9_allSneezes_21 hl.1 (fun H locs hw => ?_)
    refine lv_iadd hx hb dX9_allSneezes_24 ?_
    obtain ⟨y_6, e_7, hf⟩ := sn_ltE hf
    refine lv_topi (fun y_6_ e_7_ => ?_)
    obtain rfl : y_6 = y_6_ := e_7.trans e_7_.symm
    refine lv_istore_n (lv' := [(1, .int y_6), (0, .ref (ad 0)), (2, .int x2)]) hx hb dX9_allSneezes_25 rfl hl (by decide) rfl (fun ls hl => ?_)
    obtain ⟨y_8, e_9, hf⟩ := sn_ltE hf
    refine lv_iinc (v := y_8) (lv' := [(2, .int y_8), (1, .int y_6), (0, .ref (ad 0))]) hx hb dX9_allSneezes_26 hl (k := 2) rfl (by rw [e_9]; rfl) (by decide) rfl (fun ls hl => ?_)
    refine lv_goto (tgt := 4) hx hb dX9_allSneezes_29 (by decide) ?_
    cases hf
    exact kc _ rfl _ _ _ hw (lv_sub hl [2, 1, 0] rfl)
theorem wX9_allSneezes_L4 (C : sn_C p s m args meth c RX9 cX9_allSneezes 3 (some .int) D ct ad layM A) {σ : sn_S}   {z : Int32 × Int32} {t : Int32} (h : sn_it (LX9_allSneezes_4 σ) 5000 z = some t) (kx : ∀ v, t = v → sn_At p l e rmX9_allSneezes s m args below meth c Q D ct ad layM A 3 σ 32 [(1, .int v)] []) : sn_At p l e rmX9_allSneezes s m args below meth c Q D ct ad layM A 3 σ 4 [(0, .ref (ad 0)), (1, .int z.1), (2, .int z.2)] [] :=
  sn_loop (f := LX9_allSneezes_4 σ) (G := fun z => sn_At p l e rmX9_allSneezes s m args below meth c Q D ct ad layM A 3 σ 4 [(0, .ref (ad 0)), (1, .int z.1), (2, .int z.2)] []) (E := fun t => (∀ v, t = v → sn_At p l e rmX9_allSneezes s m args below meth c Q D ct ad layM A 3 σ 32 [(1, .int v)] []) ∧ True) (fun z o hf k1 k2 => wX9_allSneezes_4 C  hf (fun v e => k1 v e) (fun v e => (k2 _ e).1 v rfl)) 5000 z t h ⟨kx, trivial⟩
theorem wX9_allSneezes_in (C : sn_C p s m args meth c RX9 cX9_allSneezes 3 (some .int) D ct ad layM A) {σ : sn_S}  {o : Int32} (hf : fX9_allSneezes σ = some o) (kr : sn_Kr p l e rmX9_allSneezes s m args below meth c Q D ct ad layM A cX9_allSneezes .ireturn (true) σ [.int o]) : sn_At p l e rmX9_allSneezes s m args below meth c Q D ct ad layM A 3 σ 0 [(0, .ref (ad 0))] [] := by
  intro H locs ls hw hl
  have hx := C.1
  have hb := C.2.1
  unfold fX9_allSneezes at hf
  refine lv_iconst (v := 0) hx hb dX9_allSneezes_0 rfl ?_
  refine lv_istore_n (lv' := [(1, .int (0 : Int32)), (0, .ref (ad 0))]) hx hb dX9_allSneezes_1 rfl hl (by decide) rfl (fun ls hl => ?_)
  refine lv_iconst (v := 0) hx hb dX9_allSneezes_2 rfl ?_
  refine lv_istore_n (lv' := [(2, .int (0 : Int32)), (1, .int (0 : Int32)), (0, .ref (ad 0))]) hx hb dX9_allSneezes_3 rfl hl (by decide) rfl (fun ls hl => ?_)
  obtain ⟨t_1, h_2, hf⟩ := sn_bd hf
  exact wX9_allSneezes_L4 C  h_2 (fun v e => by cases e; exact wX9_allSneezes_32 C  hf kr) _ _ _ hw (lv_sub hl [2, 1, 0] rfl)
theorem ctX9_allSneezes (l : Launch) {σ : sn_S}  {o : Int32} (hf : fX9_allSneezes σ = some o) : sn_M l yX9_allSneezes cX9_allSneezes 3 (some .int) rmX9_allSneezes layM (fun ad => [.ref (ad 0)]) σ (some (fun _ => .int o)) σ :=
  sn_met (by decide) (fun _ => Nat.le_of_ble_eq_true rfl) (fun p e s m args below meth c ls D ct ad A C hw hl => wX9_allSneezes_in C  hf (fun H locs ls pc hw ok hd => sn_iret C hw hd) _ _ _ hw hl)
-- X9_beside
abbrev rmX9_beside : Room := { frames := 2, cells := 0, slots := 0, locals := 47 }
def BX9_beside_57 (σ : sn_S) (x2 : Int32) : Option ((Int32 × sn_S)) :=
  (some (x2, σ))
def BX9_beside_49 (σ : sn_S) (x1 : Int32) (x2 : Int32) (x3 : Int32) (t0 : Int32) (t1 : Int32) : Option ((Int32 × Int32) ⊕ (Int32)) :=
  (sn_lt (t0 ||| t1) fun y_1 => (sn_lt (x3 + 1) fun y_3 => (some (.inl (y_1, y_3)))))
def BX9_beside_20 (σ : sn_S) (x1 : Int32) (x2 : Int32) (x3 : Int32) : Option ((Int32 × Int32) ⊕ (Int32)) :=
  (sn_gd (sn_in (5 : Int32) 119) (if (sn_I σ 1 (5 : Int32).toNatClampNeg) ≤ x3 then
  (some (.inr (x2)))
  else
  ((fX9_netsTo σ x1 ((1 : Int32) <<< (x3 &&& 31))).bind fun t_3 => (if t_3 ≤ 0 then
  (BX9_beside_49 σ x1 x2 x3 x2 (0 : Int32))
  else
  (BX9_beside_49 σ x1 x2 x3 x2 ((1 : Int32) <<< (x3 &&& 31)))))))
def LX9_beside_20 (σ : sn_S) (x1 : Int32) (s : Int32 × Int32) : Option ((Int32 × Int32) ⊕ (Int32)) := BX9_beside_20 σ x1 s.1 s.2
def fX9_beside (σ : sn_S) (x1 : Int32) : Option (Int32 × sn_S) :=
  ((fX9_asItIs σ).bind fun t_1 => ((fX9_isPerson t_1 x1.toInt64).bind fun t_3 => (if t_3 = 0 then
  (some ((-2 : Int32), t_1))
  else
  ((sn_it (LX9_beside_20 t_1 x1) 5000 ((0 : Int32), (0 : Int32))).bind fun t_6 => (BX9_beside_57 t_1 t_6)))))
theorem wX9_beside_57 (C : sn_C p s m args meth c RX9 cX9_beside 4 (some .int) D ct ad layM A) {σ : sn_S} {x2 : Int32}  {o : (Int32 × sn_S)} (hf : BX9_beside_57 σ x2 = some o) (kr : sn_Kr p l e rmX9_beside s m args below meth c Q D ct ad layM A cX9_beside .ireturn (true) o.2 [.int o.1]) : sn_At p l e rmX9_beside s m args below meth c Q D ct ad layM A 4 σ 57 [(2, .int x2)] [] := by
  intro H locs ls hw hl
  have hx := C.1
  have hb := C.2.1
  unfold BX9_beside_57 at hf
  refine lv_iload_n hx hb dX9_beside_57 rfl (lv_at hl 0 rfl) ?_
  cases hf
  exact kr _ _ _ _ hw rfl dX9_beside_58
theorem wX9_beside_49 (C : sn_C p s m args meth c RX9 cX9_beside 4 (some .int) D ct ad layM A) {σ : sn_S} {x1 : Int32} {x2 : Int32} {x3 : Int32} {t0 : Int32} {t1 : Int32}  {o : (Int32 × Int32) ⊕ (Int32)} (hf : BX9_beside_49 σ x1 x2 x3 t0 t1 = some o) (kc : ∀ v, o = .inl v → sn_At p l e rmX9_beside s m args below meth c Q D ct ad layM A 4 σ 20 [(0, .ref (ad 0)), (1, .int x1), (2, .int v.1), (3, .int v.2)] []) (kx : ∀ v, o = .inr v → sn_At p l e rmX9_beside s m args below meth c Q D ct ad layM A 4 σ 57 [(2, .int v)] []) : sn_At p l e rmX9_beside s m args below meth c Q D ct ad layM A 4 σ 49 [(0, .ref (ad 0)), (1, .int x1), (2, .int x2), (3, .int x3)] [.int t1, .int t0] := by
  intro H locs ls hw hl
  have hx := C.1
  have hb := C.2.1
  unfold BX9_beside_49 at hf
  refine lv_ior hx hb dX9_beside_49 ?_
  obtain ⟨y_1, e_2, hf⟩ := sn_ltE hf
  refine lv_topi (fun y_1_ e_2_ => ?_)
  obtain rfl : y_1 = y_1_ := e_2.trans e_2_.symm
  refine lv_istore_n (lv' := [(2, .int y_1), (0, .ref (ad 0)), (1, .int x1), (3, .int x3)]) hx hb dX9_beside_50 rfl hl (by decide) rfl (fun ls hl => ?_)
  obtain ⟨y_3, e_4, hf⟩ := sn_ltE hf
  refine lv_iinc (v := y_3) (lv' := [(3, .int y_3), (2, .int y_1), (0, .ref (ad 0)), (1, .int x1)]) hx hb dX9_beside_51 hl (k := 3) rfl (by rw [e_4]; rfl) (by decide) rfl (fun ls hl => ?_)
  refine lv_goto (tgt := 20) hx hb dX9_beside_54 (by decide) ?_
  cases hf
  exact kc _ rfl _ _ _ hw (lv_sub hl [2, 3, 1, 0] rfl)
theorem wX9_beside_20 (C : sn_C p s m args meth c RX9 cX9_beside 4 (some .int) D ct ad layM A) {σ : sn_S} {x1 : Int32} {x2 : Int32} {x3 : Int32}  {o : (Int32 × Int32) ⊕ (Int32)} (hf : BX9_beside_20 σ x1 x2 x3 = some o) (kc : ∀ v, o = .inl v → sn_At p l e rmX9_beside s m args below meth c Q D ct ad layM A 4 σ 20 [(0, .ref (ad 0)), (1, .int x1), (2, .int v.1), (3, .int v.2)] []) (kx : ∀ v, o = .inr v → sn_At p l e rmX9_beside s m args below meth c Q D ct ad layM A 4 σ 57 [(2, .int v)] []) : sn_At p l e rmX9_beside s m args below meth c Q D ct ad layM A 4 σ 20 [(0, .ref (ad 0)), (1, .int x1), (2, .int x2), (3, .int x3)] [] := by
  intro H locs ls hw hl
  have hx := C.1
  have hb := C.2.1
  unfold BX9_beside_20 at hf
  refine lv_iload_n hx hb dX9_beside_20 rfl (lv_at hl 3 rfl) ?_
  refine lv_aload_n hx hb dX9_beside_21 rfl (lv_at hl 0 rfl) ?_
  refine sn_getC (r := 1) C hw fd_RX9_9 layM_0 rfl dX9_beside_22 ?_
  refine lv_iconst (v := 5) hx hb dX9_beside_25 rfl ?_
  obtain ⟨g_1, hf⟩ := sn_gdE hf
  refine sn_iald C hw layM_1 g_1 dX9_beside_26 ?_
  refine lv_icmp_ge (tgt := 57) hx hb dX9_beside_27 (by decide) (fun c_2 => ?_) (fun c_2 => ?_)
  · have hf := sn_if c_2 hf
    cases hf
    exact kx _ rfl _ _ _ hw (lv_sub hl [2] rfl)
  · have hf := sn_el c_2 hf
    refine lv_iload_n hx hb dX9_beside_30 rfl (lv_at hl 2 rfl) ?_
    refine lv_aload_n hx hb dX9_beside_31 rfl (lv_at hl 0 rfl) ?_
    refine lv_iload_n hx hb dX9_beside_32 rfl (lv_at hl 1 rfl) ?_
    refine lv_iconst (v := 1) hx hb dX9_beside_33 rfl ?_
    refine lv_iload_n hx hb dX9_beside_34 rfl (lv_at hl 3 rfl) ?_
    refine lv_ishl hx hb dX9_beside_35 ?_
    obtain ⟨t_3, h_4, hf⟩ := sn_bd hf
    refine sn_callVi (rest := [.int x2]) C hw (ctX9_netsTo l  h_4) kl_RX9_257 layM_0 rfl rfl rfl rfl (Nat.le_of_ble_eq_true rfl) dX9_beside_36 hl.1 (fun H locs hw => ?_)
    refine lv_if_le (tgt := 48) hx hb dX9_beside_39 (by decide) (fun c_5 => ?_) (fun c_5 => ?_)
    · have hf := sn_if c_5 hf
      refine lv_iconst (v := 0) hx hb dX9_beside_48 rfl ?_
      exact wX9_beside_49 C  hf kc kx _ _ _ hw (lv_sub hl [0, 1, 2, 3] rfl)
    · have hf := sn_el c_5 hf
      refine lv_iconst (v := 1) hx hb dX9_beside_42 rfl ?_
      refine lv_iload_n hx hb dX9_beside_43 rfl (lv_at hl 3 rfl) ?_
      refine lv_ishl hx hb dX9_beside_44 ?_
      refine lv_goto (tgt := 49) hx hb dX9_beside_45 (by decide) ?_
      exact wX9_beside_49 C  hf kc kx _ _ _ hw (lv_sub hl [0, 1, 2, 3] rfl)
theorem wX9_beside_L20 (C : sn_C p s m args meth c RX9 cX9_beside 4 (some .int) D ct ad layM A) {σ : sn_S} {x1 : Int32}   {z : Int32 × Int32} {t : Int32} (h : sn_it (LX9_beside_20 σ x1) 5000 z = some t) (kx : ∀ v, t = v → sn_At p l e rmX9_beside s m args below meth c Q D ct ad layM A 4 σ 57 [(2, .int v)] []) : sn_At p l e rmX9_beside s m args below meth c Q D ct ad layM A 4 σ 20 [(0, .ref (ad 0)), (1, .int x1), (2, .int z.1), (3, .int z.2)] [] :=
  sn_loop (f := LX9_beside_20 σ x1) (G := fun z => sn_At p l e rmX9_beside s m args below meth c Q D ct ad layM A 4 σ 20 [(0, .ref (ad 0)), (1, .int x1), (2, .int z.1), (3, .int z.2)] []) (E := fun t => (∀ v, t = v → sn_At p l e rmX9_beside s m args below meth c Q D ct ad layM A 4 σ 57 [(2, .int v)] []) ∧ True) (fun z o hf k1 k2 => wX9_beside_20 C  hf (fun v e => k1 v e) (fun v e => (k2 _ e).1 v rfl)) 5000 z t h ⟨kx, trivial⟩
theorem wX9_beside_in (C : sn_C p s m args meth c RX9 cX9_beside 4 (some .int) D ct ad layM A) {σ : sn_S} {x1 : Int32}  {o : (Int32 × sn_S)} (hf : fX9_beside σ x1 = some o) (kr : sn_Kr p l e rmX9_beside s m args below meth c Q D ct ad layM A cX9_beside .ireturn (true) o.2 [.int o.1]) : sn_At p l e rmX9_beside s m args below meth c Q D ct ad layM A 4 σ 0 [(0, .ref (ad 0)), (1, .int x1)] [] := by
  intro H locs ls hw hl
  have hx := C.1
  have hb := C.2.1
  unfold fX9_beside at hf
  refine lv_aload_n hx hb dX9_beside_0 rfl (lv_at hl 0 rfl) ?_
  obtain ⟨t_1, h_2, hf⟩ := sn_bd hf
  refine sn_callVv (rest := []) C hw (ctX9_asItIs l  h_2) kl_RX9_263 layM_0 rfl rfl rfl rfl (Nat.le_of_ble_eq_true rfl) dX9_beside_1 hl.1 (fun H locs hw => ?_)
  refine lv_aload_n hx hb dX9_beside_4 rfl (lv_at hl 0 rfl) ?_
  refine lv_iload_n hx hb dX9_beside_5 rfl (lv_at hl 1 rfl) ?_
  refine lv_i2l hx hb dX9_beside_6 rfl ?_
  obtain ⟨t_3, h_4, hf⟩ := sn_bd hf
  refine sn_callVi (rest := []) C hw (ctX9_isPerson l  h_4) kl_RX9_224 layM_0 rfl rfl rfl rfl (Nat.le_of_ble_eq_true rfl) dX9_beside_7 hl.1 (fun H locs hw => ?_)
  refine lv_if_ne (tgt := 16) hx hb dX9_beside_10 (by decide) (fun c_5 => ?_) (fun c_5 => ?_)
  · have hf := sn_el c_5 hf
    refine lv_iconst (v := 0) hx hb dX9_beside_16 rfl ?_
    refine lv_istore_n (lv' := [(2, .int (0 : Int32)), (0, .ref (ad 0)), (1, .int x1)]) hx hb dX9_beside_17 rfl hl (by decide) rfl (fun ls hl => ?_)
    refine lv_iconst (v := 0) hx hb dX9_beside_18 rfl ?_
    refine lv_istore_n (lv' := [(3, .int (0 : Int32)), (2, .int (0 : Int32)), (0, .ref (ad 0)), (1, .int x1)]) hx hb dX9_beside_19 rfl hl (by decide) rfl (fun ls hl => ?_)
    obtain ⟨t_6, h_7, hf⟩ := sn_bd hf
    exact wX9_beside_L20 C  h_7 (fun v e => by cases e; exact wX9_beside_57 C  hf kr) _ _ _ hw (lv_sub hl [2, 3, 1, 0] rfl)
  · have hf := sn_if c_5 hf
    refine lv_bipush (v := (-2)) hx hb dX9_beside_13 (by decide) ?_
    cases hf
    exact kr _ _ _ _ hw rfl dX9_beside_15
theorem ctX9_beside (l : Launch) {σ : sn_S} {x1 : Int32}  {o : (Int32 × sn_S)} (hf : fX9_beside σ x1 = some o) : sn_M l yX9_beside cX9_beside 4 (some .int) rmX9_beside layM (fun ad => [.ref (ad 0), .int x1]) σ (some (fun _ => .int o.1)) o.2 :=
  sn_met (by decide) (fun _ => Nat.le_of_ble_eq_true rfl) (fun p e s m args below meth c ls D ct ad A C hw hl => wX9_beside_in C  hf (fun H locs ls pc hw ok hd => sn_iret C hw hd) _ _ _ hw hl)
-- X9_dust
abbrev rmX9_dust : Room := { frames := 6, cells := 0, slots := 0, locals := 136 }
def fX9_dust (σ : sn_S) (x1 : Int32) : Option (Int32 × sn_S) :=
  ((fX9_asksMinute σ x1).bind fun t_1 => (if t_1.1 = 0 then
  (some ((-2 : Int32), t_1.2))
  else
  (sn_gd (sn_in x1 30) (some ((sn_I t_1.2 7 x1.toNatClampNeg), t_1.2)))))
theorem wX9_dust_in (C : sn_C p s m args meth c RX9 cX9_dust 2 (some .int) D ct ad layM A) {σ : sn_S} {x1 : Int32}  {o : (Int32 × sn_S)} (hf : fX9_dust σ x1 = some o) (kr : sn_Kr p l e rmX9_dust s m args below meth c Q D ct ad layM A cX9_dust .ireturn (true) o.2 [.int o.1]) : sn_At p l e rmX9_dust s m args below meth c Q D ct ad layM A 2 σ 0 [(0, .ref (ad 0)), (1, .int x1)] [] := by
  intro H locs ls hw hl
  have hx := C.1
  have hb := C.2.1
  unfold fX9_dust at hf
  refine lv_aload_n hx hb dX9_dust_0 rfl (lv_at hl 0 rfl) ?_
  refine lv_iload_n hx hb dX9_dust_1 rfl (lv_at hl 1 rfl) ?_
  obtain ⟨t_1, h_2, hf⟩ := sn_bd hf
  refine sn_callVi (rest := []) C hw (ctX9_asksMinute l  h_2) kl_RX9_281 layM_0 rfl rfl rfl rfl (Nat.le_of_ble_eq_true rfl) dX9_dust_2 hl.1 (fun H locs hw => ?_)
  refine lv_if_eq (tgt := 17) hx hb dX9_dust_5 (by decide) (fun c_3 => ?_) (fun c_3 => ?_)
  · have hf := sn_if c_3 hf
    refine lv_bipush (v := (-2)) hx hb dX9_dust_17 (by decide) ?_
    cases hf
    exact kr _ _ _ _ hw rfl dX9_dust_19
  · have hf := sn_el c_3 hf
    refine lv_aload_n hx hb dX9_dust_8 rfl (lv_at hl 0 rfl) ?_
    refine sn_getC (r := 7) C hw fd_RX9_34 layM_0 rfl dX9_dust_9 ?_
    refine lv_iload_n hx hb dX9_dust_12 rfl (lv_at hl 1 rfl) ?_
    obtain ⟨g_4, hf⟩ := sn_gdE hf
    refine sn_iald C hw layM_7 g_4 dX9_dust_13 ?_
    refine lv_goto (tgt := 19) hx hb dX9_dust_14 (by decide) ?_
    cases hf
    exact kr _ _ _ _ hw rfl dX9_dust_19
theorem ctX9_dust (l : Launch) {σ : sn_S} {x1 : Int32}  {o : (Int32 × sn_S)} (hf : fX9_dust σ x1 = some o) : sn_M l yX9_dust cX9_dust 2 (some .int) rmX9_dust layM (fun ad => [.ref (ad 0), .int x1]) σ (some (fun _ => .int o.1)) o.2 :=
  sn_met (by decide) (fun _ => Nat.le_of_ble_eq_true rfl) (fun p e s m args below meth c ls D ct ad A C hw hl => wX9_dust_in C  hf (fun H locs ls pc hw ok hd => sn_iret C hw hd) _ _ _ hw hl)
-- X9_sneezes
abbrev rmX9_sneezes : Room := { frames := 6, cells := 0, slots := 0, locals := 136 }
def fX9_sneezes (σ : sn_S) (x1 : Int32) : Option (Int32 × sn_S) :=
  ((fX9_asksPerson σ x1).bind fun t_1 => (if t_1.1 = 0 then
  (some ((-2 : Int32), t_1.2))
  else
  (sn_gd (sn_in x1 6) (some ((sn_I t_1.2 10 x1.toNatClampNeg), t_1.2)))))
theorem wX9_sneezes_in (C : sn_C p s m args meth c RX9 cX9_sneezes 2 (some .int) D ct ad layM A) {σ : sn_S} {x1 : Int32}  {o : (Int32 × sn_S)} (hf : fX9_sneezes σ x1 = some o) (kr : sn_Kr p l e rmX9_sneezes s m args below meth c Q D ct ad layM A cX9_sneezes .ireturn (true) o.2 [.int o.1]) : sn_At p l e rmX9_sneezes s m args below meth c Q D ct ad layM A 2 σ 0 [(0, .ref (ad 0)), (1, .int x1)] [] := by
  intro H locs ls hw hl
  have hx := C.1
  have hb := C.2.1
  unfold fX9_sneezes at hf
  refine lv_aload_n hx hb dX9_sneezes_0 rfl (lv_at hl 0 rfl) ?_
  refine lv_iload_n hx hb dX9_sneezes_1 rfl (lv_at hl 1 rfl) ?_
  obtain ⟨t_1, h_2, hf⟩ := sn_bd hf
  refine sn_callVi (rest := []) C hw (ctX9_asksPerson l  h_2) kl_RX9_284 layM_0 rfl rfl rfl rfl (Nat.le_of_ble_eq_true rfl) dX9_sneezes_2 hl.1 (fun H locs hw => ?_)
  refine lv_if_eq (tgt := 17) hx hb dX9_sneezes_5 (by decide) (fun c_3 => ?_) (fun c_3 => ?_)
  · have hf := sn_if c_3 hf
    refine lv_bipush (v := (-2)) hx hb dX9_sneezes_17 (by decide) ?_
    cases hf
    exact kr _ _ _ _ hw rfl dX9_sneezes_19
  · have hf := sn_el c_3 hf
    refine lv_aload_n hx hb dX9_sneezes_8 rfl (lv_at hl 0 rfl) ?_
    refine sn_getC (r := 10) C hw fd_RX9_43 layM_0 rfl dX9_sneezes_9 ?_
    refine lv_iload_n hx hb dX9_sneezes_12 rfl (lv_at hl 1 rfl) ?_
    obtain ⟨g_4, hf⟩ := sn_gdE hf
    refine sn_iald C hw layM_10 g_4 dX9_sneezes_13 ?_
    refine lv_goto (tgt := 19) hx hb dX9_sneezes_14 (by decide) ?_
    cases hf
    exact kr _ _ _ _ hw rfl dX9_sneezes_19
theorem ctX9_sneezes (l : Launch) {σ : sn_S} {x1 : Int32}  {o : (Int32 × sn_S)} (hf : fX9_sneezes σ x1 = some o) : sn_M l yX9_sneezes cX9_sneezes 2 (some .int) rmX9_sneezes layM (fun ad => [.ref (ad 0), .int x1]) σ (some (fun _ => .int o.1)) o.2 :=
  sn_met (by decide) (fun _ => Nat.le_of_ble_eq_true rfl) (fun p e s m args below meth c ls D ct ad A C hw hl => wX9_sneezes_in C  hf (fun H locs ls pc hw ok hd => sn_iret C hw hd) _ _ _ hw hl)
-- X9_first
abbrev rmX9_first : Room := { frames := 6, cells := 0, slots := 0, locals := 136 }
def fX9_first (σ : sn_S) (x1 : Int32) : Option (Int32 × sn_S) :=
  ((fX9_asksPerson σ x1).bind fun t_1 => (if t_1.1 = 0 then
  (some ((-2 : Int32), t_1.2))
  else
  (sn_gd (sn_in x1 6) ((fX9_firstOf (sn_I t_1.2 10 x1.toNatClampNeg)).bind fun t_5 => (some (t_5, t_1.2))))))
theorem wX9_first_in (C : sn_C p s m args meth c RX9 cX9_first 2 (some .int) D ct ad layM A) {σ : sn_S} {x1 : Int32}  {o : (Int32 × sn_S)} (hf : fX9_first σ x1 = some o) (kr : sn_Kr p l e rmX9_first s m args below meth c Q D ct ad layM A cX9_first .ireturn (true) o.2 [.int o.1]) : sn_At p l e rmX9_first s m args below meth c Q D ct ad layM A 2 σ 0 [(0, .ref (ad 0)), (1, .int x1)] [] := by
  intro H locs ls hw hl
  have hx := C.1
  have hb := C.2.1
  unfold fX9_first at hf
  refine lv_aload_n hx hb dX9_first_0 rfl (lv_at hl 0 rfl) ?_
  refine lv_iload_n hx hb dX9_first_1 rfl (lv_at hl 1 rfl) ?_
  obtain ⟨t_1, h_2, hf⟩ := sn_bd hf
  refine sn_callVi (rest := []) C hw (ctX9_asksPerson l  h_2) kl_RX9_284 layM_0 rfl rfl rfl rfl (Nat.le_of_ble_eq_true rfl) dX9_first_2 hl.1 (fun H locs hw => ?_)
  refine lv_if_eq (tgt := 20) hx hb dX9_first_5 (by decide) (fun c_3 => ?_) (fun c_3 => ?_)
  · have hf := sn_if c_3 hf
    refine lv_bipush (v := (-2)) hx hb dX9_first_20 (by decide) ?_
    cases hf
    exact kr _ _ _ _ hw rfl dX9_first_22
  · have hf := sn_el c_3 hf
    refine lv_aload_n hx hb dX9_first_8 rfl (lv_at hl 0 rfl) ?_
    refine sn_getC (r := 10) C hw fd_RX9_43 layM_0 rfl dX9_first_9 ?_
    refine lv_iload_n hx hb dX9_first_12 rfl (lv_at hl 1 rfl) ?_
    obtain ⟨g_4, hf⟩ := sn_gdE hf
    refine sn_iald C hw layM_10 g_4 dX9_first_13 ?_
    obtain ⟨t_5, h_6, hf⟩ := sn_bd hf
    refine sn_callSi (rest := []) C hw (ctX9_firstOf l  h_6) kl_RX9_287 rfl rfl rfl (Nat.le_of_ble_eq_true rfl) dX9_first_14 hl.1 (fun H locs hw => ?_)
    refine lv_goto (tgt := 22) hx hb dX9_first_17 (by decide) ?_
    cases hf
    exact kr _ _ _ _ hw rfl dX9_first_22
theorem ctX9_first (l : Launch) {σ : sn_S} {x1 : Int32}  {o : (Int32 × sn_S)} (hf : fX9_first σ x1 = some o) : sn_M l yX9_first cX9_first 2 (some .int) rmX9_first layM (fun ad => [.ref (ad 0), .int x1]) σ (some (fun _ => .int o.1)) o.2 :=
  sn_met (by decide) (fun _ => Nat.le_of_ble_eq_true rfl) (fun p e s m args below meth c ls D ct ad A C hw hl => wX9_first_in C  hf (fun H locs ls pc hw ok hd => sn_iret C hw hd) _ _ _ hw hl)
-- X9_all
abbrev rmX9_all : Room := { frames := 5, cells := 0, slots := 0, locals := 115 }
def fX9_all (σ : sn_S) : Option (Int32 × sn_S) :=
  ((fX9_asksHouse σ).bind fun t_1 => (if t_1.1 = 0 then
  (some ((-2 : Int32), t_1.2))
  else
  ((fX9_allSneezes t_1.2).bind fun t_4 => (some (t_4, t_1.2)))))
theorem wX9_all_in (C : sn_C p s m args meth c RX9 cX9_all 1 (some .int) D ct ad layM A) {σ : sn_S}  {o : (Int32 × sn_S)} (hf : fX9_all σ = some o) (kr : sn_Kr p l e rmX9_all s m args below meth c Q D ct ad layM A cX9_all .ireturn (true) o.2 [.int o.1]) : sn_At p l e rmX9_all s m args below meth c Q D ct ad layM A 1 σ 0 [(0, .ref (ad 0))] [] := by
  intro H locs ls hw hl
  have hx := C.1
  have hb := C.2.1
  unfold fX9_all at hf
  refine lv_aload_n hx hb dX9_all_0 rfl (lv_at hl 0 rfl) ?_
  obtain ⟨t_1, h_2, hf⟩ := sn_bd hf
  refine sn_callVi (rest := []) C hw (ctX9_asksHouse l  h_2) kl_RX9_272 layM_0 rfl rfl rfl rfl (Nat.le_of_ble_eq_true rfl) dX9_all_1 hl.1 (fun H locs hw => ?_)
  refine lv_if_eq (tgt := 14) hx hb dX9_all_4 (by decide) (fun c_3 => ?_) (fun c_3 => ?_)
  · have hf := sn_if c_3 hf
    refine lv_bipush (v := (-2)) hx hb dX9_all_14 (by decide) ?_
    cases hf
    exact kr _ _ _ _ hw rfl dX9_all_16
  · have hf := sn_el c_3 hf
    refine lv_aload_n hx hb dX9_all_7 rfl (lv_at hl 0 rfl) ?_
    obtain ⟨t_4, h_5, hf⟩ := sn_bd hf
    refine sn_callVi (rest := []) C hw (ctX9_allSneezes l  h_5) kl_RX9_290 layM_0 rfl rfl rfl rfl (Nat.le_of_ble_eq_true rfl) dX9_all_8 hl.1 (fun H locs hw => ?_)
    refine lv_goto (tgt := 16) hx hb dX9_all_11 (by decide) ?_
    cases hf
    exact kr _ _ _ _ hw rfl dX9_all_16
theorem ctX9_all (l : Launch) {σ : sn_S}  {o : (Int32 × sn_S)} (hf : fX9_all σ = some o) : sn_M l yX9_all cX9_all 1 (some .int) rmX9_all layM (fun ad => [.ref (ad 0)]) σ (some (fun _ => .int o.1)) o.2 :=
  sn_met (by decide) (fun _ => Nat.le_of_ble_eq_true rfl) (fun p e s m args below meth c ls D ct ad A C hw hl => wX9_all_in C  hf (fun H locs ls pc hw ok hd => sn_iret C hw hd) _ _ _ hw hl)
-- X9_who
abbrev rmX9_who : Room := { frames := 6, cells := 0, slots := 0, locals := 136 }
def fX9_who (σ : sn_S) (x1 : Int32) : Option (Int32 × sn_S) :=
  ((fX9_asksMinute σ x1).bind fun t_1 => (if t_1.1 = 0 then
  (some ((-2 : Int32), t_1.2))
  else
  (sn_gd (sn_in x1 30) (some ((sn_I t_1.2 11 x1.toNatClampNeg), t_1.2)))))
theorem wX9_who_in (C : sn_C p s m args meth c RX9 cX9_who 2 (some .int) D ct ad layM A) {σ : sn_S} {x1 : Int32}  {o : (Int32 × sn_S)} (hf : fX9_who σ x1 = some o) (kr : sn_Kr p l e rmX9_who s m args below meth c Q D ct ad layM A cX9_who .ireturn (true) o.2 [.int o.1]) : sn_At p l e rmX9_who s m args below meth c Q D ct ad layM A 2 σ 0 [(0, .ref (ad 0)), (1, .int x1)] [] := by
  intro H locs ls hw hl
  have hx := C.1
  have hb := C.2.1
  unfold fX9_who at hf
  refine lv_aload_n hx hb dX9_who_0 rfl (lv_at hl 0 rfl) ?_
  refine lv_iload_n hx hb dX9_who_1 rfl (lv_at hl 1 rfl) ?_
  obtain ⟨t_1, h_2, hf⟩ := sn_bd hf
  refine sn_callVi (rest := []) C hw (ctX9_asksMinute l  h_2) kl_RX9_281 layM_0 rfl rfl rfl rfl (Nat.le_of_ble_eq_true rfl) dX9_who_2 hl.1 (fun H locs hw => ?_)
  refine lv_if_eq (tgt := 17) hx hb dX9_who_5 (by decide) (fun c_3 => ?_) (fun c_3 => ?_)
  · have hf := sn_if c_3 hf
    refine lv_bipush (v := (-2)) hx hb dX9_who_17 (by decide) ?_
    cases hf
    exact kr _ _ _ _ hw rfl dX9_who_19
  · have hf := sn_el c_3 hf
    refine lv_aload_n hx hb dX9_who_8 rfl (lv_at hl 0 rfl) ?_
    refine sn_getC (r := 11) C hw fd_RX9_46 layM_0 rfl dX9_who_9 ?_
    refine lv_iload_n hx hb dX9_who_12 rfl (lv_at hl 1 rfl) ?_
    obtain ⟨g_4, hf⟩ := sn_gdE hf
    refine sn_iald C hw layM_11 g_4 dX9_who_13 ?_
    refine lv_goto (tgt := 19) hx hb dX9_who_14 (by decide) ?_
    cases hf
    exact kr _ _ _ _ hw rfl dX9_who_19
theorem ctX9_who (l : Launch) {σ : sn_S} {x1 : Int32}  {o : (Int32 × sn_S)} (hf : fX9_who σ x1 = some o) : sn_M l yX9_who cX9_who 2 (some .int) rmX9_who layM (fun ad => [.ref (ad 0), .int x1]) σ (some (fun _ => .int o.1)) o.2 :=
  sn_met (by decide) (fun _ => Nat.le_of_ble_eq_true rfl) (fun p e s m args below meth c ls D ct ad A C hw hl => wX9_who_in C  hf (fun H locs ls pc hw ok hd => sn_iret C hw hd) _ _ _ hw hl)
-- X9_tickle
abbrev rmX9_tickle : Room := { frames := 6, cells := 0, slots := 0, locals := 136 }
def fX9_tickle (σ : sn_S) (x1 : Int32) (x2 : Int32) : Option (Int32 × sn_S) :=
  ((fX9_asksMinute σ x2).bind fun t_1 => (if t_1.1 = 0 then
  (some ((-2 : Int32), t_1.2))
  else
  ((fX9_isPerson t_1.2 x1.toInt64).bind fun t_4 => (if t_4 = 0 then
  (some ((-2 : Int32), t_1.2))
  else
  (sn_gd (sn_in (((6 : Int32) * x2) + x1) 180) (some ((sn_I t_1.2 12 (((6 : Int32) * x2) + x1).toNatClampNeg), t_1.2)))))))
theorem wX9_tickle_in (C : sn_C p s m args meth c RX9 cX9_tickle 3 (some .int) D ct ad layM A) {σ : sn_S} {x1 : Int32} {x2 : Int32}  {o : (Int32 × sn_S)} (hf : fX9_tickle σ x1 x2 = some o) (kr : sn_Kr p l e rmX9_tickle s m args below meth c Q D ct ad layM A cX9_tickle .ireturn (true) o.2 [.int o.1]) : sn_At p l e rmX9_tickle s m args below meth c Q D ct ad layM A 3 σ 0 [(0, .ref (ad 0)), (1, .int x1), (2, .int x2)] [] := by
  intro H locs ls hw hl
  have hx := C.1
  have hb := C.2.1
  unfold fX9_tickle at hf
  refine lv_aload_n hx hb dX9_tickle_0 rfl (lv_at hl 0 rfl) ?_
  refine lv_iload_n hx hb dX9_tickle_1 rfl (lv_at hl 2 rfl) ?_
  obtain ⟨t_1, h_2, hf⟩ := sn_bd hf
  refine sn_callVi (rest := []) C hw (ctX9_asksMinute l  h_2) kl_RX9_281 layM_0 rfl rfl rfl rfl (Nat.le_of_ble_eq_true rfl) dX9_tickle_2 hl.1 (fun H locs hw => ?_)
  refine lv_if_eq (tgt := 31) hx hb dX9_tickle_5 (by decide) (fun c_3 => ?_) (fun c_3 => ?_)
  · have hf := sn_if c_3 hf
    refine lv_bipush (v := (-2)) hx hb dX9_tickle_31 (by decide) ?_
    cases hf
    exact kr _ _ _ _ hw rfl dX9_tickle_33
  · have hf := sn_el c_3 hf
    refine lv_aload_n hx hb dX9_tickle_8 rfl (lv_at hl 0 rfl) ?_
    refine lv_iload_n hx hb dX9_tickle_9 rfl (lv_at hl 1 rfl) ?_
    refine lv_i2l hx hb dX9_tickle_10 rfl ?_
    obtain ⟨t_4, h_5, hf⟩ := sn_bd hf
    refine sn_callVi (rest := []) C hw (ctX9_isPerson l  h_5) kl_RX9_224 layM_0 rfl rfl rfl rfl (Nat.le_of_ble_eq_true rfl) dX9_tickle_11 hl.1 (fun H locs hw => ?_)
    refine lv_if_eq (tgt := 31) hx hb dX9_tickle_14 (by decide) (fun c_6 => ?_) (fun c_6 => ?_)
    · have hf := sn_if c_6 hf
      refine lv_bipush (v := (-2)) hx hb dX9_tickle_31 (by decide) ?_
      cases hf
      exact kr _ _ _ _ hw rfl dX9_tickle_33
    · have hf := sn_el c_6 hf
      refine lv_aload_n hx hb dX9_tickle_17 rfl (lv_at hl 0 rfl) ?_
      refine sn_getC (r := 12) C hw fd_RX9_49 layM_0 rfl dX9_tickle_18 ?_
      refine lv_bipush (v := 6) hx hb dX9_tickle_21 (by decide) ?_
      refine lv_iload_n hx hb dX9_tickle_23 rfl (lv_at hl 2 rfl) ?_
      refine lv_imul hx hb dX9_tickle_24 ?_
      refine lv_iload_n hx hb dX9_tickle_25 rfl (lv_at hl 1 rfl) ?_
      refine lv_iadd hx hb dX9_tickle_26 ?_
      obtain ⟨g_7, hf⟩ := sn_gdE hf
      refine sn_iald C hw layM_12 g_7 dX9_tickle_27 ?_
      refine lv_goto (tgt := 33) hx hb dX9_tickle_28 (by decide) ?_
      cases hf
      exact kr _ _ _ _ hw rfl dX9_tickle_33
theorem ctX9_tickle (l : Launch) {σ : sn_S} {x1 : Int32} {x2 : Int32}  {o : (Int32 × sn_S)} (hf : fX9_tickle σ x1 x2 = some o) : sn_M l yX9_tickle cX9_tickle 3 (some .int) rmX9_tickle layM (fun ad => [.ref (ad 0), .int x1, .int x2]) σ (some (fun _ => .int o.1)) o.2 :=
  sn_met (by decide) (fun _ => Nat.le_of_ble_eq_true rfl) (fun p e s m args below meth c ls D ct ad A C hw hl => wX9_tickle_in C  hf (fun H locs ls pc hw ok hd => sn_iret C hw hd) _ _ _ hw hl)
-- X9_itch
abbrev rmX9_itch : Room := { frames := 6, cells := 0, slots := 0, locals := 136 }
def BX9_itch_45 (σ : sn_S) (x2 : Int32) : Option ((Int32 × sn_S)) :=
  (some (x2, σ))
def BX9_itch_15 (σ : sn_S) (x1 : Int32) (x2 : Int32) (x3 : Int32) : Option ((Int32 × Int32) ⊕ (Int32)) :=
  ((fX9_minutes σ).bind fun t_1 => (if t_1 ≤ x3 then
  (some (.inr (x2)))
  else
  (sn_gd (sn_in (((6 : Int32) * x3) + x1) 180) (sn_lt (if x2 < (sn_I σ 12 (((6 : Int32) * x3) + x1).toNatClampNeg) then (sn_I σ 12 (((6 : Int32) * x3) + x1).toNatClampNeg) else x2) fun y_5 => (sn_lt (x3 + 1) fun y_7 => (some (.inl (y_5, y_7))))))))
def LX9_itch_15 (σ : sn_S) (x1 : Int32) (s : Int32 × Int32) : Option ((Int32 × Int32) ⊕ (Int32)) := BX9_itch_15 σ x1 s.1 s.2
def fX9_itch (σ : sn_S) (x1 : Int32) : Option (Int32 × sn_S) :=
  ((fX9_asksPerson σ x1).bind fun t_1 => (if t_1.1 = 0 then
  (some ((-2 : Int32), t_1.2))
  else
  ((sn_it (LX9_itch_15 t_1.2 x1) 5000 ((0 : Int32), (0 : Int32))).bind fun t_4 => (BX9_itch_45 t_1.2 t_4))))
theorem wX9_itch_45 (C : sn_C p s m args meth c RX9 cX9_itch 4 (some .int) D ct ad layM A) {σ : sn_S} {x2 : Int32}  {o : (Int32 × sn_S)} (hf : BX9_itch_45 σ x2 = some o) (kr : sn_Kr p l e rmX9_itch s m args below meth c Q D ct ad layM A cX9_itch .ireturn (true) o.2 [.int o.1]) : sn_At p l e rmX9_itch s m args below meth c Q D ct ad layM A 4 σ 45 [(2, .int x2)] [] := by
  intro H locs ls hw hl
  have hx := C.1
  have hb := C.2.1
  unfold BX9_itch_45 at hf
  refine lv_iload_n hx hb dX9_itch_45 rfl (lv_at hl 0 rfl) ?_
  cases hf
  exact kr _ _ _ _ hw rfl dX9_itch_46
theorem wX9_itch_15 (C : sn_C p s m args meth c RX9 cX9_itch 4 (some .int) D ct ad layM A) {σ : sn_S} {x1 : Int32} {x2 : Int32} {x3 : Int32}  {o : (Int32 × Int32) ⊕ (Int32)} (hf : BX9_itch_15 σ x1 x2 x3 = some o) (kc : ∀ v, o = .inl v → sn_At p l e rmX9_itch s m args below meth c Q D ct ad layM A 4 σ 15 [(0, .ref (ad 0)), (1, .int x1), (2, .int v.1), (3, .int v.2)] []) (kx : ∀ v, o = .inr v → sn_At p l e rmX9_itch s m args below meth c Q D ct ad layM A 4 σ 45 [(2, .int v)] []) : sn_At p l e rmX9_itch s m args below meth c Q D ct ad layM A 4 σ 15 [(0, .ref (ad 0)), (1, .int x1), (2, .int x2), (3, .int x3)] [] := by
  intro H locs ls hw hl
  have hx := C.1
  have hb := C.2.1
  unfold BX9_itch_15 at hf
  refine lv_iload_n hx hb dX9_itch_15 rfl (lv_at hl 3 rfl) ?_
  refine lv_aload_n hx hb dX9_itch_16 rfl (lv_at hl 0 rfl) ?_
  obtain ⟨t_1, h_2, hf⟩ := sn_bd hf
  refine sn_callVi (rest := [.int x3]) C hw (ctX9_minutes l  h_2) kl_RX9_249 layM_0 rfl rfl rfl rfl (Nat.le_of_ble_eq_true rfl) dX9_itch_17 hl.1 (fun H locs hw => ?_)
  refine lv_icmp_ge (tgt := 45) hx hb dX9_itch_20 (by decide) (fun c_3 => ?_) (fun c_3 => ?_)
  · have hf := sn_if c_3 hf
    cases hf
    exact kx _ rfl _ _ _ hw (lv_sub hl [2] rfl)
  · have hf := sn_el c_3 hf
    refine lv_iload_n hx hb dX9_itch_23 rfl (lv_at hl 2 rfl) ?_
    refine lv_aload_n hx hb dX9_itch_24 rfl (lv_at hl 0 rfl) ?_
    refine sn_getC (r := 12) C hw fd_RX9_49 layM_0 rfl dX9_itch_25 ?_
    refine lv_bipush (v := 6) hx hb dX9_itch_28 (by decide) ?_
    refine lv_iload_n hx hb dX9_itch_30 rfl (lv_at hl 3 rfl) ?_
    refine lv_imul hx hb dX9_itch_31 ?_
    refine lv_iload_n hx hb dX9_itch_32 rfl (lv_at hl 1 rfl) ?_
    refine lv_iadd hx hb dX9_itch_33 ?_
    obtain ⟨g_4, hf⟩ := sn_gdE hf
    refine sn_iald C hw layM_12 g_4 dX9_itch_34 ?_
    refine va_mmax hx hb (C.2.2.1.trans hl.1.symm) C.2.2.2.1 (C.2.2.2.2.1 _ km_RX9_293) (C.2.2.2.2.1 _ kst_maxI) (C.2.2.2.2.1 _ ki_Math) (C.2.2.2.2.1 _ kc_maxI) (Nat.le_of_ble_eq_true rfl) (Nat.le_of_ble_eq_true rfl) (Nat.zero_le _) (Nat.zero_le _) dX9_itch_35 ?_
    obtain ⟨y_5, e_6, hf⟩ := sn_ltE hf
    refine lv_topi (fun y_5_ e_6_ => ?_)
    obtain rfl : y_5 = y_5_ := e_6.trans e_6_.symm
    refine lv_istore_n (lv' := [(2, .int y_5), (0, .ref (ad 0)), (1, .int x1), (3, .int x3)]) hx hb dX9_itch_38 rfl hl (by decide) rfl (fun ls hl => ?_)
    obtain ⟨y_7, e_8, hf⟩ := sn_ltE hf
    refine lv_iinc (v := y_7) (lv' := [(3, .int y_7), (2, .int y_5), (0, .ref (ad 0)), (1, .int x1)]) hx hb dX9_itch_39 hl (k := 3) rfl (by rw [e_8]; rfl) (by decide) rfl (fun ls hl => ?_)
    refine lv_goto (tgt := 15) hx hb dX9_itch_42 (by decide) ?_
    cases hf
    exact kc _ rfl _ _ _ hw (lv_sub hl [2, 3, 1, 0] rfl)
theorem wX9_itch_L15 (C : sn_C p s m args meth c RX9 cX9_itch 4 (some .int) D ct ad layM A) {σ : sn_S} {x1 : Int32}   {z : Int32 × Int32} {t : Int32} (h : sn_it (LX9_itch_15 σ x1) 5000 z = some t) (kx : ∀ v, t = v → sn_At p l e rmX9_itch s m args below meth c Q D ct ad layM A 4 σ 45 [(2, .int v)] []) : sn_At p l e rmX9_itch s m args below meth c Q D ct ad layM A 4 σ 15 [(0, .ref (ad 0)), (1, .int x1), (2, .int z.1), (3, .int z.2)] [] :=
  sn_loop (f := LX9_itch_15 σ x1) (G := fun z => sn_At p l e rmX9_itch s m args below meth c Q D ct ad layM A 4 σ 15 [(0, .ref (ad 0)), (1, .int x1), (2, .int z.1), (3, .int z.2)] []) (E := fun t => (∀ v, t = v → sn_At p l e rmX9_itch s m args below meth c Q D ct ad layM A 4 σ 45 [(2, .int v)] []) ∧ True) (fun z o hf k1 k2 => wX9_itch_15 C  hf (fun v e => k1 v e) (fun v e => (k2 _ e).1 v rfl)) 5000 z t h ⟨kx, trivial⟩
theorem wX9_itch_in (C : sn_C p s m args meth c RX9 cX9_itch 4 (some .int) D ct ad layM A) {σ : sn_S} {x1 : Int32}  {o : (Int32 × sn_S)} (hf : fX9_itch σ x1 = some o) (kr : sn_Kr p l e rmX9_itch s m args below meth c Q D ct ad layM A cX9_itch .ireturn (true) o.2 [.int o.1]) : sn_At p l e rmX9_itch s m args below meth c Q D ct ad layM A 4 σ 0 [(0, .ref (ad 0)), (1, .int x1)] [] := by
  intro H locs ls hw hl
  have hx := C.1
  have hb := C.2.1
  unfold fX9_itch at hf
  refine lv_aload_n hx hb dX9_itch_0 rfl (lv_at hl 0 rfl) ?_
  refine lv_iload_n hx hb dX9_itch_1 rfl (lv_at hl 1 rfl) ?_
  obtain ⟨t_1, h_2, hf⟩ := sn_bd hf
  refine sn_callVi (rest := []) C hw (ctX9_asksPerson l  h_2) kl_RX9_284 layM_0 rfl rfl rfl rfl (Nat.le_of_ble_eq_true rfl) dX9_itch_2 hl.1 (fun H locs hw => ?_)
  refine lv_if_ne (tgt := 11) hx hb dX9_itch_5 (by decide) (fun c_3 => ?_) (fun c_3 => ?_)
  · have hf := sn_el c_3 hf
    refine lv_iconst (v := 0) hx hb dX9_itch_11 rfl ?_
    refine lv_istore_n (lv' := [(2, .int (0 : Int32)), (0, .ref (ad 0)), (1, .int x1)]) hx hb dX9_itch_12 rfl hl (by decide) rfl (fun ls hl => ?_)
    refine lv_iconst (v := 0) hx hb dX9_itch_13 rfl ?_
    refine lv_istore_n (lv' := [(3, .int (0 : Int32)), (2, .int (0 : Int32)), (0, .ref (ad 0)), (1, .int x1)]) hx hb dX9_itch_14 rfl hl (by decide) rfl (fun ls hl => ?_)
    obtain ⟨t_4, h_5, hf⟩ := sn_bd hf
    exact wX9_itch_L15 C  h_5 (fun v e => by cases e; exact wX9_itch_45 C  hf kr) _ _ _ hw (lv_sub hl [2, 3, 1, 0] rfl)
  · have hf := sn_if c_3 hf
    refine lv_bipush (v := (-2)) hx hb dX9_itch_8 (by decide) ?_
    cases hf
    exact kr _ _ _ _ hw rfl dX9_itch_10
theorem ctX9_itch (l : Launch) {σ : sn_S} {x1 : Int32}  {o : (Int32 × sn_S)} (hf : fX9_itch σ x1 = some o) : sn_M l yX9_itch cX9_itch 4 (some .int) rmX9_itch layM (fun ad => [.ref (ad 0), .int x1]) σ (some (fun _ => .int o.1)) o.2 :=
  sn_met (by decide) (fun _ => Nat.le_of_ble_eq_true rfl) (fun p e s m args below meth c ls D ct ad A C hw hl => wX9_itch_in C  hf (fun H locs ls pc hw ok hd => sn_iret C hw hd) _ _ _ hw hl)
-- X9_caught
abbrev rmX9_caught : Room := { frames := 6, cells := 0, slots := 0, locals := 136 }
def fX9_caught (σ : sn_S) (x1 : Int32) : Option (Int32 × sn_S) :=
  ((fX9_asksPerson σ x1).bind fun t_1 => (if t_1.1 = 0 then
  (some ((-2 : Int32), t_1.2))
  else
  (sn_gd (sn_in x1 6) (some ((sn_I t_1.2 14 x1.toNatClampNeg), t_1.2)))))
theorem wX9_caught_in (C : sn_C p s m args meth c RX9 cX9_caught 2 (some .int) D ct ad layM A) {σ : sn_S} {x1 : Int32}  {o : (Int32 × sn_S)} (hf : fX9_caught σ x1 = some o) (kr : sn_Kr p l e rmX9_caught s m args below meth c Q D ct ad layM A cX9_caught .ireturn (true) o.2 [.int o.1]) : sn_At p l e rmX9_caught s m args below meth c Q D ct ad layM A 2 σ 0 [(0, .ref (ad 0)), (1, .int x1)] [] := by
  intro H locs ls hw hl
  have hx := C.1
  have hb := C.2.1
  unfold fX9_caught at hf
  refine lv_aload_n hx hb dX9_caught_0 rfl (lv_at hl 0 rfl) ?_
  refine lv_iload_n hx hb dX9_caught_1 rfl (lv_at hl 1 rfl) ?_
  obtain ⟨t_1, h_2, hf⟩ := sn_bd hf
  refine sn_callVi (rest := []) C hw (ctX9_asksPerson l  h_2) kl_RX9_284 layM_0 rfl rfl rfl rfl (Nat.le_of_ble_eq_true rfl) dX9_caught_2 hl.1 (fun H locs hw => ?_)
  refine lv_if_eq (tgt := 17) hx hb dX9_caught_5 (by decide) (fun c_3 => ?_) (fun c_3 => ?_)
  · have hf := sn_if c_3 hf
    refine lv_bipush (v := (-2)) hx hb dX9_caught_17 (by decide) ?_
    cases hf
    exact kr _ _ _ _ hw rfl dX9_caught_19
  · have hf := sn_el c_3 hf
    refine lv_aload_n hx hb dX9_caught_8 rfl (lv_at hl 0 rfl) ?_
    refine sn_getC (r := 14) C hw fd_RX9_55 layM_0 rfl dX9_caught_9 ?_
    refine lv_iload_n hx hb dX9_caught_12 rfl (lv_at hl 1 rfl) ?_
    obtain ⟨g_4, hf⟩ := sn_gdE hf
    refine sn_iald C hw layM_14 g_4 dX9_caught_13 ?_
    refine lv_goto (tgt := 19) hx hb dX9_caught_14 (by decide) ?_
    cases hf
    exact kr _ _ _ _ hw rfl dX9_caught_19
theorem ctX9_caught (l : Launch) {σ : sn_S} {x1 : Int32}  {o : (Int32 × sn_S)} (hf : fX9_caught σ x1 = some o) : sn_M l yX9_caught cX9_caught 2 (some .int) rmX9_caught layM (fun ad => [.ref (ad 0), .int x1]) σ (some (fun _ => .int o.1)) o.2 :=
  sn_met (by decide) (fun _ => Nat.le_of_ble_eq_true rfl) (fun p e s m args below meth c ls D ct ad A C hw hl => wX9_caught_in C  hf (fun H locs ls pc hw ok hd => sn_iret C hw hd) _ _ _ hw hl)
-- X9_gave
abbrev rmX9_gave : Room := { frames := 6, cells := 0, slots := 0, locals := 136 }
def BX9_gave_87 (σ : sn_S) (x3 : Int32) : Option ((Int32 × sn_S)) :=
  (some (x3, σ))
def BX9_gave_79 (σ : sn_S) (x1 : Int32) (x2 : Int32) (x3 : Int32) (x4 : Int32) (t0 : Int32) (t1 : Int32) : Option ((Int32 × Int32) ⊕ (Int32)) :=
  (sn_lt (t0 ||| t1) fun y_1 => (sn_lt (x4 + 1) fun y_3 => (some (.inl (y_1, y_3)))))
def BX9_gave_78 (σ : sn_S) (x1 : Int32) (x2 : Int32) (x3 : Int32) (x4 : Int32) (t0 : Int32) : Option ((Int32 × Int32) ⊕ (Int32)) :=
  (BX9_gave_79 σ x1 x2 x3 x4 t0 (0 : Int32))
def BX9_gave_26 (σ : sn_S) (x1 : Int32) (x2 : Int32) (x3 : Int32) (x4 : Int32) : Option ((Int32 × Int32) ⊕ (Int32)) :=
  (sn_gd (sn_in (5 : Int32) 119) (if (sn_I σ 1 (5 : Int32).toNatClampNeg) ≤ x4 then
  (some (.inr (x3)))
  else
  (if x2 ≤ 0 then
  (some (.inr (x3)))
  else
  (sn_gd (sn_in (x2 - (1 : Int32)) 30) ((fX9_bit (sn_I σ 11 (x2 - (1 : Int32)).toNatClampNeg) x4).bind fun t_5 => (if t_5 = (1 : Int32) then
  ((fX9_netsTo σ x1 ((1 : Int32) <<< (x4 &&& 31))).bind fun t_8 => (if t_8 ≤ 0 then
  (BX9_gave_78 σ x1 x2 x3 x4 x3)
  else
  (BX9_gave_79 σ x1 x2 x3 x4 x3 ((1 : Int32) <<< (x4 &&& 31)))))
  else
  (BX9_gave_78 σ x1 x2 x3 x4 x3)))))))
def LX9_gave_26 (σ : sn_S) (x1 : Int32) (x2 : Int32) (s : Int32 × Int32) : Option ((Int32 × Int32) ⊕ (Int32)) := BX9_gave_26 σ x1 x2 s.1 s.2
def fX9_gave (σ : sn_S) (x1 : Int32) : Option (Int32 × sn_S) :=
  ((fX9_asksPerson σ x1).bind fun t_1 => (if t_1.1 = 0 then
  (some ((-2 : Int32), t_1.2))
  else
  (sn_gd (sn_in x1 6) ((fX9_firstOf (sn_I t_1.2 10 x1.toNatClampNeg)).bind fun t_5 => ((sn_it (LX9_gave_26 t_1.2 x1 t_5) 5000 ((0 : Int32), (0 : Int32))).bind fun t_7 => (BX9_gave_87 t_1.2 t_7))))))
theorem wX9_gave_87 (C : sn_C p s m args meth c RX9 cX9_gave 5 (some .int) D ct ad layM A) {σ : sn_S} {x3 : Int32}  {o : (Int32 × sn_S)} (hf : BX9_gave_87 σ x3 = some o) (kr : sn_Kr p l e rmX9_gave s m args below meth c Q D ct ad layM A cX9_gave .ireturn (true) o.2 [.int o.1]) : sn_At p l e rmX9_gave s m args below meth c Q D ct ad layM A 5 σ 87 [(3, .int x3)] [] := by
  intro H locs ls hw hl
  have hx := C.1
  have hb := C.2.1
  unfold BX9_gave_87 at hf
  refine lv_iload_n hx hb dX9_gave_87 rfl (lv_at hl 0 rfl) ?_
  cases hf
  exact kr _ _ _ _ hw rfl dX9_gave_88
theorem wX9_gave_79 (C : sn_C p s m args meth c RX9 cX9_gave 5 (some .int) D ct ad layM A) {σ : sn_S} {x1 : Int32} {x2 : Int32} {x3 : Int32} {x4 : Int32} {t0 : Int32} {t1 : Int32}  {o : (Int32 × Int32) ⊕ (Int32)} (hf : BX9_gave_79 σ x1 x2 x3 x4 t0 t1 = some o) (kc : ∀ v, o = .inl v → sn_At p l e rmX9_gave s m args below meth c Q D ct ad layM A 5 σ 26 [(0, .ref (ad 0)), (1, .int x1), (2, .int x2), (3, .int v.1), (4, .int v.2)] []) (kx : ∀ v, o = .inr v → sn_At p l e rmX9_gave s m args below meth c Q D ct ad layM A 5 σ 87 [(3, .int v)] []) : sn_At p l e rmX9_gave s m args below meth c Q D ct ad layM A 5 σ 79 [(0, .ref (ad 0)), (1, .int x1), (2, .int x2), (3, .int x3), (4, .int x4)] [.int t1, .int t0] := by
  intro H locs ls hw hl
  have hx := C.1
  have hb := C.2.1
  unfold BX9_gave_79 at hf
  refine lv_ior hx hb dX9_gave_79 ?_
  obtain ⟨y_1, e_2, hf⟩ := sn_ltE hf
  refine lv_topi (fun y_1_ e_2_ => ?_)
  obtain rfl : y_1 = y_1_ := e_2.trans e_2_.symm
  refine lv_istore_n (lv' := [(3, .int y_1), (0, .ref (ad 0)), (1, .int x1), (2, .int x2), (4, .int x4)]) hx hb dX9_gave_80 rfl hl (by decide) rfl (fun ls hl => ?_)
  obtain ⟨y_3, e_4, hf⟩ := sn_ltE hf
  refine lv_iinc (v := y_3) (lv' := [(4, .int y_3), (3, .int y_1), (0, .ref (ad 0)), (1, .int x1), (2, .int x2)]) hx hb dX9_gave_81 hl (k := 4) rfl (by rw [e_4]; rfl) (by decide) rfl (fun ls hl => ?_)
  refine lv_goto (tgt := 26) hx hb dX9_gave_84 (by decide) ?_
  cases hf
  exact kc _ rfl _ _ _ hw (lv_sub hl [2, 3, 4, 1, 0] rfl)
theorem wX9_gave_78 (C : sn_C p s m args meth c RX9 cX9_gave 5 (some .int) D ct ad layM A) {σ : sn_S} {x1 : Int32} {x2 : Int32} {x3 : Int32} {x4 : Int32} {t0 : Int32}  {o : (Int32 × Int32) ⊕ (Int32)} (hf : BX9_gave_78 σ x1 x2 x3 x4 t0 = some o) (kc : ∀ v, o = .inl v → sn_At p l e rmX9_gave s m args below meth c Q D ct ad layM A 5 σ 26 [(0, .ref (ad 0)), (1, .int x1), (2, .int x2), (3, .int v.1), (4, .int v.2)] []) (kx : ∀ v, o = .inr v → sn_At p l e rmX9_gave s m args below meth c Q D ct ad layM A 5 σ 87 [(3, .int v)] []) : sn_At p l e rmX9_gave s m args below meth c Q D ct ad layM A 5 σ 78 [(0, .ref (ad 0)), (1, .int x1), (2, .int x2), (3, .int x3), (4, .int x4)] [.int t0] := by
  intro H locs ls hw hl
  have hx := C.1
  have hb := C.2.1
  unfold BX9_gave_78 at hf
  refine lv_iconst (v := 0) hx hb dX9_gave_78 rfl ?_
  exact wX9_gave_79 C  hf kc kx _ _ _ hw (lv_sub hl [0, 1, 2, 3, 4] rfl)
theorem wX9_gave_26 (C : sn_C p s m args meth c RX9 cX9_gave 5 (some .int) D ct ad layM A) {σ : sn_S} {x1 : Int32} {x2 : Int32} {x3 : Int32} {x4 : Int32}  {o : (Int32 × Int32) ⊕ (Int32)} (hf : BX9_gave_26 σ x1 x2 x3 x4 = some o) (kc : ∀ v, o = .inl v → sn_At p l e rmX9_gave s m args below meth c Q D ct ad layM A 5 σ 26 [(0, .ref (ad 0)), (1, .int x1), (2, .int x2), (3, .int v.1), (4, .int v.2)] []) (kx : ∀ v, o = .inr v → sn_At p l e rmX9_gave s m args below meth c Q D ct ad layM A 5 σ 87 [(3, .int v)] []) : sn_At p l e rmX9_gave s m args below meth c Q D ct ad layM A 5 σ 26 [(0, .ref (ad 0)), (1, .int x1), (2, .int x2), (3, .int x3), (4, .int x4)] [] := by
  intro H locs ls hw hl
  have hx := C.1
  have hb := C.2.1
  unfold BX9_gave_26 at hf
  refine lv_iload hx hb dX9_gave_26 (lv_at hl 4 rfl) ?_
  refine lv_aload_n hx hb dX9_gave_28 rfl (lv_at hl 0 rfl) ?_
  refine sn_getC (r := 1) C hw fd_RX9_9 layM_0 rfl dX9_gave_29 ?_
  refine lv_iconst (v := 5) hx hb dX9_gave_32 rfl ?_
  obtain ⟨g_1, hf⟩ := sn_gdE hf
  refine sn_iald C hw layM_1 g_1 dX9_gave_33 ?_
  refine lv_icmp_ge (tgt := 87) hx hb dX9_gave_34 (by decide) (fun c_2 => ?_) (fun c_2 => ?_)
  · have hf := sn_if c_2 hf
    cases hf
    exact kx _ rfl _ _ _ hw (lv_sub hl [3] rfl)
  · have hf := sn_el c_2 hf
    refine lv_iload_n hx hb dX9_gave_37 rfl (lv_at hl 2 rfl) ?_
    refine lv_if_le (tgt := 87) hx hb dX9_gave_38 (by decide) (fun c_3 => ?_) (fun c_3 => ?_)
    · have hf := sn_if c_3 hf
      cases hf
      exact kx _ rfl _ _ _ hw (lv_sub hl [3] rfl)
    · have hf := sn_el c_3 hf
      refine lv_iload_n hx hb dX9_gave_41 rfl (lv_at hl 3 rfl) ?_
      refine lv_aload_n hx hb dX9_gave_42 rfl (lv_at hl 0 rfl) ?_
      refine sn_getC (r := 11) C hw fd_RX9_46 layM_0 rfl dX9_gave_43 ?_
      refine lv_iload_n hx hb dX9_gave_46 rfl (lv_at hl 2 rfl) ?_
      refine lv_iconst (v := 1) hx hb dX9_gave_47 rfl ?_
      refine lv_isub hx hb dX9_gave_48 ?_
      obtain ⟨g_4, hf⟩ := sn_gdE hf
      refine sn_iald C hw layM_11 g_4 dX9_gave_49 ?_
      refine lv_iload hx hb dX9_gave_50 (lv_at hl 4 rfl) ?_
      obtain ⟨t_5, h_6, hf⟩ := sn_bd hf
      refine sn_callSi (rest := [.int x3]) C hw (ctX9_bit l  h_6) kl_RX9_254 rfl rfl rfl (Nat.le_of_ble_eq_true rfl) dX9_gave_52 hl.1 (fun H locs hw => ?_)
      refine lv_iconst (v := 1) hx hb dX9_gave_55 rfl ?_
      refine lv_icmp_ne (tgt := 78) hx hb dX9_gave_56 (by decide) (fun c_7 => ?_) (fun c_7 => ?_)
      · have hf := sn_el c_7 hf
        exact wX9_gave_78 C  hf kc kx _ _ _ hw (lv_sub hl [0, 1, 2, 3, 4] rfl)
      · have hf := sn_if c_7 hf
        refine lv_aload_n hx hb dX9_gave_59 rfl (lv_at hl 0 rfl) ?_
        refine lv_iload_n hx hb dX9_gave_60 rfl (lv_at hl 1 rfl) ?_
        refine lv_iconst (v := 1) hx hb dX9_gave_61 rfl ?_
        refine lv_iload hx hb dX9_gave_62 (lv_at hl 4 rfl) ?_
        refine lv_ishl hx hb dX9_gave_64 ?_
        obtain ⟨t_8, h_9, hf⟩ := sn_bd hf
        refine sn_callVi (rest := [.int x3]) C hw (ctX9_netsTo l  h_9) kl_RX9_257 layM_0 rfl rfl rfl rfl (Nat.le_of_ble_eq_true rfl) dX9_gave_65 hl.1 (fun H locs hw => ?_)
        refine lv_if_le (tgt := 78) hx hb dX9_gave_68 (by decide) (fun c_10 => ?_) (fun c_10 => ?_)
        · have hf := sn_if c_10 hf
          exact wX9_gave_78 C  hf kc kx _ _ _ hw (lv_sub hl [0, 1, 2, 3, 4] rfl)
        · have hf := sn_el c_10 hf
          refine lv_iconst (v := 1) hx hb dX9_gave_71 rfl ?_
          refine lv_iload hx hb dX9_gave_72 (lv_at hl 4 rfl) ?_
          refine lv_ishl hx hb dX9_gave_74 ?_
          refine lv_goto (tgt := 79) hx hb dX9_gave_75 (by decide) ?_
          exact wX9_gave_79 C  hf kc kx _ _ _ hw (lv_sub hl [0, 1, 2, 3, 4] rfl)
theorem wX9_gave_L26 (C : sn_C p s m args meth c RX9 cX9_gave 5 (some .int) D ct ad layM A) {σ : sn_S} {x1 : Int32} {x2 : Int32}   {z : Int32 × Int32} {t : Int32} (h : sn_it (LX9_gave_26 σ x1 x2) 5000 z = some t) (kx : ∀ v, t = v → sn_At p l e rmX9_gave s m args below meth c Q D ct ad layM A 5 σ 87 [(3, .int v)] []) : sn_At p l e rmX9_gave s m args below meth c Q D ct ad layM A 5 σ 26 [(0, .ref (ad 0)), (1, .int x1), (2, .int x2), (3, .int z.1), (4, .int z.2)] [] :=
  sn_loop (f := LX9_gave_26 σ x1 x2) (G := fun z => sn_At p l e rmX9_gave s m args below meth c Q D ct ad layM A 5 σ 26 [(0, .ref (ad 0)), (1, .int x1), (2, .int x2), (3, .int z.1), (4, .int z.2)] []) (E := fun t => (∀ v, t = v → sn_At p l e rmX9_gave s m args below meth c Q D ct ad layM A 5 σ 87 [(3, .int v)] []) ∧ True) (fun z o hf k1 k2 => wX9_gave_26 C  hf (fun v e => k1 v e) (fun v e => (k2 _ e).1 v rfl)) 5000 z t h ⟨kx, trivial⟩
theorem wX9_gave_in (C : sn_C p s m args meth c RX9 cX9_gave 5 (some .int) D ct ad layM A) {σ : sn_S} {x1 : Int32}  {o : (Int32 × sn_S)} (hf : fX9_gave σ x1 = some o) (kr : sn_Kr p l e rmX9_gave s m args below meth c Q D ct ad layM A cX9_gave .ireturn (true) o.2 [.int o.1]) : sn_At p l e rmX9_gave s m args below meth c Q D ct ad layM A 5 σ 0 [(0, .ref (ad 0)), (1, .int x1)] [] := by
  intro H locs ls hw hl
  have hx := C.1
  have hb := C.2.1
  unfold fX9_gave at hf
  refine lv_aload_n hx hb dX9_gave_0 rfl (lv_at hl 0 rfl) ?_
  refine lv_iload_n hx hb dX9_gave_1 rfl (lv_at hl 1 rfl) ?_
  obtain ⟨t_1, h_2, hf⟩ := sn_bd hf
  refine sn_callVi (rest := []) C hw (ctX9_asksPerson l  h_2) kl_RX9_284 layM_0 rfl rfl rfl rfl (Nat.le_of_ble_eq_true rfl) dX9_gave_2 hl.1 (fun H locs hw => ?_)
  refine lv_if_ne (tgt := 11) hx hb dX9_gave_5 (by decide) (fun c_3 => ?_) (fun c_3 => ?_)
  · have hf := sn_el c_3 hf
    refine lv_aload_n hx hb dX9_gave_11 rfl (lv_at hl 0 rfl) ?_
    refine sn_getC (r := 10) C hw fd_RX9_43 layM_0 rfl dX9_gave_12 ?_
    refine lv_iload_n hx hb dX9_gave_15 rfl (lv_at hl 1 rfl) ?_
    obtain ⟨g_4, hf⟩ := sn_gdE hf
    refine sn_iald C hw layM_10 g_4 dX9_gave_16 ?_
    obtain ⟨t_5, h_6, hf⟩ := sn_bd hf
    refine sn_callSi (rest := []) C hw (ctX9_firstOf l  h_6) kl_RX9_287 rfl rfl rfl (Nat.le_of_ble_eq_true rfl) dX9_gave_17 hl.1 (fun H locs hw => ?_)
    refine lv_istore_n (lv' := [(2, .int t_5), (0, .ref (ad 0)), (1, .int x1)]) hx hb dX9_gave_20 rfl hl (by decide) rfl (fun ls hl => ?_)
    refine lv_iconst (v := 0) hx hb dX9_gave_21 rfl ?_
    refine lv_istore_n (lv' := [(3, .int (0 : Int32)), (2, .int t_5), (0, .ref (ad 0)), (1, .int x1)]) hx hb dX9_gave_22 rfl hl (by decide) rfl (fun ls hl => ?_)
    refine lv_iconst (v := 0) hx hb dX9_gave_23 rfl ?_
    refine lv_istore (lv' := [(4, .int (0 : Int32)), (3, .int (0 : Int32)), (2, .int t_5), (0, .ref (ad 0)), (1, .int x1)]) hx hb dX9_gave_24 hl (by decide) rfl (fun ls hl => ?_)
    obtain ⟨t_7, h_8, hf⟩ := sn_bd hf
    exact wX9_gave_L26 C  h_8 (fun v e => by cases e; exact wX9_gave_87 C  hf kr) _ _ _ hw (lv_sub hl [3, 4, 2, 1, 0] rfl)
  · have hf := sn_if c_3 hf
    refine lv_bipush (v := (-2)) hx hb dX9_gave_8 (by decide) ?_
    cases hf
    exact kr _ _ _ _ hw rfl dX9_gave_10
theorem ctX9_gave (l : Launch) {σ : sn_S} {x1 : Int32}  {o : (Int32 × sn_S)} (hf : fX9_gave σ x1 = some o) : sn_M l yX9_gave cX9_gave 5 (some .int) rmX9_gave layM (fun ad => [.ref (ad 0), .int x1]) σ (some (fun _ => .int o.1)) o.2 :=
  sn_met (by decide) (fun _ => Nat.le_of_ble_eq_true rfl) (fun p e s m args below meth c ls D ct ad A C hw hl => wX9_gave_in C  hf (fun H locs ls pc hw ok hd => sn_iret C hw hd) _ _ _ hw hl)
-- X9_worst
abbrev rmX9_worst : Room := { frames := 5, cells := 0, slots := 0, locals := 115 }
def BX9_worst_60 (σ : sn_S) (x1 : Int32) : Option ((Int32 × sn_S)) :=
  (some (x1, σ))
def BX9_worst_54 (σ : sn_S) (x1 : Int32) (x2 : Int32) (x3 : Int32) : Option ((Int32 × Int32 × Int32) ⊕ (Int32)) :=
  (sn_lt (x3 + 1) fun y_1 => (some (.inl (x1, x2, y_1))))
def BX9_worst_16 (σ : sn_S) (x1 : Int32) (x2 : Int32) (x3 : Int32) : Option ((Int32 × Int32 × Int32) ⊕ (Int32)) :=
  (sn_gd (sn_in (5 : Int32) 119) (if (sn_I σ 1 (5 : Int32).toNatClampNeg) ≤ x3 then
  (some (.inr (x1)))
  else
  (sn_gd (sn_in x3 6) ((fX9_bits (sn_I σ 10 x3.toNatClampNeg)).bind fun t_4 => (if x2 < t_4 then
  (sn_gd (sn_in x3 6) ((fX9_bits (sn_I σ 10 x3.toNatClampNeg)).bind fun t_8 => (BX9_worst_54 σ x3 t_8 x3)))
  else
  (BX9_worst_54 σ x1 x2 x3))))))
def LX9_worst_16 (σ : sn_S) (s : Int32 × Int32 × Int32) : Option ((Int32 × Int32 × Int32) ⊕ (Int32)) := BX9_worst_16 σ s.1 s.2.1 s.2.2
def fX9_worst (σ : sn_S) : Option (Int32 × sn_S) :=
  ((fX9_asksHouse σ).bind fun t_1 => (if t_1.1 = 0 then
  (some ((-2 : Int32), t_1.2))
  else
  ((sn_it (LX9_worst_16 t_1.2) 5000 ((-1 : Int32), (0 : Int32), (0 : Int32))).bind fun t_4 => (BX9_worst_60 t_1.2 t_4))))
theorem wX9_worst_60 (C : sn_C p s m args meth c RX9 cX9_worst 4 (some .int) D ct ad layM A) {σ : sn_S} {x1 : Int32}  {o : (Int32 × sn_S)} (hf : BX9_worst_60 σ x1 = some o) (kr : sn_Kr p l e rmX9_worst s m args below meth c Q D ct ad layM A cX9_worst .ireturn (true) o.2 [.int o.1]) : sn_At p l e rmX9_worst s m args below meth c Q D ct ad layM A 4 σ 60 [(1, .int x1)] [] := by
  intro H locs ls hw hl
  have hx := C.1
  have hb := C.2.1
  unfold BX9_worst_60 at hf
  refine lv_iload_n hx hb dX9_worst_60 rfl (lv_at hl 0 rfl) ?_
  cases hf
  exact kr _ _ _ _ hw rfl dX9_worst_61
theorem wX9_worst_54 (C : sn_C p s m args meth c RX9 cX9_worst 4 (some .int) D ct ad layM A) {σ : sn_S} {x1 : Int32} {x2 : Int32} {x3 : Int32}  {o : (Int32 × Int32 × Int32) ⊕ (Int32)} (hf : BX9_worst_54 σ x1 x2 x3 = some o) (kc : ∀ v, o = .inl v → sn_At p l e rmX9_worst s m args below meth c Q D ct ad layM A 4 σ 16 [(0, .ref (ad 0)), (1, .int v.1), (2, .int v.2.1), (3, .int v.2.2)] []) (kx : ∀ v, o = .inr v → sn_At p l e rmX9_worst s m args below meth c Q D ct ad layM A 4 σ 60 [(1, .int v)] []) : sn_At p l e rmX9_worst s m args below meth c Q D ct ad layM A 4 σ 54 [(0, .ref (ad 0)), (1, .int x1), (2, .int x2), (3, .int x3)] [] := by
  intro H locs ls hw hl
  have hx := C.1
  have hb := C.2.1
  unfold BX9_worst_54 at hf
  obtain ⟨y_1, e_2, hf⟩ := sn_ltE hf
  refine lv_iinc (v := y_1) (lv' := [(3, .int y_1), (0, .ref (ad 0)), (1, .int x1), (2, .int x2)]) hx hb dX9_worst_54 hl (k := 3) rfl (by rw [e_2]; rfl) (by decide) rfl (fun ls hl => ?_)
  refine lv_goto (tgt := 16) hx hb dX9_worst_57 (by decide) ?_
  cases hf
  exact kc _ rfl _ _ _ hw (lv_sub hl [1, 2, 3, 0] rfl)
theorem wX9_worst_16 (C : sn_C p s m args meth c RX9 cX9_worst 4 (some .int) D ct ad layM A) {σ : sn_S} {x1 : Int32} {x2 : Int32} {x3 : Int32}  {o : (Int32 × Int32 × Int32) ⊕ (Int32)} (hf : BX9_worst_16 σ x1 x2 x3 = some o) (kc : ∀ v, o = .inl v → sn_At p l e rmX9_worst s m args below meth c Q D ct ad layM A 4 σ 16 [(0, .ref (ad 0)), (1, .int v.1), (2, .int v.2.1), (3, .int v.2.2)] []) (kx : ∀ v, o = .inr v → sn_At p l e rmX9_worst s m args below meth c Q D ct ad layM A 4 σ 60 [(1, .int v)] []) : sn_At p l e rmX9_worst s m args below meth c Q D ct ad layM A 4 σ 16 [(0, .ref (ad 0)), (1, .int x1), (2, .int x2), (3, .int x3)] [] := by
  intro H locs ls hw hl
  have hx := C.1
  have hb := C.2.1
  unfold BX9_worst_16 at hf
  refine lv_iload_n hx hb dX9_worst_16 rfl (lv_at hl 3 rfl) ?_
  refine lv_aload_n hx hb dX9_worst_17 rfl (lv_at hl 0 rfl) ?_
  refine sn_getC (r := 1) C hw fd_RX9_9 layM_0 rfl dX9_worst_18 ?_
  refine lv_iconst (v := 5) hx hb dX9_worst_21 rfl ?_
  obtain ⟨g_1, hf⟩ := sn_gdE hf
  refine sn_iald C hw layM_1 g_1 dX9_worst_22 ?_
  refine lv_icmp_ge (tgt := 60) hx hb dX9_worst_23 (by decide) (fun c_2 => ?_) (fun c_2 => ?_)
  · have hf := sn_if c_2 hf
    cases hf
    exact kx _ rfl _ _ _ hw (lv_sub hl [1] rfl)
  · have hf := sn_el c_2 hf
    refine lv_aload_n hx hb dX9_worst_26 rfl (lv_at hl 0 rfl) ?_
    refine sn_getC (r := 10) C hw fd_RX9_43 layM_0 rfl dX9_worst_27 ?_
    refine lv_iload_n hx hb dX9_worst_30 rfl (lv_at hl 3 rfl) ?_
    obtain ⟨g_3, hf⟩ := sn_gdE hf
    refine sn_iald C hw layM_10 g_3 dX9_worst_31 ?_
    obtain ⟨t_4, h_5, hf⟩ := sn_bd hf
    refine sn_callSi (rest := []) C hw (ctX9_bits l  h_5) kl_RX9_278 rfl rfl rfl (Nat.le_of_ble_eq_true rfl) dX9_worst_32 hl.1 (fun H locs hw => ?_)
    refine lv_iload_n hx hb dX9_worst_35 rfl (lv_at hl 2 rfl) ?_
    refine lv_icmp_gt (tgt := 42) hx hb dX9_worst_36 (by decide) (fun c_6 => ?_) (fun c_6 => ?_)
    · have hf := sn_if c_6 hf
      refine lv_aload_n hx hb dX9_worst_42 rfl (lv_at hl 0 rfl) ?_
      refine sn_getC (r := 10) C hw fd_RX9_43 layM_0 rfl dX9_worst_43 ?_
      refine lv_iload_n hx hb dX9_worst_46 rfl (lv_at hl 3 rfl) ?_
      obtain ⟨g_7, hf⟩ := sn_gdE hf
      refine sn_iald C hw layM_10 g_7 dX9_worst_47 ?_
      obtain ⟨t_8, h_9, hf⟩ := sn_bd hf
      refine sn_callSi (rest := []) C hw (ctX9_bits l  h_9) kl_RX9_278 rfl rfl rfl (Nat.le_of_ble_eq_true rfl) dX9_worst_48 hl.1 (fun H locs hw => ?_)
      refine lv_istore_n (lv' := [(2, .int t_8), (0, .ref (ad 0)), (1, .int x1), (3, .int x3)]) hx hb dX9_worst_51 rfl hl (by decide) rfl (fun ls hl => ?_)
      refine lv_iload_n hx hb dX9_worst_52 rfl (lv_at hl 3 rfl) ?_
      refine lv_istore_n (lv' := [(1, .int x3), (2, .int t_8), (0, .ref (ad 0)), (3, .int x3)]) hx hb dX9_worst_53 rfl hl (by decide) rfl (fun ls hl => ?_)
      exact wX9_worst_54 C  hf kc kx _ _ _ hw (lv_sub hl [2, 0, 1, 3] rfl)
    · have hf := sn_el c_6 hf
      refine lv_goto (tgt := 54) hx hb dX9_worst_39 (by decide) ?_
      exact wX9_worst_54 C  hf kc kx _ _ _ hw (lv_sub hl [0, 1, 2, 3] rfl)
theorem wX9_worst_L16 (C : sn_C p s m args meth c RX9 cX9_worst 4 (some .int) D ct ad layM A) {σ : sn_S}   {z : Int32 × Int32 × Int32} {t : Int32} (h : sn_it (LX9_worst_16 σ) 5000 z = some t) (kx : ∀ v, t = v → sn_At p l e rmX9_worst s m args below meth c Q D ct ad layM A 4 σ 60 [(1, .int v)] []) : sn_At p l e rmX9_worst s m args below meth c Q D ct ad layM A 4 σ 16 [(0, .ref (ad 0)), (1, .int z.1), (2, .int z.2.1), (3, .int z.2.2)] [] :=
  sn_loop (f := LX9_worst_16 σ) (G := fun z => sn_At p l e rmX9_worst s m args below meth c Q D ct ad layM A 4 σ 16 [(0, .ref (ad 0)), (1, .int z.1), (2, .int z.2.1), (3, .int z.2.2)] []) (E := fun t => (∀ v, t = v → sn_At p l e rmX9_worst s m args below meth c Q D ct ad layM A 4 σ 60 [(1, .int v)] []) ∧ True) (fun z o hf k1 k2 => wX9_worst_16 C  hf (fun v e => k1 v e) (fun v e => (k2 _ e).1 v rfl)) 5000 z t h ⟨kx, trivial⟩
theorem wX9_worst_in (C : sn_C p s m args meth c RX9 cX9_worst 4 (some .int) D ct ad layM A) {σ : sn_S}  {o : (Int32 × sn_S)} (hf : fX9_worst σ = some o) (kr : sn_Kr p l e rmX9_worst s m args below meth c Q D ct ad layM A cX9_worst .ireturn (true) o.2 [.int o.1]) : sn_At p l e rmX9_worst s m args below meth c Q D ct ad layM A 4 σ 0 [(0, .ref (ad 0))] [] := by
  intro H locs ls hw hl
  have hx := C.1
  have hb := C.2.1
  unfold fX9_worst at hf
  refine lv_aload_n hx hb dX9_worst_0 rfl (lv_at hl 0 rfl) ?_
  obtain ⟨t_1, h_2, hf⟩ := sn_bd hf
  refine sn_callVi (rest := []) C hw (ctX9_asksHouse l  h_2) kl_RX9_272 layM_0 rfl rfl rfl rfl (Nat.le_of_ble_eq_true rfl) dX9_worst_1 hl.1 (fun H locs hw => ?_)
  refine lv_if_ne (tgt := 10) hx hb dX9_worst_4 (by decide) (fun c_3 => ?_) (fun c_3 => ?_)
  · have hf := sn_el c_3 hf
    refine lv_iconst (v := (-1)) hx hb dX9_worst_10 rfl ?_
    refine lv_istore_n (lv' := [(1, .int (-1 : Int32)), (0, .ref (ad 0))]) hx hb dX9_worst_11 rfl hl (by decide) rfl (fun ls hl => ?_)
    refine lv_iconst (v := 0) hx hb dX9_worst_12 rfl ?_
    refine lv_istore_n (lv' := [(2, .int (0 : Int32)), (1, .int (-1 : Int32)), (0, .ref (ad 0))]) hx hb dX9_worst_13 rfl hl (by decide) rfl (fun ls hl => ?_)
    refine lv_iconst (v := 0) hx hb dX9_worst_14 rfl ?_
    refine lv_istore_n (lv' := [(3, .int (0 : Int32)), (2, .int (0 : Int32)), (1, .int (-1 : Int32)), (0, .ref (ad 0))]) hx hb dX9_worst_15 rfl hl (by decide) rfl (fun ls hl => ?_)
    obtain ⟨t_4, h_5, hf⟩ := sn_bd hf
    exact wX9_worst_L16 C  h_5 (fun v e => by cases e; exact wX9_worst_60 C  hf kr) _ _ _ hw (lv_sub hl [3, 2, 1, 0] rfl)
  · have hf := sn_if c_3 hf
    refine lv_bipush (v := (-2)) hx hb dX9_worst_7 (by decide) ?_
    cases hf
    exact kr _ _ _ _ hw rfl dX9_worst_9
theorem ctX9_worst (l : Launch) {σ : sn_S}  {o : (Int32 × sn_S)} (hf : fX9_worst σ = some o) : sn_M l yX9_worst cX9_worst 4 (some .int) rmX9_worst layM (fun ad => [.ref (ad 0)]) σ (some (fun _ => .int o.1)) o.2 :=
  sn_met (by decide) (fun _ => Nat.le_of_ble_eq_true rfl) (fun p e s m args below meth c ls D ct ad A C hw hl => wX9_worst_in C  hf (fun H locs ls pc hw ok hd => sn_iret C hw hd) _ _ _ hw hl)
end
end
section
section
variable {p : Program} {l : Launch} {e : Env} {s : State} {m : MethodId} {args : Array Value} {below : List Frame} {meth : Method} {c : Code} {Q : State → Prop} {D : va_G} {ct : Nat → ClassId} {ad : Nat → Nat} {A : Nat → Prop} {lay : List sn_E}
-- X9_chorus
abbrev rmX9_chorus : Room := { frames := 5, cells := 0, slots := 0, locals := 115 }
def BX9_chorus_42 (σ : sn_S) (x1 : Int32) : Option ((Int32 × sn_S)) :=
  (some (x1, σ))
def BX9_chorus_14 (σ : sn_S) (x1 : Int32) (x2 : Int32) : Option ((Int32 × Int32) ⊕ (Int32)) :=
  ((fX9_minutes σ).bind fun t_1 => (if t_1 ≤ x2 then
  (some (.inr (x1)))
  else
  (sn_gd (sn_in x2 30) ((fX9_bits (sn_I σ 11 x2.toNatClampNeg)).bind fun t_5 => (sn_lt (if x1 < t_5 then t_5 else x1) fun y_7 => (sn_lt (x2 + 1) fun y_9 => (some (.inl (y_7, y_9)))))))))
def LX9_chorus_14 (σ : sn_S) (s : Int32 × Int32) : Option ((Int32 × Int32) ⊕ (Int32)) := BX9_chorus_14 σ s.1 s.2
def fX9_chorus (σ : sn_S) : Option (Int32 × sn_S) :=
  ((fX9_asksHouse σ).bind fun t_1 => (if t_1.1 = 0 then
  (some ((-2 : Int32), t_1.2))
  else
  ((sn_it (LX9_chorus_14 t_1.2) 5000 ((0 : Int32), (0 : Int32))).bind fun t_4 => (BX9_chorus_42 t_1.2 t_4))))
theorem wX9_chorus_42 (C : sn_C p s m args meth c RX9 cX9_chorus 3 (some .int) D ct ad layM A) {σ : sn_S} {x1 : Int32}  {o : (Int32 × sn_S)} (hf : BX9_chorus_42 σ x1 = some o) (kr : sn_Kr p l e rmX9_chorus s m args below meth c Q D ct ad layM A cX9_chorus .ireturn (true) o.2 [.int o.1]) : sn_At p l e rmX9_chorus s m args below meth c Q D ct ad layM A 3 σ 42 [(1, .int x1)] [] := by
  intro H locs ls hw hl
  have hx := C.1
  have hb := C.2.1
  unfold BX9_chorus_42 at hf
  refine lv_iload_n hx hb dX9_chorus_42 rfl (lv_at hl 0 rfl) ?_
  cases hf
  exact kr _ _ _ _ hw rfl dX9_chorus_43
theorem wX9_chorus_14 (C : sn_C p s m args meth c RX9 cX9_chorus 3 (some .int) D ct ad layM A) {σ : sn_S} {x1 : Int32} {x2 : Int32}  {o : (Int32 × Int32) ⊕ (Int32)} (hf : BX9_chorus_14 σ x1 x2 = some o) (kc : ∀ v, o = .inl v → sn_At p l e rmX9_chorus s m args below meth c Q D ct ad layM A 3 σ 14 [(0, .ref (ad 0)), (1, .int v.1), (2, .int v.2)] []) (kx : ∀ v, o = .inr v → sn_At p l e rmX9_chorus s m args below meth c Q D ct ad layM A 3 σ 42 [(1, .int v)] []) : sn_At p l e rmX9_chorus s m args below meth c Q D ct ad layM A 3 σ 14 [(0, .ref (ad 0)), (1, .int x1), (2, .int x2)] [] := by
  intro H locs ls hw hl
  have hx := C.1
  have hb := C.2.1
  unfold BX9_chorus_14 at hf
  refine lv_iload_n hx hb dX9_chorus_14 rfl (lv_at hl 2 rfl) ?_
  refine lv_aload_n hx hb dX9_chorus_15 rfl (lv_at hl 0 rfl) ?_
  obtain ⟨t_1, h_2, hf⟩ := sn_bd hf
  refine sn_callVi (rest := [.int x2]) C hw (ctX9_minutes l  h_2) kl_RX9_249 layM_0 rfl rfl rfl rfl (Nat.le_of_ble_eq_true rfl) dX9_chorus_16 hl.1 (fun H locs hw => ?_)
  refine lv_icmp_ge (tgt := 42) hx hb dX9_chorus_19 (by decide) (fun c_3 => ?_) (fun c_3 => ?_)
  · have hf := sn_if c_3 hf
    cases hf
    exact kx _ rfl _ _ _ hw (lv_sub hl [1] rfl)
  · have hf := sn_el c_3 hf
    refine lv_iload_n hx hb dX9_chorus_22 rfl (lv_at hl 1 rfl) ?_
    refine lv_aload_n hx hb dX9_chorus_23 rfl (lv_at hl 0 rfl) ?_
    refine sn_getC (r := 11) C hw fd_RX9_46 layM_0 rfl dX9_chorus_24 ?_
    refine lv_iload_n hx hb dX9_chorus_27 rfl (lv_at hl 2 rfl) ?_
    obtain ⟨g_4, hf⟩ := sn_gdE hf
    refine sn_iald C hw layM_11 g_4 dX9_chorus_28 ?_
    obtain ⟨t_5, h_6, hf⟩ := sn_bd hf
    refine sn_callSi (rest := [.int x1]) C hw (ctX9_bits l  h_6) kl_RX9_278 rfl rfl rfl (Nat.le_of_ble_eq_true rfl) dX9_chorus_29 hl.1 (fun H locs hw => ?_)
    refine va_mmax hx hb (C.2.2.1.trans hl.1.symm) C.2.2.2.1 (C.2.2.2.2.1 _ km_RX9_293) (C.2.2.2.2.1 _ kst_maxI) (C.2.2.2.2.1 _ ki_Math) (C.2.2.2.2.1 _ kc_maxI) (Nat.le_of_ble_eq_true rfl) (Nat.le_of_ble_eq_true rfl) (Nat.zero_le _) (Nat.zero_le _) dX9_chorus_32 ?_
    obtain ⟨y_7, e_8, hf⟩ := sn_ltE hf
    refine lv_topi (fun y_7_ e_8_ => ?_)
    obtain rfl : y_7 = y_7_ := e_8.trans e_8_.symm
    refine lv_istore_n (lv' := [(1, .int y_7), (0, .ref (ad 0)), (2, .int x2)]) hx hb dX9_chorus_35 rfl hl (by decide) rfl (fun ls hl => ?_)
    obtain ⟨y_9, e_10, hf⟩ := sn_ltE hf
    refine lv_iinc (v := y_9) (lv' := [(2, .int y_9), (1, .int y_7), (0, .ref (ad 0))]) hx hb dX9_chorus_36 hl (k := 2) rfl (by rw [e_10]; rfl) (by decide) rfl (fun ls hl => ?_)
    refine lv_goto (tgt := 14) hx hb dX9_chorus_39 (by decide) ?_
    cases hf
    exact kc _ rfl _ _ _ hw (lv_sub hl [2, 1, 0] rfl)
theorem wX9_chorus_L14 (C : sn_C p s m args meth c RX9 cX9_chorus 3 (some .int) D ct ad layM A) {σ : sn_S}   {z : Int32 × Int32} {t : Int32} (h : sn_it (LX9_chorus_14 σ) 5000 z = some t) (kx : ∀ v, t = v → sn_At p l e rmX9_chorus s m args below meth c Q D ct ad layM A 3 σ 42 [(1, .int v)] []) : sn_At p l e rmX9_chorus s m args below meth c Q D ct ad layM A 3 σ 14 [(0, .ref (ad 0)), (1, .int z.1), (2, .int z.2)] [] :=
  sn_loop (f := LX9_chorus_14 σ) (G := fun z => sn_At p l e rmX9_chorus s m args below meth c Q D ct ad layM A 3 σ 14 [(0, .ref (ad 0)), (1, .int z.1), (2, .int z.2)] []) (E := fun t => (∀ v, t = v → sn_At p l e rmX9_chorus s m args below meth c Q D ct ad layM A 3 σ 42 [(1, .int v)] []) ∧ True) (fun z o hf k1 k2 => wX9_chorus_14 C  hf (fun v e => k1 v e) (fun v e => (k2 _ e).1 v rfl)) 5000 z t h ⟨kx, trivial⟩
theorem wX9_chorus_in (C : sn_C p s m args meth c RX9 cX9_chorus 3 (some .int) D ct ad layM A) {σ : sn_S}  {o : (Int32 × sn_S)} (hf : fX9_chorus σ = some o) (kr : sn_Kr p l e rmX9_chorus s m args below meth c Q D ct ad layM A cX9_chorus .ireturn (true) o.2 [.int o.1]) : sn_At p l e rmX9_chorus s m args below meth c Q D ct ad layM A 3 σ 0 [(0, .ref (ad 0))] [] := by
  intro H locs ls hw hl
  have hx := C.1
  have hb := C.2.1
  unfold fX9_chorus at hf
  refine lv_aload_n hx hb dX9_chorus_0 rfl (lv_at hl 0 rfl) ?_
  obtain ⟨t_1, h_2, hf⟩ := sn_bd hf
  refine sn_callVi (rest := []) C hw (ctX9_asksHouse l  h_2) kl_RX9_272 layM_0 rfl rfl rfl rfl (Nat.le_of_ble_eq_true rfl) dX9_chorus_1 hl.1 (fun H locs hw => ?_)
  refine lv_if_ne (tgt := 10) hx hb dX9_chorus_4 (by decide) (fun c_3 => ?_) (fun c_3 => ?_)
  · have hf := sn_el c_3 hf
    refine lv_iconst (v := 0) hx hb dX9_chorus_10 rfl ?_
    refine lv_istore_n (lv' := [(1, .int (0 : Int32)), (0, .ref (ad 0))]) hx hb dX9_chorus_11 rfl hl (by decide) rfl (fun ls hl => ?_)
    refine lv_iconst (v := 0) hx hb dX9_chorus_12 rfl ?_
    refine lv_istore_n (lv' := [(2, .int (0 : Int32)), (1, .int (0 : Int32)), (0, .ref (ad 0))]) hx hb dX9_chorus_13 rfl hl (by decide) rfl (fun ls hl => ?_)
    obtain ⟨t_4, h_5, hf⟩ := sn_bd hf
    exact wX9_chorus_L14 C  h_5 (fun v e => by cases e; exact wX9_chorus_42 C  hf kr) _ _ _ hw (lv_sub hl [2, 1, 0] rfl)
  · have hf := sn_if c_3 hf
    refine lv_bipush (v := (-2)) hx hb dX9_chorus_7 (by decide) ?_
    cases hf
    exact kr _ _ _ _ hw rfl dX9_chorus_9
theorem ctX9_chorus (l : Launch) {σ : sn_S}  {o : (Int32 × sn_S)} (hf : fX9_chorus σ = some o) : sn_M l yX9_chorus cX9_chorus 3 (some .int) rmX9_chorus layM (fun ad => [.ref (ad 0)]) σ (some (fun _ => .int o.1)) o.2 :=
  sn_met (by decide) (fun _ => Nat.le_of_ble_eq_true rfl) (fun p e s m args below meth c ls D ct ad A C hw hl => wX9_chorus_in C  hf (fun H locs ls pc hw ok hd => sn_iret C hw hd) _ _ _ hw hl)
-- X9_calm
abbrev rmX9_calm : Room := { frames := 5, cells := 0, slots := 0, locals := 115 }
def BX9_calm_53 (σ : sn_S) (x1 : Int32) : Option ((Int32 × sn_S)) :=
  (some (x1, σ))
def BX9_calm_40 (σ : sn_S) (x1 : Int32) (x2 : Int32) (x3 : Int32) (t0 : Int32) : Option ((Int32 × Int32 × Int32) ⊕ (Int32)) :=
  (sn_lt (if x1 < t0 then t0 else x1) fun y_1 => (sn_lt (x3 + 1) fun y_3 => (some (.inl (y_1, t0, y_3)))))
def BX9_calm_16 (σ : sn_S) (x1 : Int32) (x2 : Int32) (x3 : Int32) : Option ((Int32 × Int32 × Int32) ⊕ (Int32)) :=
  ((fX9_minutes σ).bind fun t_1 => (if t_1 ≤ x3 then
  (some (.inr (x1)))
  else
  (sn_gd (sn_in x3 30) (if (sn_I σ 11 x3.toNatClampNeg) = 0 then
  (BX9_calm_40 σ x1 x2 x3 (x2 + (1 : Int32)))
  else
  (BX9_calm_40 σ x1 x2 x3 (0 : Int32))))))
def LX9_calm_16 (σ : sn_S) (s : Int32 × Int32 × Int32) : Option ((Int32 × Int32 × Int32) ⊕ (Int32)) := BX9_calm_16 σ s.1 s.2.1 s.2.2
def fX9_calm (σ : sn_S) : Option (Int32 × sn_S) :=
  ((fX9_asksHouse σ).bind fun t_1 => (if t_1.1 = 0 then
  (some ((-2 : Int32), t_1.2))
  else
  ((sn_it (LX9_calm_16 t_1.2) 5000 ((0 : Int32), (0 : Int32), (0 : Int32))).bind fun t_4 => (BX9_calm_53 t_1.2 t_4))))
theorem wX9_calm_53 (C : sn_C p s m args meth c RX9 cX9_calm 4 (some .int) D ct ad layM A) {σ : sn_S} {x1 : Int32}  {o : (Int32 × sn_S)} (hf : BX9_calm_53 σ x1 = some o) (kr : sn_Kr p l e rmX9_calm s m args below meth c Q D ct ad layM A cX9_calm .ireturn (true) o.2 [.int o.1]) : sn_At p l e rmX9_calm s m args below meth c Q D ct ad layM A 4 σ 53 [(1, .int x1)] [] := by
  intro H locs ls hw hl
  have hx := C.1
  have hb := C.2.1
  unfold BX9_calm_53 at hf
  refine lv_iload_n hx hb dX9_calm_53 rfl (lv_at hl 0 rfl) ?_
  cases hf
  exact kr _ _ _ _ hw rfl dX9_calm_54
theorem wX9_calm_40 (C : sn_C p s m args meth c RX9 cX9_calm 4 (some .int) D ct ad layM A) {σ : sn_S} {x1 : Int32} {x2 : Int32} {x3 : Int32} {t0 : Int32}  {o : (Int32 × Int32 × Int32) ⊕ (Int32)} (hf : BX9_calm_40 σ x1 x2 x3 t0 = some o) (kc : ∀ v, o = .inl v → sn_At p l e rmX9_calm s m args below meth c Q D ct ad layM A 4 σ 16 [(0, .ref (ad 0)), (1, .int v.1), (2, .int v.2.1), (3, .int v.2.2)] []) (kx : ∀ v, o = .inr v → sn_At p l e rmX9_calm s m args below meth c Q D ct ad layM A 4 σ 53 [(1, .int v)] []) : sn_At p l e rmX9_calm s m args below meth c Q D ct ad layM A 4 σ 40 [(0, .ref (ad 0)), (1, .int x1), (2, .int x2), (3, .int x3)] [.int t0] := by
  intro H locs ls hw hl
  have hx := C.1
  have hb := C.2.1
  unfold BX9_calm_40 at hf
  refine lv_istore_n (lv' := [(2, .int t0), (0, .ref (ad 0)), (1, .int x1), (3, .int x3)]) hx hb dX9_calm_40 rfl hl (by decide) rfl (fun ls hl => ?_)
  refine lv_iload_n hx hb dX9_calm_41 rfl (lv_at hl 2 rfl) ?_
  refine lv_iload_n hx hb dX9_calm_42 rfl (lv_at hl 0 rfl) ?_
  refine va_mmax hx hb (C.2.2.1.trans hl.1.symm) C.2.2.2.1 (C.2.2.2.2.1 _ km_RX9_293) (C.2.2.2.2.1 _ kst_maxI) (C.2.2.2.2.1 _ ki_Math) (C.2.2.2.2.1 _ kc_maxI) (Nat.le_of_ble_eq_true rfl) (Nat.le_of_ble_eq_true rfl) (Nat.zero_le _) (Nat.zero_le _) dX9_calm_43 ?_
  obtain ⟨y_1, e_2, hf⟩ := sn_ltE hf
  refine lv_topi (fun y_1_ e_2_ => ?_)
  obtain rfl : y_1 = y_1_ := e_2.trans e_2_.symm
  refine lv_istore_n (lv' := [(1, .int y_1), (2, .int t0), (0, .ref (ad 0)), (3, .int x3)]) hx hb dX9_calm_46 rfl hl (by decide) rfl (fun ls hl => ?_)
  obtain ⟨y_3, e_4, hf⟩ := sn_ltE hf
  refine lv_iinc (v := y_3) (lv' := [(3, .int y_3), (1, .int y_1), (2, .int t0), (0, .ref (ad 0))]) hx hb dX9_calm_47 hl (k := 3) rfl (by rw [e_4]; rfl) (by decide) rfl (fun ls hl => ?_)
  refine lv_goto (tgt := 16) hx hb dX9_calm_50 (by decide) ?_
  cases hf
  exact kc _ rfl _ _ _ hw (lv_sub hl [3, 1, 2, 0] rfl)
theorem wX9_calm_16 (C : sn_C p s m args meth c RX9 cX9_calm 4 (some .int) D ct ad layM A) {σ : sn_S} {x1 : Int32} {x2 : Int32} {x3 : Int32}  {o : (Int32 × Int32 × Int32) ⊕ (Int32)} (hf : BX9_calm_16 σ x1 x2 x3 = some o) (kc : ∀ v, o = .inl v → sn_At p l e rmX9_calm s m args below meth c Q D ct ad layM A 4 σ 16 [(0, .ref (ad 0)), (1, .int v.1), (2, .int v.2.1), (3, .int v.2.2)] []) (kx : ∀ v, o = .inr v → sn_At p l e rmX9_calm s m args below meth c Q D ct ad layM A 4 σ 53 [(1, .int v)] []) : sn_At p l e rmX9_calm s m args below meth c Q D ct ad layM A 4 σ 16 [(0, .ref (ad 0)), (1, .int x1), (2, .int x2), (3, .int x3)] [] := by
  intro H locs ls hw hl
  have hx := C.1
  have hb := C.2.1
  unfold BX9_calm_16 at hf
  refine lv_iload_n hx hb dX9_calm_16 rfl (lv_at hl 3 rfl) ?_
  refine lv_aload_n hx hb dX9_calm_17 rfl (lv_at hl 0 rfl) ?_
  obtain ⟨t_1, h_2, hf⟩ := sn_bd hf
  refine sn_callVi (rest := [.int x3]) C hw (ctX9_minutes l  h_2) kl_RX9_249 layM_0 rfl rfl rfl rfl (Nat.le_of_ble_eq_true rfl) dX9_calm_18 hl.1 (fun H locs hw => ?_)
  refine lv_icmp_ge (tgt := 53) hx hb dX9_calm_21 (by decide) (fun c_3 => ?_) (fun c_3 => ?_)
  · have hf := sn_if c_3 hf
    cases hf
    exact kx _ rfl _ _ _ hw (lv_sub hl [1] rfl)
  · have hf := sn_el c_3 hf
    refine lv_aload_n hx hb dX9_calm_24 rfl (lv_at hl 0 rfl) ?_
    refine sn_getC (r := 11) C hw fd_RX9_46 layM_0 rfl dX9_calm_25 ?_
    refine lv_iload_n hx hb dX9_calm_28 rfl (lv_at hl 3 rfl) ?_
    obtain ⟨g_4, hf⟩ := sn_gdE hf
    refine sn_iald C hw layM_11 g_4 dX9_calm_29 ?_
    refine lv_if_ne (tgt := 39) hx hb dX9_calm_30 (by decide) (fun c_5 => ?_) (fun c_5 => ?_)
    · have hf := sn_el c_5 hf
      refine lv_iconst (v := 0) hx hb dX9_calm_39 rfl ?_
      exact wX9_calm_40 C  hf kc kx _ _ _ hw (lv_sub hl [0, 1, 2, 3] rfl)
    · have hf := sn_if c_5 hf
      refine lv_iload_n hx hb dX9_calm_33 rfl (lv_at hl 2 rfl) ?_
      refine lv_iconst (v := 1) hx hb dX9_calm_34 rfl ?_
      refine lv_iadd hx hb dX9_calm_35 ?_
      refine lv_goto (tgt := 40) hx hb dX9_calm_36 (by decide) ?_
      exact wX9_calm_40 C  hf kc kx _ _ _ hw (lv_sub hl [0, 1, 2, 3] rfl)
theorem wX9_calm_L16 (C : sn_C p s m args meth c RX9 cX9_calm 4 (some .int) D ct ad layM A) {σ : sn_S}   {z : Int32 × Int32 × Int32} {t : Int32} (h : sn_it (LX9_calm_16 σ) 5000 z = some t) (kx : ∀ v, t = v → sn_At p l e rmX9_calm s m args below meth c Q D ct ad layM A 4 σ 53 [(1, .int v)] []) : sn_At p l e rmX9_calm s m args below meth c Q D ct ad layM A 4 σ 16 [(0, .ref (ad 0)), (1, .int z.1), (2, .int z.2.1), (3, .int z.2.2)] [] :=
  sn_loop (f := LX9_calm_16 σ) (G := fun z => sn_At p l e rmX9_calm s m args below meth c Q D ct ad layM A 4 σ 16 [(0, .ref (ad 0)), (1, .int z.1), (2, .int z.2.1), (3, .int z.2.2)] []) (E := fun t => (∀ v, t = v → sn_At p l e rmX9_calm s m args below meth c Q D ct ad layM A 4 σ 53 [(1, .int v)] []) ∧ True) (fun z o hf k1 k2 => wX9_calm_16 C  hf (fun v e => k1 v e) (fun v e => (k2 _ e).1 v rfl)) 5000 z t h ⟨kx, trivial⟩
theorem wX9_calm_in (C : sn_C p s m args meth c RX9 cX9_calm 4 (some .int) D ct ad layM A) {σ : sn_S}  {o : (Int32 × sn_S)} (hf : fX9_calm σ = some o) (kr : sn_Kr p l e rmX9_calm s m args below meth c Q D ct ad layM A cX9_calm .ireturn (true) o.2 [.int o.1]) : sn_At p l e rmX9_calm s m args below meth c Q D ct ad layM A 4 σ 0 [(0, .ref (ad 0))] [] := by
  intro H locs ls hw hl
  have hx := C.1
  have hb := C.2.1
  unfold fX9_calm at hf
  refine lv_aload_n hx hb dX9_calm_0 rfl (lv_at hl 0 rfl) ?_
  obtain ⟨t_1, h_2, hf⟩ := sn_bd hf
  refine sn_callVi (rest := []) C hw (ctX9_asksHouse l  h_2) kl_RX9_272 layM_0 rfl rfl rfl rfl (Nat.le_of_ble_eq_true rfl) dX9_calm_1 hl.1 (fun H locs hw => ?_)
  refine lv_if_ne (tgt := 10) hx hb dX9_calm_4 (by decide) (fun c_3 => ?_) (fun c_3 => ?_)
  · have hf := sn_el c_3 hf
    refine lv_iconst (v := 0) hx hb dX9_calm_10 rfl ?_
    refine lv_istore_n (lv' := [(1, .int (0 : Int32)), (0, .ref (ad 0))]) hx hb dX9_calm_11 rfl hl (by decide) rfl (fun ls hl => ?_)
    refine lv_iconst (v := 0) hx hb dX9_calm_12 rfl ?_
    refine lv_istore_n (lv' := [(2, .int (0 : Int32)), (1, .int (0 : Int32)), (0, .ref (ad 0))]) hx hb dX9_calm_13 rfl hl (by decide) rfl (fun ls hl => ?_)
    refine lv_iconst (v := 0) hx hb dX9_calm_14 rfl ?_
    refine lv_istore_n (lv' := [(3, .int (0 : Int32)), (2, .int (0 : Int32)), (1, .int (0 : Int32)), (0, .ref (ad 0))]) hx hb dX9_calm_15 rfl hl (by decide) rfl (fun ls hl => ?_)
    obtain ⟨t_4, h_5, hf⟩ := sn_bd hf
    exact wX9_calm_L16 C  h_5 (fun v e => by cases e; exact wX9_calm_53 C  hf kr) _ _ _ hw (lv_sub hl [3, 2, 1, 0] rfl)
  · have hf := sn_if c_3 hf
    refine lv_bipush (v := (-2)) hx hb dX9_calm_7 (by decide) ?_
    cases hf
    exact kr _ _ _ _ hw rfl dX9_calm_9
theorem ctX9_calm (l : Launch) {σ : sn_S}  {o : (Int32 × sn_S)} (hf : fX9_calm σ = some o) : sn_M l yX9_calm cX9_calm 4 (some .int) rmX9_calm layM (fun ad => [.ref (ad 0)]) σ (some (fun _ => .int o.1)) o.2 :=
  sn_met (by decide) (fun _ => Nat.le_of_ble_eq_true rfl) (fun p e s m args below meth c ls D ct ad A C hw hl => wX9_calm_in C  hf (fun H locs ls pc hw ok hd => sn_iret C hw hd) _ _ _ hw hl)
-- X9_firstFrom
abbrev rmX9_firstFrom : Room := { frames := 1, cells := 0, slots := 0, locals := 21 }
def BX9_firstFrom_25  : Option (Int32) :=
  (some (-1 : Int32))
def BX9_firstFrom_2 (x0 : Int32) (x2 : Int32) : Option ((Int32) ⊕ ((Unit) ⊕ Int32)) :=
  (if (30 : Int32) ≤ x2 then
  (some (.inr (.inl ())))
  else
  ((fX9_bit x0 x2).bind fun t_2 => (if t_2 = (1 : Int32) then
  (some (.inr (.inr x2)))
  else
  (sn_lt (x2 + 1) fun y_5 => (some (.inl (y_5)))))))
def LX9_firstFrom_2 (x0 : Int32) (s : Int32) : Option ((Int32) ⊕ ((Unit) ⊕ Int32)) := BX9_firstFrom_2 x0 s
def fX9_firstFrom (x0 : Int32) (x1 : Int32) : Option Int32 :=
  ((sn_it (LX9_firstFrom_2 x0) 5000 (x1)).bind fun t_1 => Sum.elim (fun v_3 => (BX9_firstFrom_25 )) (fun r_4 => (some r_4)) t_1)
theorem wX9_firstFrom_25 (C : sn_C p s m args meth c RX9 cX9_firstFrom 3 (some .int) D ct ad layM A) {σ : sn_S}   {o : Int32} (hf : BX9_firstFrom_25  = some o) (kr : sn_Kr p l e rmX9_firstFrom s m args below meth c Q D ct ad layM A cX9_firstFrom .ireturn (true) σ [.int o]) : sn_At p l e rmX9_firstFrom s m args below meth c Q D ct ad layM A 3 σ 25 [] [] := by
  intro H locs ls hw hl
  have hx := C.1
  have hb := C.2.1
  unfold BX9_firstFrom_25 at hf
  refine lv_iconst (v := (-1)) hx hb dX9_firstFrom_25 rfl ?_
  cases hf
  exact kr _ _ _ _ hw rfl dX9_firstFrom_26
theorem wX9_firstFrom_2 (C : sn_C p s m args meth c RX9 cX9_firstFrom 3 (some .int) D ct ad layM A) {σ : sn_S} {x0 : Int32} {x2 : Int32}  {o : (Int32) ⊕ ((Unit) ⊕ Int32)} (hf : BX9_firstFrom_2 x0 x2 = some o) (kc : ∀ v, o = .inl v → sn_At p l e rmX9_firstFrom s m args below meth c Q D ct ad layM A 3 σ 2 [(0, .int x0), (2, .int v)] []) (kx : ∀ v, o = .inr (.inl v) → sn_At p l e rmX9_firstFrom s m args below meth c Q D ct ad layM A 3 σ 25 [] []) (kr : ∀ r, o = .inr (.inr r) → sn_Kr p l e rmX9_firstFrom s m args below meth c Q D ct ad layM A cX9_firstFrom .ireturn (true) σ [.int r]) : sn_At p l e rmX9_firstFrom s m args below meth c Q D ct ad layM A 3 σ 2 [(0, .int x0), (2, .int x2)] [] := by
  intro H locs ls hw hl
  have hx := C.1
  have hb := C.2.1
  unfold BX9_firstFrom_2 at hf
  refine lv_iload_n hx hb dX9_firstFrom_2 rfl (lv_at hl 1 rfl) ?_
  refine lv_bipush (v := 30) hx hb dX9_firstFrom_3 (by decide) ?_
  refine lv_icmp_ge (tgt := 25) hx hb dX9_firstFrom_5 (by decide) (fun c_1 => ?_) (fun c_1 => ?_)
  · have hf := sn_if c_1 hf
    cases hf
    exact kx _ rfl _ _ _ hw (lv_sub hl [] rfl)
  · have hf := sn_el c_1 hf
    refine lv_iload_n hx hb dX9_firstFrom_8 rfl (lv_at hl 0 rfl) ?_
    refine lv_iload_n hx hb dX9_firstFrom_9 rfl (lv_at hl 1 rfl) ?_
    obtain ⟨t_2, h_3, hf⟩ := sn_bd hf
    refine sn_callSi (rest := []) C hw (ctX9_bit l  h_3) kl_RX9_254 rfl rfl rfl (Nat.le_of_ble_eq_true rfl) dX9_firstFrom_10 hl.1 (fun H locs hw => ?_)
    refine lv_iconst (v := 1) hx hb dX9_firstFrom_13 rfl ?_
    refine lv_icmp_ne (tgt := 19) hx hb dX9_firstFrom_14 (by decide) (fun c_4 => ?_) (fun c_4 => ?_)
    · have hf := sn_el c_4 hf
      obtain ⟨y_5, e_6, hf⟩ := sn_ltE hf
      refine lv_iinc (v := y_5) (lv' := [(2, .int y_5), (0, .int x0)]) hx hb dX9_firstFrom_19 hl (k := 1) rfl (by rw [e_6]; rfl) (by decide) rfl (fun ls hl => ?_)
      refine lv_goto (tgt := 2) hx hb dX9_firstFrom_22 (by decide) ?_
      cases hf
      exact kc _ rfl _ _ _ hw (lv_sub hl [1, 0] rfl)
    · have hf := sn_if c_4 hf
      refine lv_iload_n hx hb dX9_firstFrom_17 rfl (lv_at hl 1 rfl) ?_
      cases hf
      exact kr _ rfl _ _ _ _ hw rfl dX9_firstFrom_18
theorem wX9_firstFrom_L2 (C : sn_C p s m args meth c RX9 cX9_firstFrom 3 (some .int) D ct ad layM A) {σ : sn_S} {x0 : Int32}   {z : Int32} {t : (Unit) ⊕ Int32} (h : sn_it (LX9_firstFrom_2 x0) 5000 z = some t) (kx : ∀ v, t = .inl v → sn_At p l e rmX9_firstFrom s m args below meth c Q D ct ad layM A 3 σ 25 [] []) (kr : ∀ r, t = .inr r → sn_Kr p l e rmX9_firstFrom s m args below meth c Q D ct ad layM A cX9_firstFrom .ireturn (true) σ [.int r]) : sn_At p l e rmX9_firstFrom s m args below meth c Q D ct ad layM A 3 σ 2 [(0, .int x0), (2, .int z)] [] :=
  sn_loop (f := LX9_firstFrom_2 x0) (G := fun z => sn_At p l e rmX9_firstFrom s m args below meth c Q D ct ad layM A 3 σ 2 [(0, .int x0), (2, .int z)] []) (E := fun t => (∀ v, t = .inl v → sn_At p l e rmX9_firstFrom s m args below meth c Q D ct ad layM A 3 σ 25 [] []) ∧ (∀ r, t = .inr r → sn_Kr p l e rmX9_firstFrom s m args below meth c Q D ct ad layM A cX9_firstFrom .ireturn (true) σ [.int r])) (fun z o hf k1 k2 => wX9_firstFrom_2 C  hf (fun v e => k1 v e) (fun v e => (k2 _ e).1 v rfl) (fun r e => (k2 _ e).2 r rfl)) 5000 z t h ⟨kx, kr⟩
theorem wX9_firstFrom_in (C : sn_C p s m args meth c RX9 cX9_firstFrom 3 (some .int) D ct ad layM A) {σ : sn_S} {x0 : Int32} {x1 : Int32}  {o : Int32} (hf : fX9_firstFrom x0 x1 = some o) (kr : sn_Kr p l e rmX9_firstFrom s m args below meth c Q D ct ad layM A cX9_firstFrom .ireturn (true) σ [.int o]) : sn_At p l e rmX9_firstFrom s m args below meth c Q D ct ad layM A 3 σ 0 [(0, .int x0), (1, .int x1)] [] := by
  intro H locs ls hw hl
  have hx := C.1
  have hb := C.2.1
  unfold fX9_firstFrom at hf
  refine lv_iload_n hx hb dX9_firstFrom_0 rfl (lv_at hl 1 rfl) ?_
  refine lv_istore_n (lv' := [(2, .int x1), (0, .int x0), (1, .int x1)]) hx hb dX9_firstFrom_1 rfl hl (by decide) rfl (fun ls hl => ?_)
  obtain ⟨t_1, h_2, hf⟩ := sn_bd hf
  rcases t_1 with v_3 | r_4
  · rw [Sum.elim_inl] at hf
    exact wX9_firstFrom_L2 C  h_2 (fun v e => by cases e; exact wX9_firstFrom_25 C  hf kr) (fun r e => by cases e) _ _ _ hw (lv_sub hl [1, 0] rfl)
  · rw [Sum.elim_inr] at hf
    cases hf
    exact wX9_firstFrom_L2 C  h_2 (fun v e => by cases e) (fun r e => by cases e; exact kr) _ _ _ hw (lv_sub hl [1, 0] rfl)
theorem ctX9_firstFrom (l : Launch) {σ : sn_S} {x0 : Int32} {x1 : Int32}  {o : Int32} (hf : fX9_firstFrom x0 x1 = some o) : sn_M l yX9_firstFrom cX9_firstFrom 3 (some .int) rmX9_firstFrom layM (fun ad => [.int x0, .int x1]) σ (some (fun _ => .int o)) σ :=
  sn_met (by decide) (fun _ => Nat.le_of_ble_eq_true rfl) (fun p e s m args below meth c ls D ct ad A C hw hl => wX9_firstFrom_in C  hf (fun H locs ls pc hw ok hd => sn_iret C hw hd) _ _ _ hw hl)
-- X9_pause
abbrev rmX9_pause : Room := { frames := 6, cells := 0, slots := 0, locals := 136 }
def BX9_pause_74 (σ : sn_S) (x2 : Int32) : Option ((Int32 × sn_S)) :=
  (if x2 = (1000000000 : Int32) then
  (some ((-1 : Int32), σ))
  else
  (some (x2, σ)))
def BX9_pause_68 (σ : sn_S) (x1 : Int32) (x2 : Int32) (x3 : Int32) : Option ((Int32 × Int32) ⊕ (Int32)) :=
  (sn_lt (x3 + 1) fun y_1 => (some (.inl (x2, y_1))))
def BX9_pause_17 (σ : sn_S) (x1 : Int32) (x2 : Int32) (x3 : Int32) : Option ((Int32 × Int32) ⊕ (Int32)) :=
  ((fX9_minutes σ).bind fun t_1 => (if t_1 ≤ x3 then
  (some (.inr (x2)))
  else
  (sn_gd (sn_in x1 6) ((fX9_firstFrom (sn_I σ 10 x1.toNatClampNeg) (x3 + (1 : Int32))).bind fun t_5 => (sn_gd (sn_in x1 6) ((fX9_bit (sn_I σ 10 x1.toNatClampNeg) x3).bind fun t_8 => (if t_8 = (1 : Int32) then
  (if t_5 = (-1 : Int32) then
  (BX9_pause_68 σ x1 x2 x3)
  else
  (sn_lt (if (t_5 - x3) < x2 then (t_5 - x3) else x2) fun y_12 => (BX9_pause_68 σ x1 y_12 x3)))
  else
  (BX9_pause_68 σ x1 x2 x3))))))))
def LX9_pause_17 (σ : sn_S) (x1 : Int32) (s : Int32 × Int32) : Option ((Int32 × Int32) ⊕ (Int32)) := BX9_pause_17 σ x1 s.1 s.2
def fX9_pause (σ : sn_S) (x1 : Int32) : Option (Int32 × sn_S) :=
  ((fX9_asksPerson σ x1).bind fun t_1 => (if t_1.1 = 0 then
  (some ((-2 : Int32), t_1.2))
  else
  ((sn_it (LX9_pause_17 t_1.2 x1) 5000 ((1000000000 : Int32), (0 : Int32))).bind fun t_4 => (BX9_pause_74 t_1.2 t_4))))
theorem wX9_pause_74 (C : sn_C p s m args meth c RX9 cX9_pause 5 (some .int) D ct ad layM A) {σ : sn_S} {x2 : Int32}  {o : (Int32 × sn_S)} (hf : BX9_pause_74 σ x2 = some o) (kr : sn_Kr p l e rmX9_pause s m args below meth c Q D ct ad layM A cX9_pause .ireturn (true) o.2 [.int o.1]) : sn_At p l e rmX9_pause s m args below meth c Q D ct ad layM A 5 σ 74 [(2, .int x2)] [] := by
  intro H locs ls hw hl
  have hx := C.1
  have hb := C.2.1
  unfold BX9_pause_74 at hf
  refine lv_iload_n hx hb dX9_pause_74 rfl (lv_at hl 0 rfl) ?_
  refine lv_ldcw hx hb C.2.2.2.1 (C.2.2.2.2.1 _ kk_RX9_296) dX9_pause_75 ?_
  refine lv_icmp_ne (tgt := 85) hx hb dX9_pause_78 (by decide) (fun c_1 => ?_) (fun c_1 => ?_)
  · have hf := sn_el c_1 hf
    refine lv_iload_n hx hb dX9_pause_85 rfl (lv_at hl 0 rfl) ?_
    cases hf
    exact kr _ _ _ _ hw rfl dX9_pause_86
  · have hf := sn_if c_1 hf
    refine lv_iconst (v := (-1)) hx hb dX9_pause_81 rfl ?_
    refine lv_goto (tgt := 86) hx hb dX9_pause_82 (by decide) ?_
    cases hf
    exact kr _ _ _ _ hw rfl dX9_pause_86
theorem wX9_pause_68 (C : sn_C p s m args meth c RX9 cX9_pause 5 (some .int) D ct ad layM A) {σ : sn_S} {x1 : Int32} {x2 : Int32} {x3 : Int32}  {o : (Int32 × Int32) ⊕ (Int32)} (hf : BX9_pause_68 σ x1 x2 x3 = some o) (kc : ∀ v, o = .inl v → sn_At p l e rmX9_pause s m args below meth c Q D ct ad layM A 5 σ 17 [(0, .ref (ad 0)), (1, .int x1), (2, .int v.1), (3, .int v.2)] []) (kx : ∀ v, o = .inr v → sn_At p l e rmX9_pause s m args below meth c Q D ct ad layM A 5 σ 74 [(2, .int v)] []) : sn_At p l e rmX9_pause s m args below meth c Q D ct ad layM A 5 σ 68 [(0, .ref (ad 0)), (1, .int x1), (2, .int x2), (3, .int x3)] [] := by
  intro H locs ls hw hl
  have hx := C.1
  have hb := C.2.1
  unfold BX9_pause_68 at hf
  obtain ⟨y_1, e_2, hf⟩ := sn_ltE hf
  refine lv_iinc (v := y_1) (lv' := [(3, .int y_1), (0, .ref (ad 0)), (1, .int x1), (2, .int x2)]) hx hb dX9_pause_68 hl (k := 3) rfl (by rw [e_2]; rfl) (by decide) rfl (fun ls hl => ?_)
  refine lv_goto (tgt := 17) hx hb dX9_pause_71 (by decide) ?_
  cases hf
  exact kc _ rfl _ _ _ hw (lv_sub hl [1, 2, 3, 0] rfl)
theorem wX9_pause_17 (C : sn_C p s m args meth c RX9 cX9_pause 5 (some .int) D ct ad layM A) {σ : sn_S} {x1 : Int32} {x2 : Int32} {x3 : Int32}  {o : (Int32 × Int32) ⊕ (Int32)} (hf : BX9_pause_17 σ x1 x2 x3 = some o) (kc : ∀ v, o = .inl v → sn_At p l e rmX9_pause s m args below meth c Q D ct ad layM A 5 σ 17 [(0, .ref (ad 0)), (1, .int x1), (2, .int v.1), (3, .int v.2)] []) (kx : ∀ v, o = .inr v → sn_At p l e rmX9_pause s m args below meth c Q D ct ad layM A 5 σ 74 [(2, .int v)] []) : sn_At p l e rmX9_pause s m args below meth c Q D ct ad layM A 5 σ 17 [(0, .ref (ad 0)), (1, .int x1), (2, .int x2), (3, .int x3)] [] := by
  intro H locs ls hw hl
  have hx := C.1
  have hb := C.2.1
  unfold BX9_pause_17 at hf
  refine lv_iload_n hx hb dX9_pause_17 rfl (lv_at hl 3 rfl) ?_
  refine lv_aload_n hx hb dX9_pause_18 rfl (lv_at hl 0 rfl) ?_
  obtain ⟨t_1, h_2, hf⟩ := sn_bd hf
  refine sn_callVi (rest := [.int x3]) C hw (ctX9_minutes l  h_2) kl_RX9_249 layM_0 rfl rfl rfl rfl (Nat.le_of_ble_eq_true rfl) dX9_pause_19 hl.1 (fun H locs hw => ?_)
  refine lv_icmp_ge (tgt := 74) hx hb dX9_pause_22 (by decide) (fun c_3 => ?_) (fun c_3 => ?_)
  · have hf := sn_if c_3 hf
    cases hf
    exact kx _ rfl _ _ _ hw (lv_sub hl [2] rfl)
  · have hf := sn_el c_3 hf
    refine lv_aload_n hx hb dX9_pause_25 rfl (lv_at hl 0 rfl) ?_
    refine sn_getC (r := 10) C hw fd_RX9_43 layM_0 rfl dX9_pause_26 ?_
    refine lv_iload_n hx hb dX9_pause_29 rfl (lv_at hl 1 rfl) ?_
    obtain ⟨g_4, hf⟩ := sn_gdE hf
    refine sn_iald C hw layM_10 g_4 dX9_pause_30 ?_
    refine lv_iload_n hx hb dX9_pause_31 rfl (lv_at hl 3 rfl) ?_
    refine lv_iconst (v := 1) hx hb dX9_pause_32 rfl ?_
    refine lv_iadd hx hb dX9_pause_33 ?_
    obtain ⟨t_5, h_6, hf⟩ := sn_bd hf
    refine sn_callSi (rest := []) C hw (ctX9_firstFrom l  h_6) kl_RX9_297 rfl rfl rfl (Nat.le_of_ble_eq_true rfl) dX9_pause_34 hl.1 (fun H locs hw => ?_)
    refine lv_istore (lv' := [(4, .int t_5), (0, .ref (ad 0)), (1, .int x1), (2, .int x2), (3, .int x3)]) hx hb dX9_pause_37 hl (by decide) rfl (fun ls hl => ?_)
    refine lv_aload_n hx hb dX9_pause_39 rfl (lv_at hl 1 rfl) ?_
    refine sn_getC (r := 10) C hw fd_RX9_43 layM_0 rfl dX9_pause_40 ?_
    refine lv_iload_n hx hb dX9_pause_43 rfl (lv_at hl 2 rfl) ?_
    obtain ⟨g_7, hf⟩ := sn_gdE hf
    refine sn_iald C hw layM_10 g_7 dX9_pause_44 ?_
    refine lv_iload_n hx hb dX9_pause_45 rfl (lv_at hl 4 rfl) ?_
    obtain ⟨t_8, h_9, hf⟩ := sn_bd hf
    refine sn_callSi (rest := []) C hw (ctX9_bit l  h_9) kl_RX9_254 rfl rfl rfl (Nat.le_of_ble_eq_true rfl) dX9_pause_46 hl.1 (fun H locs hw => ?_)
    refine lv_iconst (v := 1) hx hb dX9_pause_49 rfl ?_
    refine lv_icmp_ne (tgt := 68) hx hb dX9_pause_50 (by decide) (fun c_10 => ?_) (fun c_10 => ?_)
    · have hf := sn_el c_10 hf
      exact wX9_pause_68 C  hf kc kx _ _ _ hw (lv_sub hl [1, 2, 3, 4] rfl)
    · have hf := sn_if c_10 hf
      refine lv_iload hx hb dX9_pause_53 (lv_at hl 0 rfl) ?_
      refine lv_iconst (v := (-1)) hx hb dX9_pause_55 rfl ?_
      refine lv_icmp_eq (tgt := 68) hx hb dX9_pause_56 (by decide) (fun c_11 => ?_) (fun c_11 => ?_)
      · have hf := sn_if c_11 hf
        exact wX9_pause_68 C  hf kc kx _ _ _ hw (lv_sub hl [1, 2, 3, 4] rfl)
      · have hf := sn_el c_11 hf
        refine lv_iload_n hx hb dX9_pause_59 rfl (lv_at hl 3 rfl) ?_
        refine lv_iload hx hb dX9_pause_60 (lv_at hl 0 rfl) ?_
        refine lv_iload_n hx hb dX9_pause_62 rfl (lv_at hl 4 rfl) ?_
        refine lv_isub hx hb dX9_pause_63 ?_
        refine va_mmin hx hb (C.2.2.1.trans hl.1.symm) C.2.2.2.1 (C.2.2.2.2.1 _ km_RX9_131) (C.2.2.2.2.1 _ kst_minI) (C.2.2.2.2.1 _ ki_Math) (C.2.2.2.2.1 _ kc_minI) (Nat.le_of_ble_eq_true rfl) (Nat.le_of_ble_eq_true rfl) (Nat.zero_le _) (Nat.zero_le _) dX9_pause_64 ?_
        obtain ⟨y_12, e_13, hf⟩ := sn_ltE hf
        refine lv_topi (fun y_12_ e_13_ => ?_)
        obtain rfl : y_12 = y_12_ := e_13.trans e_13_.symm
        refine lv_istore_n (lv' := [(2, .int y_12), (4, .int t_5), (0, .ref (ad 0)), (1, .int x1), (3, .int x3)]) hx hb dX9_pause_67 rfl hl (by decide) rfl (fun ls hl => ?_)
        exact wX9_pause_68 C  hf kc kx _ _ _ hw (lv_sub hl [2, 3, 0, 4] rfl)
theorem wX9_pause_L17 (C : sn_C p s m args meth c RX9 cX9_pause 5 (some .int) D ct ad layM A) {σ : sn_S} {x1 : Int32}   {z : Int32 × Int32} {t : Int32} (h : sn_it (LX9_pause_17 σ x1) 5000 z = some t) (kx : ∀ v, t = v → sn_At p l e rmX9_pause s m args below meth c Q D ct ad layM A 5 σ 74 [(2, .int v)] []) : sn_At p l e rmX9_pause s m args below meth c Q D ct ad layM A 5 σ 17 [(0, .ref (ad 0)), (1, .int x1), (2, .int z.1), (3, .int z.2)] [] :=
  sn_loop (f := LX9_pause_17 σ x1) (G := fun z => sn_At p l e rmX9_pause s m args below meth c Q D ct ad layM A 5 σ 17 [(0, .ref (ad 0)), (1, .int x1), (2, .int z.1), (3, .int z.2)] []) (E := fun t => (∀ v, t = v → sn_At p l e rmX9_pause s m args below meth c Q D ct ad layM A 5 σ 74 [(2, .int v)] []) ∧ True) (fun z o hf k1 k2 => wX9_pause_17 C  hf (fun v e => k1 v e) (fun v e => (k2 _ e).1 v rfl)) 5000 z t h ⟨kx, trivial⟩
theorem wX9_pause_in (C : sn_C p s m args meth c RX9 cX9_pause 5 (some .int) D ct ad layM A) {σ : sn_S} {x1 : Int32}  {o : (Int32 × sn_S)} (hf : fX9_pause σ x1 = some o) (kr : sn_Kr p l e rmX9_pause s m args below meth c Q D ct ad layM A cX9_pause .ireturn (true) o.2 [.int o.1]) : sn_At p l e rmX9_pause s m args below meth c Q D ct ad layM A 5 σ 0 [(0, .ref (ad 0)), (1, .int x1)] [] := by
  intro H locs ls hw hl
  have hx := C.1
  have hb := C.2.1
  unfold fX9_pause at hf
  refine lv_aload_n hx hb dX9_pause_0 rfl (lv_at hl 0 rfl) ?_
  refine lv_iload_n hx hb dX9_pause_1 rfl (lv_at hl 1 rfl) ?_
  obtain ⟨t_1, h_2, hf⟩ := sn_bd hf
  refine sn_callVi (rest := []) C hw (ctX9_asksPerson l  h_2) kl_RX9_284 layM_0 rfl rfl rfl rfl (Nat.le_of_ble_eq_true rfl) dX9_pause_2 hl.1 (fun H locs hw => ?_)
  refine lv_if_ne (tgt := 11) hx hb dX9_pause_5 (by decide) (fun c_3 => ?_) (fun c_3 => ?_)
  · have hf := sn_el c_3 hf
    refine lv_ldcw hx hb C.2.2.2.1 (C.2.2.2.2.1 _ kk_RX9_296) dX9_pause_11 ?_
    refine lv_istore_n (lv' := [(2, .int (1000000000 : Int32)), (0, .ref (ad 0)), (1, .int x1)]) hx hb dX9_pause_14 rfl hl (by decide) rfl (fun ls hl => ?_)
    refine lv_iconst (v := 0) hx hb dX9_pause_15 rfl ?_
    refine lv_istore_n (lv' := [(3, .int (0 : Int32)), (2, .int (1000000000 : Int32)), (0, .ref (ad 0)), (1, .int x1)]) hx hb dX9_pause_16 rfl hl (by decide) rfl (fun ls hl => ?_)
    obtain ⟨t_4, h_5, hf⟩ := sn_bd hf
    exact wX9_pause_L17 C  h_5 (fun v e => by cases e; exact wX9_pause_74 C  hf kr) _ _ _ hw (lv_sub hl [2, 3, 1, 0] rfl)
  · have hf := sn_if c_3 hf
    refine lv_bipush (v := (-2)) hx hb dX9_pause_8 (by decide) ?_
    cases hf
    exact kr _ _ _ _ hw rfl dX9_pause_10
theorem ctX9_pause (l : Launch) {σ : sn_S} {x1 : Int32}  {o : (Int32 × sn_S)} (hf : fX9_pause σ x1 = some o) : sn_M l yX9_pause cX9_pause 5 (some .int) rmX9_pause layM (fun ad => [.ref (ad 0), .int x1]) σ (some (fun _ => .int o.1)) o.2 :=
  sn_met (by decide) (fun _ => Nat.le_of_ble_eq_true rfl) (fun p e s m args below meth c ls D ct ad A C hw hl => wX9_pause_in C  hf (fun H locs ls pc hw ok hd => sn_iret C hw hd) _ _ _ hw hl)
-- X9_later
abbrev rmX9_later : Room := { frames := 6, cells := 0, slots := 0, locals := 136 }
def fX9_later (σ : sn_S) (x1 : Int32) (x2 : Int32) : Option (Int32 × sn_S) :=
  ((fX9_asksMinute σ x2).bind fun t_1 => (if t_1.1 = 0 then
  (some ((-2 : Int32), t_1.2))
  else
  ((fX9_isPerson t_1.2 x1.toInt64).bind fun t_4 => (if t_4 = 0 then
  (some ((-2 : Int32), t_1.2))
  else
  (sn_gd (sn_in x1 6) ((fX9_firstFrom (sn_I t_1.2 10 x1.toNatClampNeg) x2).bind fun t_8 => (some (t_8, t_1.2))))))))
theorem wX9_later_in (C : sn_C p s m args meth c RX9 cX9_later 3 (some .int) D ct ad layM A) {σ : sn_S} {x1 : Int32} {x2 : Int32}  {o : (Int32 × sn_S)} (hf : fX9_later σ x1 x2 = some o) (kr : sn_Kr p l e rmX9_later s m args below meth c Q D ct ad layM A cX9_later .ireturn (true) o.2 [.int o.1]) : sn_At p l e rmX9_later s m args below meth c Q D ct ad layM A 3 σ 0 [(0, .ref (ad 0)), (1, .int x1), (2, .int x2)] [] := by
  intro H locs ls hw hl
  have hx := C.1
  have hb := C.2.1
  unfold fX9_later at hf
  refine lv_aload_n hx hb dX9_later_0 rfl (lv_at hl 0 rfl) ?_
  refine lv_iload_n hx hb dX9_later_1 rfl (lv_at hl 2 rfl) ?_
  obtain ⟨t_1, h_2, hf⟩ := sn_bd hf
  refine sn_callVi (rest := []) C hw (ctX9_asksMinute l  h_2) kl_RX9_281 layM_0 rfl rfl rfl rfl (Nat.le_of_ble_eq_true rfl) dX9_later_2 hl.1 (fun H locs hw => ?_)
  refine lv_if_eq (tgt := 30) hx hb dX9_later_5 (by decide) (fun c_3 => ?_) (fun c_3 => ?_)
  · have hf := sn_if c_3 hf
    refine lv_bipush (v := (-2)) hx hb dX9_later_30 (by decide) ?_
    cases hf
    exact kr _ _ _ _ hw rfl dX9_later_32
  · have hf := sn_el c_3 hf
    refine lv_aload_n hx hb dX9_later_8 rfl (lv_at hl 0 rfl) ?_
    refine lv_iload_n hx hb dX9_later_9 rfl (lv_at hl 1 rfl) ?_
    refine lv_i2l hx hb dX9_later_10 rfl ?_
    obtain ⟨t_4, h_5, hf⟩ := sn_bd hf
    refine sn_callVi (rest := []) C hw (ctX9_isPerson l  h_5) kl_RX9_224 layM_0 rfl rfl rfl rfl (Nat.le_of_ble_eq_true rfl) dX9_later_11 hl.1 (fun H locs hw => ?_)
    refine lv_if_eq (tgt := 30) hx hb dX9_later_14 (by decide) (fun c_6 => ?_) (fun c_6 => ?_)
    · have hf := sn_if c_6 hf
      refine lv_bipush (v := (-2)) hx hb dX9_later_30 (by decide) ?_
      cases hf
      exact kr _ _ _ _ hw rfl dX9_later_32
    · have hf := sn_el c_6 hf
      refine lv_aload_n hx hb dX9_later_17 rfl (lv_at hl 0 rfl) ?_
      refine sn_getC (r := 10) C hw fd_RX9_43 layM_0 rfl dX9_later_18 ?_
      refine lv_iload_n hx hb dX9_later_21 rfl (lv_at hl 1 rfl) ?_
      obtain ⟨g_7, hf⟩ := sn_gdE hf
      refine sn_iald C hw layM_10 g_7 dX9_later_22 ?_
      refine lv_iload_n hx hb dX9_later_23 rfl (lv_at hl 2 rfl) ?_
      obtain ⟨t_8, h_9, hf⟩ := sn_bd hf
      refine sn_callSi (rest := []) C hw (ctX9_firstFrom l  h_9) kl_RX9_297 rfl rfl rfl (Nat.le_of_ble_eq_true rfl) dX9_later_24 hl.1 (fun H locs hw => ?_)
      refine lv_goto (tgt := 32) hx hb dX9_later_27 (by decide) ?_
      cases hf
      exact kr _ _ _ _ hw rfl dX9_later_32
theorem ctX9_later (l : Launch) {σ : sn_S} {x1 : Int32} {x2 : Int32}  {o : (Int32 × sn_S)} (hf : fX9_later σ x1 x2 = some o) : sn_M l yX9_later cX9_later 3 (some .int) rmX9_later layM (fun ad => [.ref (ad 0), .int x1, .int x2]) σ (some (fun _ => .int o.1)) o.2 :=
  sn_met (by decide) (fun _ => Nat.le_of_ble_eq_true rfl) (fun p e s m args below meth c ls D ct ad A C hw hl => wX9_later_in C  hf (fun H locs ls pc hw ok hd => sn_iret C hw hd) _ _ _ hw hl)
-- X9_web
abbrev rmX9_web : Room := { frames := 2, cells := 0, slots := 0, locals := 47 }
def BX9_web_83 (σ : sn_S) (x2 : Int32) : Option ((Int32 × sn_S)) :=
  (some (x2, σ))
def BX9_web_74 (σ : sn_S) (x2 : Int32) (x3 : Int32) (x4 : Int32) : Option ((Int32 × Int32) ⊕ (Int32)) :=
  (sn_lt (x3 + 1) fun y_1 => (some (.inl (x4, y_1))))
def BX9_web_65 (σ : sn_S) (x2 : Int32) (x3 : Int32) (x4 : Int32) (x5 : Int32) (t0 : Int32) (t1 : Int32) : Option ((Int32 × Int32) ⊕ (Int32)) :=
  (sn_lt (t0 ||| t1) fun y_1 => (sn_lt (x5 + 1) fun y_3 => (some (.inl (y_1, y_3)))))
def BX9_web_34 (σ : sn_S) (x2 : Int32) (x3 : Int32) (x4 : Int32) (x5 : Int32) : Option ((Int32 × Int32) ⊕ (Int32)) :=
  (sn_gd (sn_in (5 : Int32) 119) (if (sn_I σ 1 (5 : Int32).toNatClampNeg) ≤ x5 then
  (some (.inr (x4)))
  else
  ((fX9_netsTo σ x5 x2).bind fun t_3 => (if t_3 ≤ 0 then
  (BX9_web_65 σ x2 x3 x4 x5 x4 (0 : Int32))
  else
  (BX9_web_65 σ x2 x3 x4 x5 x4 ((1 : Int32) <<< (x5 &&& 31)))))))
def LX9_web_34 (σ : sn_S) (x2 : Int32) (x3 : Int32) (s : Int32 × Int32) : Option ((Int32 × Int32) ⊕ (Int32)) := BX9_web_34 σ x2 x3 s.1 s.2
def BX9_web_22 (σ : sn_S) (x2 : Int32) (x3 : Int32) : Option ((Int32 × Int32) ⊕ (Int32)) :=
  (if (6 : Int32) ≤ x3 then
  (some (.inr (x2)))
  else
  ((sn_it (LX9_web_34 σ x2 x3) 5000 (x2, (0 : Int32))).bind fun t_2 => (BX9_web_74 σ x2 x3 t_2)))
def LX9_web_22 (σ : sn_S) (s : Int32 × Int32) : Option ((Int32 × Int32) ⊕ (Int32)) := BX9_web_22 σ s.1 s.2
def fX9_web (σ : sn_S) (x1 : Int32) : Option (Int32 × sn_S) :=
  ((fX9_asItIs σ).bind fun t_1 => ((fX9_isPerson t_1 x1.toInt64).bind fun t_3 => (if t_3 = 0 then
  (some ((-2 : Int32), t_1))
  else
  (sn_lt ((1 : Int32) <<< (x1 &&& 31)) fun y_6 => ((sn_it (LX9_web_22 t_1) 5000 (y_6, (0 : Int32))).bind fun t_8 => (BX9_web_83 t_1 t_8))))))
theorem wX9_web_83 (C : sn_C p s m args meth c RX9 cX9_web 6 (some .int) D ct ad layM A) {σ : sn_S} {x2 : Int32}  {o : (Int32 × sn_S)} (hf : BX9_web_83 σ x2 = some o) (kr : sn_Kr p l e rmX9_web s m args below meth c Q D ct ad layM A cX9_web .ireturn (true) o.2 [.int o.1]) : sn_At p l e rmX9_web s m args below meth c Q D ct ad layM A 6 σ 83 [(2, .int x2)] [] := by
  intro H locs ls hw hl
  have hx := C.1
  have hb := C.2.1
  unfold BX9_web_83 at hf
  refine lv_iload_n hx hb dX9_web_83 rfl (lv_at hl 0 rfl) ?_
  cases hf
  exact kr _ _ _ _ hw rfl dX9_web_84
theorem wX9_web_74 (C : sn_C p s m args meth c RX9 cX9_web 6 (some .int) D ct ad layM A) {σ : sn_S} {x2 : Int32} {x3 : Int32} {x4 : Int32}  {o : (Int32 × Int32) ⊕ (Int32)} (hf : BX9_web_74 σ x2 x3 x4 = some o) (kc : ∀ v, o = .inl v → sn_At p l e rmX9_web s m args below meth c Q D ct ad layM A 6 σ 22 [(0, .ref (ad 0)), (2, .int v.1), (3, .int v.2)] []) (kx : ∀ v, o = .inr v → sn_At p l e rmX9_web s m args below meth c Q D ct ad layM A 6 σ 83 [(2, .int v)] []) : sn_At p l e rmX9_web s m args below meth c Q D ct ad layM A 6 σ 74 [(0, .ref (ad 0)), (2, .int x2), (3, .int x3), (4, .int x4)] [] := by
  intro H locs ls hw hl
  have hx := C.1
  have hb := C.2.1
  unfold BX9_web_74 at hf
  refine lv_iload hx hb dX9_web_74 (lv_at hl 3 rfl) ?_
  refine lv_istore_n (lv' := [(2, .int x4), (0, .ref (ad 0)), (3, .int x3), (4, .int x4)]) hx hb dX9_web_76 rfl hl (by decide) rfl (fun ls hl => ?_)
  obtain ⟨y_1, e_2, hf⟩ := sn_ltE hf
  refine lv_iinc (v := y_1) (lv' := [(3, .int y_1), (2, .int x4), (0, .ref (ad 0)), (4, .int x4)]) hx hb dX9_web_77 hl (k := 2) rfl (by rw [e_2]; rfl) (by decide) rfl (fun ls hl => ?_)
  refine lv_goto (tgt := 22) hx hb dX9_web_80 (by decide) ?_
  cases hf
  exact kc _ rfl _ _ _ hw (lv_sub hl [2, 1, 0] rfl)
theorem wX9_web_65 (C : sn_C p s m args meth c RX9 cX9_web 6 (some .int) D ct ad layM A) {σ : sn_S} {x2 : Int32} {x3 : Int32} {x4 : Int32} {x5 : Int32} {t0 : Int32} {t1 : Int32}  {o : (Int32 × Int32) ⊕ (Int32)} (hf : BX9_web_65 σ x2 x3 x4 x5 t0 t1 = some o) (kc : ∀ v, o = .inl v → sn_At p l e rmX9_web s m args below meth c Q D ct ad layM A 6 σ 34 [(0, .ref (ad 0)), (2, .int x2), (3, .int x3), (4, .int v.1), (5, .int v.2)] []) (kx : ∀ v, o = .inr v → sn_At p l e rmX9_web s m args below meth c Q D ct ad layM A 6 σ 74 [(0, .ref (ad 0)), (2, .int x2), (3, .int x3), (4, .int v)] []) : sn_At p l e rmX9_web s m args below meth c Q D ct ad layM A 6 σ 65 [(0, .ref (ad 0)), (2, .int x2), (3, .int x3), (4, .int x4), (5, .int x5)] [.int t1, .int t0] := by
  intro H locs ls hw hl
  have hx := C.1
  have hb := C.2.1
  unfold BX9_web_65 at hf
  refine lv_ior hx hb dX9_web_65 ?_
  obtain ⟨y_1, e_2, hf⟩ := sn_ltE hf
  refine lv_topi (fun y_1_ e_2_ => ?_)
  obtain rfl : y_1 = y_1_ := e_2.trans e_2_.symm
  refine lv_istore (lv' := [(4, .int y_1), (0, .ref (ad 0)), (2, .int x2), (3, .int x3), (5, .int x5)]) hx hb dX9_web_66 hl (by decide) rfl (fun ls hl => ?_)
  obtain ⟨y_3, e_4, hf⟩ := sn_ltE hf
  refine lv_iinc (v := y_3) (lv' := [(5, .int y_3), (4, .int y_1), (0, .ref (ad 0)), (2, .int x2), (3, .int x3)]) hx hb dX9_web_68 hl (k := 4) rfl (by rw [e_4]; rfl) (by decide) rfl (fun ls hl => ?_)
  refine lv_goto (tgt := 34) hx hb dX9_web_71 (by decide) ?_
  cases hf
  exact kc _ rfl _ _ _ hw (lv_sub hl [2, 3, 4, 1, 0] rfl)
theorem wX9_web_34 (C : sn_C p s m args meth c RX9 cX9_web 6 (some .int) D ct ad layM A) {σ : sn_S} {x2 : Int32} {x3 : Int32} {x4 : Int32} {x5 : Int32}  {o : (Int32 × Int32) ⊕ (Int32)} (hf : BX9_web_34 σ x2 x3 x4 x5 = some o) (kc : ∀ v, o = .inl v → sn_At p l e rmX9_web s m args below meth c Q D ct ad layM A 6 σ 34 [(0, .ref (ad 0)), (2, .int x2), (3, .int x3), (4, .int v.1), (5, .int v.2)] []) (kx : ∀ v, o = .inr v → sn_At p l e rmX9_web s m args below meth c Q D ct ad layM A 6 σ 74 [(0, .ref (ad 0)), (2, .int x2), (3, .int x3), (4, .int v)] []) : sn_At p l e rmX9_web s m args below meth c Q D ct ad layM A 6 σ 34 [(0, .ref (ad 0)), (2, .int x2), (3, .int x3), (4, .int x4), (5, .int x5)] [] := by
  intro H locs ls hw hl
  have hx := C.1
  have hb := C.2.1
  unfold BX9_web_34 at hf
  refine lv_iload hx hb dX9_web_34 (lv_at hl 4 rfl) ?_
  refine lv_aload_n hx hb dX9_web_36 rfl (lv_at hl 0 rfl) ?_
  refine sn_getC (r := 1) C hw fd_RX9_9 layM_0 rfl dX9_web_37 ?_
  refine lv_iconst (v := 5) hx hb dX9_web_40 rfl ?_
  obtain ⟨g_1, hf⟩ := sn_gdE hf
  refine sn_iald C hw layM_1 g_1 dX9_web_41 ?_
  refine lv_icmp_ge (tgt := 74) hx hb dX9_web_42 (by decide) (fun c_2 => ?_) (fun c_2 => ?_)
  · have hf := sn_if c_2 hf
    cases hf
    exact kx _ rfl _ _ _ hw (lv_sub hl [0, 1, 2, 3] rfl)
  · have hf := sn_el c_2 hf
    refine lv_iload hx hb dX9_web_45 (lv_at hl 3 rfl) ?_
    refine lv_aload_n hx hb dX9_web_47 rfl (lv_at hl 0 rfl) ?_
    refine lv_iload hx hb dX9_web_48 (lv_at hl 4 rfl) ?_
    refine lv_iload_n hx hb dX9_web_50 rfl (lv_at hl 1 rfl) ?_
    obtain ⟨t_3, h_4, hf⟩ := sn_bd hf
    refine sn_callVi (rest := [.int x4]) C hw (ctX9_netsTo l  h_4) kl_RX9_257 layM_0 rfl rfl rfl rfl (Nat.le_of_ble_eq_true rfl) dX9_web_51 hl.1 (fun H locs hw => ?_)
    refine lv_if_le (tgt := 64) hx hb dX9_web_54 (by decide) (fun c_5 => ?_) (fun c_5 => ?_)
    · have hf := sn_if c_5 hf
      refine lv_iconst (v := 0) hx hb dX9_web_64 rfl ?_
      exact wX9_web_65 C  hf kc kx _ _ _ hw (lv_sub hl [0, 1, 2, 3, 4] rfl)
    · have hf := sn_el c_5 hf
      refine lv_iconst (v := 1) hx hb dX9_web_57 rfl ?_
      refine lv_iload hx hb dX9_web_58 (lv_at hl 4 rfl) ?_
      refine lv_ishl hx hb dX9_web_60 ?_
      refine lv_goto (tgt := 65) hx hb dX9_web_61 (by decide) ?_
      exact wX9_web_65 C  hf kc kx _ _ _ hw (lv_sub hl [0, 1, 2, 3, 4] rfl)
theorem wX9_web_L34 (C : sn_C p s m args meth c RX9 cX9_web 6 (some .int) D ct ad layM A) {σ : sn_S} {x2 : Int32} {x3 : Int32}   {z : Int32 × Int32} {t : Int32} (h : sn_it (LX9_web_34 σ x2 x3) 5000 z = some t) (kx : ∀ v, t = v → sn_At p l e rmX9_web s m args below meth c Q D ct ad layM A 6 σ 74 [(0, .ref (ad 0)), (2, .int x2), (3, .int x3), (4, .int v)] []) : sn_At p l e rmX9_web s m args below meth c Q D ct ad layM A 6 σ 34 [(0, .ref (ad 0)), (2, .int x2), (3, .int x3), (4, .int z.1), (5, .int z.2)] [] :=
  sn_loop (f := LX9_web_34 σ x2 x3) (G := fun z => sn_At p l e rmX9_web s m args below meth c Q D ct ad layM A 6 σ 34 [(0, .ref (ad 0)), (2, .int x2), (3, .int x3), (4, .int z.1), (5, .int z.2)] []) (E := fun t => (∀ v, t = v → sn_At p l e rmX9_web s m args below meth c Q D ct ad layM A 6 σ 74 [(0, .ref (ad 0)), (2, .int x2), (3, .int x3), (4, .int v)] []) ∧ True) (fun z o hf k1 k2 => wX9_web_34 C  hf (fun v e => k1 v e) (fun v e => (k2 _ e).1 v rfl)) 5000 z t h ⟨kx, trivial⟩
theorem wX9_web_22 (C : sn_C p s m args meth c RX9 cX9_web 6 (some .int) D ct ad layM A) {σ : sn_S} {x2 : Int32} {x3 : Int32}  {o : (Int32 × Int32) ⊕ (Int32)} (hf : BX9_web_22 σ x2 x3 = some o) (kc : ∀ v, o = .inl v → sn_At p l e rmX9_web s m args below meth c Q D ct ad layM A 6 σ 22 [(0, .ref (ad 0)), (2, .int v.1), (3, .int v.2)] []) (kx : ∀ v, o = .inr v → sn_At p l e rmX9_web s m args below meth c Q D ct ad layM A 6 σ 83 [(2, .int v)] []) : sn_At p l e rmX9_web s m args below meth c Q D ct ad layM A 6 σ 22 [(0, .ref (ad 0)), (2, .int x2), (3, .int x3)] [] := by
  intro H locs ls hw hl
  have hx := C.1
  have hb := C.2.1
  unfold BX9_web_22 at hf
  refine lv_iload_n hx hb dX9_web_22 rfl (lv_at hl 2 rfl) ?_
  refine lv_bipush (v := 6) hx hb dX9_web_23 (by decide) ?_
  refine lv_icmp_ge (tgt := 83) hx hb dX9_web_25 (by decide) (fun c_1 => ?_) (fun c_1 => ?_)
  · have hf := sn_if c_1 hf
    cases hf
    exact kx _ rfl _ _ _ hw (lv_sub hl [1] rfl)
  · have hf := sn_el c_1 hf
    refine lv_iload_n hx hb dX9_web_28 rfl (lv_at hl 1 rfl) ?_
    refine lv_istore (lv' := [(4, .int x2), (0, .ref (ad 0)), (2, .int x2), (3, .int x3)]) hx hb dX9_web_29 hl (by decide) rfl (fun ls hl => ?_)
    refine lv_iconst (v := 0) hx hb dX9_web_31 rfl ?_
    refine lv_istore (lv' := [(5, .int (0 : Int32)), (4, .int x2), (0, .ref (ad 0)), (2, .int x2), (3, .int x3)]) hx hb dX9_web_32 hl (by decide) rfl (fun ls hl => ?_)
    obtain ⟨t_2, h_3, hf⟩ := sn_bd hf
    exact wX9_web_L34 C  h_3 (fun v e => by cases e; exact wX9_web_74 C  hf kc kx) _ _ _ hw (lv_sub hl [2, 3, 4, 1, 0] rfl)
theorem wX9_web_L22 (C : sn_C p s m args meth c RX9 cX9_web 6 (some .int) D ct ad layM A) {σ : sn_S}   {z : Int32 × Int32} {t : Int32} (h : sn_it (LX9_web_22 σ) 5000 z = some t) (kx : ∀ v, t = v → sn_At p l e rmX9_web s m args below meth c Q D ct ad layM A 6 σ 83 [(2, .int v)] []) : sn_At p l e rmX9_web s m args below meth c Q D ct ad layM A 6 σ 22 [(0, .ref (ad 0)), (2, .int z.1), (3, .int z.2)] [] :=
  sn_loop (f := LX9_web_22 σ) (G := fun z => sn_At p l e rmX9_web s m args below meth c Q D ct ad layM A 6 σ 22 [(0, .ref (ad 0)), (2, .int z.1), (3, .int z.2)] []) (E := fun t => (∀ v, t = v → sn_At p l e rmX9_web s m args below meth c Q D ct ad layM A 6 σ 83 [(2, .int v)] []) ∧ True) (fun z o hf k1 k2 => wX9_web_22 C  hf (fun v e => k1 v e) (fun v e => (k2 _ e).1 v rfl)) 5000 z t h ⟨kx, trivial⟩
theorem wX9_web_in (C : sn_C p s m args meth c RX9 cX9_web 6 (some .int) D ct ad layM A) {σ : sn_S} {x1 : Int32}  {o : (Int32 × sn_S)} (hf : fX9_web σ x1 = some o) (kr : sn_Kr p l e rmX9_web s m args below meth c Q D ct ad layM A cX9_web .ireturn (true) o.2 [.int o.1]) : sn_At p l e rmX9_web s m args below meth c Q D ct ad layM A 6 σ 0 [(0, .ref (ad 0)), (1, .int x1)] [] := by
  intro H locs ls hw hl
  have hx := C.1
  have hb := C.2.1
  unfold fX9_web at hf
  refine lv_aload_n hx hb dX9_web_0 rfl (lv_at hl 0 rfl) ?_
  obtain ⟨t_1, h_2, hf⟩ := sn_bd hf
  refine sn_callVv (rest := []) C hw (ctX9_asItIs l  h_2) kl_RX9_263 layM_0 rfl rfl rfl rfl (Nat.le_of_ble_eq_true rfl) dX9_web_1 hl.1 (fun H locs hw => ?_)
  refine lv_aload_n hx hb dX9_web_4 rfl (lv_at hl 0 rfl) ?_
  refine lv_iload_n hx hb dX9_web_5 rfl (lv_at hl 1 rfl) ?_
  refine lv_i2l hx hb dX9_web_6 rfl ?_
  obtain ⟨t_3, h_4, hf⟩ := sn_bd hf
  refine sn_callVi (rest := []) C hw (ctX9_isPerson l  h_4) kl_RX9_224 layM_0 rfl rfl rfl rfl (Nat.le_of_ble_eq_true rfl) dX9_web_7 hl.1 (fun H locs hw => ?_)
  refine lv_if_ne (tgt := 16) hx hb dX9_web_10 (by decide) (fun c_5 => ?_) (fun c_5 => ?_)
  · have hf := sn_el c_5 hf
    refine lv_iconst (v := 1) hx hb dX9_web_16 rfl ?_
    refine lv_iload_n hx hb dX9_web_17 rfl (lv_at hl 1 rfl) ?_
    refine lv_ishl hx hb dX9_web_18 ?_
    obtain ⟨y_6, e_7, hf⟩ := sn_ltE hf
    refine lv_topi (fun y_6_ e_7_ => ?_)
    obtain rfl : y_6 = y_6_ := e_7.trans e_7_.symm
    refine lv_istore_n (lv' := [(2, .int y_6), (0, .ref (ad 0)), (1, .int x1)]) hx hb dX9_web_19 rfl hl (by decide) rfl (fun ls hl => ?_)
    refine lv_iconst (v := 0) hx hb dX9_web_20 rfl ?_
    refine lv_istore_n (lv' := [(3, .int (0 : Int32)), (2, .int y_6), (0, .ref (ad 0)), (1, .int x1)]) hx hb dX9_web_21 rfl hl (by decide) rfl (fun ls hl => ?_)
    obtain ⟨t_8, h_9, hf⟩ := sn_bd hf
    exact wX9_web_L22 C  h_9 (fun v e => by cases e; exact wX9_web_83 C  hf kr) _ _ _ hw (lv_sub hl [2, 1, 0] rfl)
  · have hf := sn_if c_5 hf
    refine lv_bipush (v := (-2)) hx hb dX9_web_13 (by decide) ?_
    cases hf
    exact kr _ _ _ _ hw rfl dX9_web_15
theorem ctX9_web (l : Launch) {σ : sn_S} {x1 : Int32}  {o : (Int32 × sn_S)} (hf : fX9_web σ x1 = some o) : sn_M l yX9_web cX9_web 6 (some .int) rmX9_web layM (fun ad => [.ref (ad 0), .int x1]) σ (some (fun _ => .int o.1)) o.2 :=
  sn_met (by decide) (fun _ => Nat.le_of_ble_eq_true rfl) (fun p e s m args below meth c ls D ct ad A C hw hl => wX9_web_in C  hf (fun H locs ls pc hw ok hd => sn_iret C hw hd) _ _ _ hw hl)
-- X9_spreads
abbrev rmX9_spreads : Room := { frames := 6, cells := 0, slots := 0, locals := 136 }
def BX9_spreads_111 (σ : sn_S) (x2 : Int32) : Option ((Int32 × sn_S)) :=
  (some (x2, σ))
def BX9_spreads_103 (σ : sn_S) (x1 : Int32) (x2 : Int32) (x3 : Int32) (t0 : Int32) (t1 : Int32) : Option ((Int32 × Int32) ⊕ (Int32)) :=
  (sn_lt (t0 ||| t1) fun y_1 => (sn_lt (x3 + 1) fun y_3 => (some (.inl (y_1, y_3)))))
def BX9_spreads_102 (σ : sn_S) (x1 : Int32) (x2 : Int32) (x3 : Int32) (t0 : Int32) : Option ((Int32 × Int32) ⊕ (Int32)) :=
  (BX9_spreads_103 σ x1 x2 x3 t0 (0 : Int32))
def BX9_spreads_62 (σ : sn_S) (x1 : Int32) (x2 : Int32) (x3 : Int32) : Option ((Int32 × Int32) ⊕ (Int32)) :=
  (sn_gd (sn_in (5 : Int32) 119) (if (sn_I σ 1 (5 : Int32).toNatClampNeg) ≤ x3 then
  (some (.inr (x2)))
  else
  (if x3 = x1 then
  (BX9_spreads_102 σ x1 x2 x3 x2)
  else
  (sn_gd (sn_in x3 6) ((fX9_bits (sn_I σ 10 x3.toNatClampNeg)).bind fun t_5 => (sn_gd (sn_in x3 6) (if (sn_I σ 15 x3.toNatClampNeg) ≤ t_5 then
  (BX9_spreads_102 σ x1 x2 x3 x2)
  else
  (BX9_spreads_103 σ x1 x2 x3 x2 ((1 : Int32) <<< (x3 &&& 31))))))))))
def LX9_spreads_62 (σ : sn_S) (x1 : Int32) (s : Int32 × Int32) : Option ((Int32 × Int32) ⊕ (Int32)) := BX9_spreads_62 σ x1 s.1 s.2
def BX9_spreads_40 (σ : sn_S) (x1 : Int32) : Option ((Int32 × sn_S)) :=
  ((fX9_minutes σ).bind fun t_1 => (sn_gd (sn_in x1 6) (sn_lt (sn_pI σ 8 x1.toNatClampNeg (((1 : Int32) <<< (t_1 &&& 31)) - (1 : Int32))) fun σ_4 => ((fX9_goAll σ_4).bind fun t_6 => ((sn_it (LX9_spreads_62 t_6 x1) 5000 ((0 : Int32), (0 : Int32))).bind fun t_8 => (BX9_spreads_111 t_6 t_8))))))
def BX9_spreads_13 (σ : sn_S) (x1 : Int32) (x2 : Int32) : Option ((sn_S × Int32) ⊕ (sn_S)) :=
  (if (6 : Int32) ≤ x2 then
  (some (.inr (σ)))
  else
  (sn_gd (sn_in x2 6) ((fX9_bits (sn_I σ 10 x2.toNatClampNeg)).bind fun t_3 => (sn_gd (sn_in x2 6) (sn_lt (sn_pI σ 15 x2.toNatClampNeg t_3) fun σ_6 => (sn_lt (x2 + 1) fun y_8 => (some (.inl (σ_6, y_8)))))))))
def LX9_spreads_13 (x1 : Int32) (s : sn_S × Int32) : Option ((sn_S × Int32) ⊕ (sn_S)) := BX9_spreads_13 s.1 x1 s.2
def fX9_spreads (σ : sn_S) (x1 : Int32) : Option (Int32 × sn_S) :=
  ((fX9_asksPerson σ x1).bind fun t_1 => (if t_1.1 = 0 then
  (some ((-2 : Int32), t_1.2))
  else
  ((sn_it (LX9_spreads_13 x1) 5000 (t_1.2, (0 : Int32))).bind fun t_4 => (BX9_spreads_40 t_4 x1))))
theorem wX9_spreads_111 (C : sn_C p s m args meth c RX9 cX9_spreads 4 (some .int) D ct ad layM A) {σ : sn_S} {x2 : Int32}  {o : (Int32 × sn_S)} (hf : BX9_spreads_111 σ x2 = some o) (kr : sn_Kr p l e rmX9_spreads s m args below meth c Q D ct ad layM A cX9_spreads .ireturn (true) o.2 [.int o.1]) : sn_At p l e rmX9_spreads s m args below meth c Q D ct ad layM A 4 σ 111 [(2, .int x2)] [] := by
  intro H locs ls hw hl
  have hx := C.1
  have hb := C.2.1
  unfold BX9_spreads_111 at hf
  refine lv_iload_n hx hb dX9_spreads_111 rfl (lv_at hl 0 rfl) ?_
  cases hf
  exact kr _ _ _ _ hw rfl dX9_spreads_112
theorem wX9_spreads_103 (C : sn_C p s m args meth c RX9 cX9_spreads 4 (some .int) D ct ad layM A) {σ : sn_S} {x1 : Int32} {x2 : Int32} {x3 : Int32} {t0 : Int32} {t1 : Int32}  {o : (Int32 × Int32) ⊕ (Int32)} (hf : BX9_spreads_103 σ x1 x2 x3 t0 t1 = some o) (kc : ∀ v, o = .inl v → sn_At p l e rmX9_spreads s m args below meth c Q D ct ad layM A 4 σ 62 [(0, .ref (ad 0)), (1, .int x1), (2, .int v.1), (3, .int v.2)] []) (kx : ∀ v, o = .inr v → sn_At p l e rmX9_spreads s m args below meth c Q D ct ad layM A 4 σ 111 [(2, .int v)] []) : sn_At p l e rmX9_spreads s m args below meth c Q D ct ad layM A 4 σ 103 [(0, .ref (ad 0)), (1, .int x1), (2, .int x2), (3, .int x3)] [.int t1, .int t0] := by
  intro H locs ls hw hl
  have hx := C.1
  have hb := C.2.1
  unfold BX9_spreads_103 at hf
  refine lv_ior hx hb dX9_spreads_103 ?_
  obtain ⟨y_1, e_2, hf⟩ := sn_ltE hf
  refine lv_topi (fun y_1_ e_2_ => ?_)
  obtain rfl : y_1 = y_1_ := e_2.trans e_2_.symm
  refine lv_istore_n (lv' := [(2, .int y_1), (0, .ref (ad 0)), (1, .int x1), (3, .int x3)]) hx hb dX9_spreads_104 rfl hl (by decide) rfl (fun ls hl => ?_)
  obtain ⟨y_3, e_4, hf⟩ := sn_ltE hf
  refine lv_iinc (v := y_3) (lv' := [(3, .int y_3), (2, .int y_1), (0, .ref (ad 0)), (1, .int x1)]) hx hb dX9_spreads_105 hl (k := 3) rfl (by rw [e_4]; rfl) (by decide) rfl (fun ls hl => ?_)
  refine lv_goto (tgt := 62) hx hb dX9_spreads_108 (by decide) ?_
  cases hf
  exact kc _ rfl _ _ _ hw (lv_sub hl [2, 3, 1, 0] rfl)
theorem wX9_spreads_102 (C : sn_C p s m args meth c RX9 cX9_spreads 4 (some .int) D ct ad layM A) {σ : sn_S} {x1 : Int32} {x2 : Int32} {x3 : Int32} {t0 : Int32}  {o : (Int32 × Int32) ⊕ (Int32)} (hf : BX9_spreads_102 σ x1 x2 x3 t0 = some o) (kc : ∀ v, o = .inl v → sn_At p l e rmX9_spreads s m args below meth c Q D ct ad layM A 4 σ 62 [(0, .ref (ad 0)), (1, .int x1), (2, .int v.1), (3, .int v.2)] []) (kx : ∀ v, o = .inr v → sn_At p l e rmX9_spreads s m args below meth c Q D ct ad layM A 4 σ 111 [(2, .int v)] []) : sn_At p l e rmX9_spreads s m args below meth c Q D ct ad layM A 4 σ 102 [(0, .ref (ad 0)), (1, .int x1), (2, .int x2), (3, .int x3)] [.int t0] := by
  intro H locs ls hw hl
  have hx := C.1
  have hb := C.2.1
  unfold BX9_spreads_102 at hf
  refine lv_iconst (v := 0) hx hb dX9_spreads_102 rfl ?_
  exact wX9_spreads_103 C  hf kc kx _ _ _ hw (lv_sub hl [0, 1, 2, 3] rfl)
theorem wX9_spreads_62 (C : sn_C p s m args meth c RX9 cX9_spreads 4 (some .int) D ct ad layM A) {σ : sn_S} {x1 : Int32} {x2 : Int32} {x3 : Int32}  {o : (Int32 × Int32) ⊕ (Int32)} (hf : BX9_spreads_62 σ x1 x2 x3 = some o) (kc : ∀ v, o = .inl v → sn_At p l e rmX9_spreads s m args below meth c Q D ct ad layM A 4 σ 62 [(0, .ref (ad 0)), (1, .int x1), (2, .int v.1), (3, .int v.2)] []) (kx : ∀ v, o = .inr v → sn_At p l e rmX9_spreads s m args below meth c Q D ct ad layM A 4 σ 111 [(2, .int v)] []) : sn_At p l e rmX9_spreads s m args below meth c Q D ct ad layM A 4 σ 62 [(0, .ref (ad 0)), (1, .int x1), (2, .int x2), (3, .int x3)] [] := by
  intro H locs ls hw hl
  have hx := C.1
  have hb := C.2.1
  unfold BX9_spreads_62 at hf
  refine lv_iload_n hx hb dX9_spreads_62 rfl (lv_at hl 3 rfl) ?_
  refine lv_aload_n hx hb dX9_spreads_63 rfl (lv_at hl 0 rfl) ?_
  refine sn_getC (r := 1) C hw fd_RX9_9 layM_0 rfl dX9_spreads_64 ?_
  refine lv_iconst (v := 5) hx hb dX9_spreads_67 rfl ?_
  obtain ⟨g_1, hf⟩ := sn_gdE hf
  refine sn_iald C hw layM_1 g_1 dX9_spreads_68 ?_
  refine lv_icmp_ge (tgt := 111) hx hb dX9_spreads_69 (by decide) (fun c_2 => ?_) (fun c_2 => ?_)
  · have hf := sn_if c_2 hf
    cases hf
    exact kx _ rfl _ _ _ hw (lv_sub hl [2] rfl)
  · have hf := sn_el c_2 hf
    refine lv_iload_n hx hb dX9_spreads_72 rfl (lv_at hl 2 rfl) ?_
    refine lv_iload_n hx hb dX9_spreads_73 rfl (lv_at hl 3 rfl) ?_
    refine lv_iload_n hx hb dX9_spreads_74 rfl (lv_at hl 1 rfl) ?_
    refine lv_icmp_eq (tgt := 102) hx hb dX9_spreads_75 (by decide) (fun c_3 => ?_) (fun c_3 => ?_)
    · have hf := sn_if c_3 hf
      exact wX9_spreads_102 C  hf kc kx _ _ _ hw (lv_sub hl [0, 1, 2, 3] rfl)
    · have hf := sn_el c_3 hf
      refine lv_aload_n hx hb dX9_spreads_78 rfl (lv_at hl 0 rfl) ?_
      refine sn_getC (r := 10) C hw fd_RX9_43 layM_0 rfl dX9_spreads_79 ?_
      refine lv_iload_n hx hb dX9_spreads_82 rfl (lv_at hl 3 rfl) ?_
      obtain ⟨g_4, hf⟩ := sn_gdE hf
      refine sn_iald C hw layM_10 g_4 dX9_spreads_83 ?_
      obtain ⟨t_5, h_6, hf⟩ := sn_bd hf
      refine sn_callSi (rest := [.int x2]) C hw (ctX9_bits l  h_6) kl_RX9_278 rfl rfl rfl (Nat.le_of_ble_eq_true rfl) dX9_spreads_84 hl.1 (fun H locs hw => ?_)
      refine lv_aload_n hx hb dX9_spreads_87 rfl (lv_at hl 0 rfl) ?_
      refine sn_getC (r := 15) C hw fd_RX9_58 layM_0 rfl dX9_spreads_88 ?_
      refine lv_iload_n hx hb dX9_spreads_91 rfl (lv_at hl 3 rfl) ?_
      obtain ⟨g_7, hf⟩ := sn_gdE hf
      refine sn_iald C hw layM_15 g_7 dX9_spreads_92 ?_
      refine lv_icmp_ge (tgt := 102) hx hb dX9_spreads_93 (by decide) (fun c_8 => ?_) (fun c_8 => ?_)
      · have hf := sn_if c_8 hf
        exact wX9_spreads_102 C  hf kc kx _ _ _ hw (lv_sub hl [0, 1, 2, 3] rfl)
      · have hf := sn_el c_8 hf
        refine lv_iconst (v := 1) hx hb dX9_spreads_96 rfl ?_
        refine lv_iload_n hx hb dX9_spreads_97 rfl (lv_at hl 3 rfl) ?_
        refine lv_ishl hx hb dX9_spreads_98 ?_
        refine lv_goto (tgt := 103) hx hb dX9_spreads_99 (by decide) ?_
        exact wX9_spreads_103 C  hf kc kx _ _ _ hw (lv_sub hl [0, 1, 2, 3] rfl)
theorem wX9_spreads_L62 (C : sn_C p s m args meth c RX9 cX9_spreads 4 (some .int) D ct ad layM A) {σ : sn_S} {x1 : Int32}   {z : Int32 × Int32} {t : Int32} (h : sn_it (LX9_spreads_62 σ x1) 5000 z = some t) (kx : ∀ v, t = v → sn_At p l e rmX9_spreads s m args below meth c Q D ct ad layM A 4 σ 111 [(2, .int v)] []) : sn_At p l e rmX9_spreads s m args below meth c Q D ct ad layM A 4 σ 62 [(0, .ref (ad 0)), (1, .int x1), (2, .int z.1), (3, .int z.2)] [] :=
  sn_loop (f := LX9_spreads_62 σ x1) (G := fun z => sn_At p l e rmX9_spreads s m args below meth c Q D ct ad layM A 4 σ 62 [(0, .ref (ad 0)), (1, .int x1), (2, .int z.1), (3, .int z.2)] []) (E := fun t => (∀ v, t = v → sn_At p l e rmX9_spreads s m args below meth c Q D ct ad layM A 4 σ 111 [(2, .int v)] []) ∧ True) (fun z o hf k1 k2 => wX9_spreads_62 C  hf (fun v e => k1 v e) (fun v e => (k2 _ e).1 v rfl)) 5000 z t h ⟨kx, trivial⟩
theorem wX9_spreads_40 (C : sn_C p s m args meth c RX9 cX9_spreads 4 (some .int) D ct ad layM A) {σ : sn_S} {x1 : Int32}  {o : (Int32 × sn_S)} (hf : BX9_spreads_40 σ x1 = some o) (kr : sn_Kr p l e rmX9_spreads s m args below meth c Q D ct ad layM A cX9_spreads .ireturn (true) o.2 [.int o.1]) : sn_At p l e rmX9_spreads s m args below meth c Q D ct ad layM A 4 σ 40 [(0, .ref (ad 0)), (1, .int x1)] [] := by
  intro H locs ls hw hl
  have hx := C.1
  have hb := C.2.1
  unfold BX9_spreads_40 at hf
  refine lv_aload_n hx hb dX9_spreads_40 rfl (lv_at hl 0 rfl) ?_
  refine sn_getC (r := 8) C hw fd_RX9_37 layM_0 rfl dX9_spreads_41 ?_
  refine lv_iload_n hx hb dX9_spreads_44 rfl (lv_at hl 1 rfl) ?_
  refine lv_iconst (v := 1) hx hb dX9_spreads_45 rfl ?_
  refine lv_aload_n hx hb dX9_spreads_46 rfl (lv_at hl 0 rfl) ?_
  obtain ⟨t_1, h_2, hf⟩ := sn_bd hf
  refine sn_callVi (rest := [.int (1 : Int32), .int x1, .ref (ad 8)]) C hw (ctX9_minutes l  h_2) kl_RX9_249 layM_0 rfl rfl rfl rfl (Nat.le_of_ble_eq_true rfl) dX9_spreads_47 hl.1 (fun H locs hw => ?_)
  refine lv_ishl hx hb dX9_spreads_50 ?_
  refine lv_iconst (v := 1) hx hb dX9_spreads_51 rfl ?_
  refine lv_isub hx hb dX9_spreads_52 ?_
  obtain ⟨g_3, hf⟩ := sn_gdE hf
  refine sn_iast C hw layM_8 g_3 dX9_spreads_53 (fun H locs hw => ?_)
  obtain ⟨σ_4, e_5, hf⟩ := sn_ltE hf
  rw [← e_5] at hw
  refine lv_aload_n hx hb dX9_spreads_54 rfl (lv_at hl 0 rfl) ?_
  obtain ⟨t_6, h_7, hf⟩ := sn_bd hf
  refine sn_callVv (rest := []) C hw (ctX9_goAll l  h_7) kl_RX9_266 layM_0 rfl rfl rfl rfl (Nat.le_of_ble_eq_true rfl) dX9_spreads_55 hl.1 (fun H locs hw => ?_)
  refine lv_iconst (v := 0) hx hb dX9_spreads_58 rfl ?_
  refine lv_istore_n (lv' := [(2, .int (0 : Int32)), (0, .ref (ad 0)), (1, .int x1)]) hx hb dX9_spreads_59 rfl hl (by decide) rfl (fun ls hl => ?_)
  refine lv_iconst (v := 0) hx hb dX9_spreads_60 rfl ?_
  refine lv_istore_n (lv' := [(3, .int (0 : Int32)), (2, .int (0 : Int32)), (0, .ref (ad 0)), (1, .int x1)]) hx hb dX9_spreads_61 rfl hl (by decide) rfl (fun ls hl => ?_)
  obtain ⟨t_8, h_9, hf⟩ := sn_bd hf
  exact wX9_spreads_L62 C  h_9 (fun v e => by cases e; exact wX9_spreads_111 C  hf kr) _ _ _ hw (lv_sub hl [2, 3, 1, 0] rfl)
theorem wX9_spreads_13 (C : sn_C p s m args meth c RX9 cX9_spreads 4 (some .int) D ct ad layM A) {σ : sn_S} {x1 : Int32} {x2 : Int32}  {o : (sn_S × Int32) ⊕ (sn_S)} (hf : BX9_spreads_13 σ x1 x2 = some o) (kc : ∀ v, o = .inl v → sn_At p l e rmX9_spreads s m args below meth c Q D ct ad layM A 4 v.1 13 [(0, .ref (ad 0)), (1, .int x1), (2, .int v.2)] []) (kx : ∀ v, o = .inr v → sn_At p l e rmX9_spreads s m args below meth c Q D ct ad layM A 4 v 40 [(0, .ref (ad 0)), (1, .int x1)] []) : sn_At p l e rmX9_spreads s m args below meth c Q D ct ad layM A 4 σ 13 [(0, .ref (ad 0)), (1, .int x1), (2, .int x2)] [] := by
  intro H locs ls hw hl
  have hx := C.1
  have hb := C.2.1
  unfold BX9_spreads_13 at hf
  refine lv_iload_n hx hb dX9_spreads_13 rfl (lv_at hl 2 rfl) ?_
  refine lv_bipush (v := 6) hx hb dX9_spreads_14 (by decide) ?_
  refine lv_icmp_ge (tgt := 40) hx hb dX9_spreads_16 (by decide) (fun c_1 => ?_) (fun c_1 => ?_)
  · have hf := sn_if c_1 hf
    cases hf
    exact kx _ rfl _ _ _ hw (lv_sub hl [0, 1] rfl)
  · have hf := sn_el c_1 hf
    refine lv_aload_n hx hb dX9_spreads_19 rfl (lv_at hl 0 rfl) ?_
    refine sn_getC (r := 15) C hw fd_RX9_58 layM_0 rfl dX9_spreads_20 ?_
    refine lv_iload_n hx hb dX9_spreads_23 rfl (lv_at hl 2 rfl) ?_
    refine lv_aload_n hx hb dX9_spreads_24 rfl (lv_at hl 0 rfl) ?_
    refine sn_getC (r := 10) C hw fd_RX9_43 layM_0 rfl dX9_spreads_25 ?_
    refine lv_iload_n hx hb dX9_spreads_28 rfl (lv_at hl 2 rfl) ?_
    obtain ⟨g_2, hf⟩ := sn_gdE hf
    refine sn_iald C hw layM_10 g_2 dX9_spreads_29 ?_
    obtain ⟨t_3, h_4, hf⟩ := sn_bd hf
    refine sn_callSi (rest := [.int x2, .ref (ad 15)]) C hw (ctX9_bits l  h_4) kl_RX9_278 rfl rfl rfl (Nat.le_of_ble_eq_true rfl) dX9_spreads_30 hl.1 (fun H locs hw => ?_)
    obtain ⟨g_5, hf⟩ := sn_gdE hf
    refine sn_iast C hw layM_15 g_5 dX9_spreads_33 (fun H locs hw => ?_)
    obtain ⟨σ_6, e_7, hf⟩ := sn_ltE hf
    rw [← e_7] at hw
    obtain ⟨y_8, e_9, hf⟩ := sn_ltE hf
    refine lv_iinc (v := y_8) (lv' := [(2, .int y_8), (0, .ref (ad 0)), (1, .int x1)]) hx hb dX9_spreads_34 hl (k := 2) rfl (by rw [e_9]; rfl) (by decide) rfl (fun ls hl => ?_)
    refine lv_goto (tgt := 13) hx hb dX9_spreads_37 (by decide) ?_
    cases hf
    exact kc _ rfl _ _ _ hw (lv_sub hl [1, 2, 0] rfl)
theorem wX9_spreads_L13 (C : sn_C p s m args meth c RX9 cX9_spreads 4 (some .int) D ct ad layM A) {x1 : Int32}   {z : sn_S × Int32} {t : sn_S} (h : sn_it (LX9_spreads_13 x1) 5000 z = some t) (kx : ∀ v, t = v → sn_At p l e rmX9_spreads s m args below meth c Q D ct ad layM A 4 v 40 [(0, .ref (ad 0)), (1, .int x1)] []) : sn_At p l e rmX9_spreads s m args below meth c Q D ct ad layM A 4 z.1 13 [(0, .ref (ad 0)), (1, .int x1), (2, .int z.2)] [] :=
  sn_loop (f := LX9_spreads_13 x1) (G := fun z => sn_At p l e rmX9_spreads s m args below meth c Q D ct ad layM A 4 z.1 13 [(0, .ref (ad 0)), (1, .int x1), (2, .int z.2)] []) (E := fun t => (∀ v, t = v → sn_At p l e rmX9_spreads s m args below meth c Q D ct ad layM A 4 v 40 [(0, .ref (ad 0)), (1, .int x1)] []) ∧ True) (fun z o hf k1 k2 => wX9_spreads_13 C  hf (fun v e => k1 v e) (fun v e => (k2 _ e).1 v rfl)) 5000 z t h ⟨kx, trivial⟩
theorem wX9_spreads_in (C : sn_C p s m args meth c RX9 cX9_spreads 4 (some .int) D ct ad layM A) {σ : sn_S} {x1 : Int32}  {o : (Int32 × sn_S)} (hf : fX9_spreads σ x1 = some o) (kr : sn_Kr p l e rmX9_spreads s m args below meth c Q D ct ad layM A cX9_spreads .ireturn (true) o.2 [.int o.1]) : sn_At p l e rmX9_spreads s m args below meth c Q D ct ad layM A 4 σ 0 [(0, .ref (ad 0)), (1, .int x1)] [] := by
  intro H locs ls hw hl
  have hx := C.1
  have hb := C.2.1
  unfold fX9_spreads at hf
  refine lv_aload_n hx hb dX9_spreads_0 rfl (lv_at hl 0 rfl) ?_
  refine lv_iload_n hx hb dX9_spreads_1 rfl (lv_at hl 1 rfl) ?_
  obtain ⟨t_1, h_2, hf⟩ := sn_bd hf
  refine sn_callVi (rest := []) C hw (ctX9_asksPerson l  h_2) kl_RX9_284 layM_0 rfl rfl rfl rfl (Nat.le_of_ble_eq_true rfl) dX9_spreads_2 hl.1 (fun H locs hw => ?_)
  refine lv_if_ne (tgt := 11) hx hb dX9_spreads_5 (by decide) (fun c_3 => ?_) (fun c_3 => ?_)
  · have hf := sn_el c_3 hf
    refine lv_iconst (v := 0) hx hb dX9_spreads_11 rfl ?_
    refine lv_istore_n (lv' := [(2, .int (0 : Int32)), (0, .ref (ad 0)), (1, .int x1)]) hx hb dX9_spreads_12 rfl hl (by decide) rfl (fun ls hl => ?_)
    obtain ⟨t_4, h_5, hf⟩ := sn_bd hf
    exact wX9_spreads_L13 C  h_5 (fun v e => by cases e; exact wX9_spreads_40 C  hf kr) _ _ _ hw (lv_sub hl [1, 2, 0] rfl)
  · have hf := sn_if c_3 hf
    refine lv_bipush (v := (-2)) hx hb dX9_spreads_8 (by decide) ?_
    cases hf
    exact kr _ _ _ _ hw rfl dX9_spreads_10
theorem ctX9_spreads (l : Launch) {σ : sn_S} {x1 : Int32}  {o : (Int32 × sn_S)} (hf : fX9_spreads σ x1 = some o) : sn_M l yX9_spreads cX9_spreads 4 (some .int) rmX9_spreads layM (fun ad => [.ref (ad 0), .int x1]) σ (some (fun _ => .int o.1)) o.2 :=
  sn_met (by decide) (fun _ => Nat.le_of_ble_eq_true rfl) (fun p e s m args below meth c ls D ct ad A C hw hl => wX9_spreads_in C  hf (fun H locs ls pc hw ok hd => sn_iret C hw hd) _ _ _ hw hl)
-- X9_quietBy
abbrev rmX9_quietBy : Room := { frames := 5, cells := 0, slots := 0, locals := 115 }
def BX9_quietBy_115 (σ : sn_S) (x1 : Int32) (x5 : Int32) (x6 : Int32) : Option ((Int32 × sn_S)) :=
  (sn_gd (sn_in x1 119) (sn_lt (sn_pI σ 1 x1.toNatClampNeg x5) fun σ_2 => (some (x6, σ_2))))
def BX9_quietBy_103 (σ : sn_S) (x1 : Int32) (x3 : Int32) (x4 : Int32) (x5 : Int32) (x6 : Int32) (x7 : Int32) (x8 : Int32) (t0 : Int32) : Option ((sn_S × Int32 × Int32) ⊕ (sn_S × Int32)) :=
  (sn_lt (x8 + x7) fun y_1 => (some (.inl (σ, t0, y_1))))
def BX9_quietBy_90 (σ : sn_S) (x1 : Int32) (x3 : Int32) (x4 : Int32) (x5 : Int32) (x6 : Int32) (x7 : Int32) (x8 : Int32) (t0 : Int32) : Option ((sn_S × Int32 × Int32) ⊕ (sn_S × Int32)) :=
  (if t0 = 0 then
  (BX9_quietBy_103 σ x1 x3 x4 x5 x6 x7 x8 (-1 : Int32))
  else
  (BX9_quietBy_103 σ x1 x3 x4 x5 x6 x7 x8 x8))
def BX9_quietBy_26 (σ : sn_S) (x1 : Int32) (x3 : Int32) (x4 : Int32) (x5 : Int32) (x6 : Int32) (x7 : Int32) (x8 : Int32) : Option ((sn_S × Int32 × Int32) ⊕ (sn_S × Int32)) :=
  (if x8 = (x3 + x7) then
  (some (.inr (σ, x6)))
  else
  (if x6 = (-1 : Int32) then
  (sn_gd (sn_in x1 119) (sn_lt (sn_pI σ 1 x1.toNatClampNeg x8) fun σ_4 => ((fX9_asksHouse σ_4).bind fun t_6 => (if x4 = (-1 : Int32) then
  ((fX9_allSneezes t_6.2).bind fun t_11 => (if t_11 = 0 then
  (BX9_quietBy_90 t_6.2 x1 x3 x4 x5 x6 x7 x8 (1 : Int32))
  else
  (BX9_quietBy_90 t_6.2 x1 x3 x4 x5 x6 x7 x8 (0 : Int32))))
  else
  (sn_gd (sn_in x4 6) (if (sn_I t_6.2 10 x4.toNatClampNeg) = 0 then
  (BX9_quietBy_90 t_6.2 x1 x3 x4 x5 x6 x7 x8 (1 : Int32))
  else
  (BX9_quietBy_90 t_6.2 x1 x3 x4 x5 x6 x7 x8 (0 : Int32))))))))
  else
  (some (.inr (σ, x6)))))
def LX9_quietBy_26 (x1 : Int32) (x3 : Int32) (x4 : Int32) (x5 : Int32) (x7 : Int32) (s : sn_S × Int32 × Int32) : Option ((sn_S × Int32 × Int32) ⊕ (sn_S × Int32)) := BX9_quietBy_26 s.1 x1 x3 x4 x5 s.2.1 x7 s.2.2
def BX9_quietBy_21 (σ : sn_S) (x1 : Int32) (x2 : Int32) (x3 : Int32) (x4 : Int32) (x5 : Int32) (x6 : Int32) (t0 : Int32) : Option ((Int32 × sn_S)) :=
  ((sn_it (LX9_quietBy_26 x1 x3 x4 x5 t0) 5000 (σ, x6, x2)).bind fun t_1 => (BX9_quietBy_115 t_1.1 x1 x5 t_1.2))
def fX9_quietBy (σ : sn_S) (x1 : Int32) (x2 : Int32) (x3 : Int32) (x4 : Int32) : Option (Int32 × sn_S) :=
  (sn_gd (sn_in x1 119) (sn_lt (sn_I σ 1 x1.toNatClampNeg) fun y_2 => (if x2 ≤ x3 then
  (BX9_quietBy_21 σ x1 x2 x3 x4 y_2 (-1 : Int32) (1 : Int32))
  else
  (BX9_quietBy_21 σ x1 x2 x3 x4 y_2 (-1 : Int32) (-1 : Int32)))))
theorem wX9_quietBy_115 (C : sn_C p s m args meth c RX9 cX9_quietBy 10 (some .int) D ct ad layM A) {σ : sn_S} {x1 : Int32} {x5 : Int32} {x6 : Int32}  {o : (Int32 × sn_S)} (hf : BX9_quietBy_115 σ x1 x5 x6 = some o) (kr : sn_Kr p l e rmX9_quietBy s m args below meth c Q D ct ad layM A cX9_quietBy .ireturn (true) o.2 [.int o.1]) : sn_At p l e rmX9_quietBy s m args below meth c Q D ct ad layM A 10 σ 115 [(0, .ref (ad 0)), (1, .int x1), (5, .int x5), (6, .int x6)] [] := by
  intro H locs ls hw hl
  have hx := C.1
  have hb := C.2.1
  unfold BX9_quietBy_115 at hf
  refine lv_aload_n hx hb dX9_quietBy_115 rfl (lv_at hl 0 rfl) ?_
  refine sn_getC (r := 1) C hw fd_RX9_9 layM_0 rfl dX9_quietBy_116 ?_
  refine lv_iload_n hx hb dX9_quietBy_119 rfl (lv_at hl 1 rfl) ?_
  refine lv_iload hx hb dX9_quietBy_120 (lv_at hl 2 rfl) ?_
  obtain ⟨g_1, hf⟩ := sn_gdE hf
  refine sn_iast C hw layM_1 g_1 dX9_quietBy_122 (fun H locs hw => ?_)
  obtain ⟨σ_2, e_3, hf⟩ := sn_ltE hf
  rw [← e_3] at hw
  refine lv_iload hx hb dX9_quietBy_123 (lv_at hl 3 rfl) ?_
  cases hf
  exact kr _ _ _ _ hw rfl dX9_quietBy_125
theorem wX9_quietBy_103 (C : sn_C p s m args meth c RX9 cX9_quietBy 10 (some .int) D ct ad layM A) {σ : sn_S} {x1 : Int32} {x3 : Int32} {x4 : Int32} {x5 : Int32} {x6 : Int32} {x7 : Int32} {x8 : Int32} {t0 : Int32}  {o : (sn_S × Int32 × Int32) ⊕ (sn_S × Int32)} (hf : BX9_quietBy_103 σ x1 x3 x4 x5 x6 x7 x8 t0 = some o) (kc : ∀ v, o = .inl v → sn_At p l e rmX9_quietBy s m args below meth c Q D ct ad layM A 10 v.1 26 [(0, .ref (ad 0)), (1, .int x1), (3, .int x3), (4, .int x4), (5, .int x5), (6, .int v.2.1), (7, .int x7), (8, .int v.2.2)] []) (kx : ∀ v, o = .inr v → sn_At p l e rmX9_quietBy s m args below meth c Q D ct ad layM A 10 v.1 115 [(0, .ref (ad 0)), (1, .int x1), (5, .int x5), (6, .int v.2)] []) : sn_At p l e rmX9_quietBy s m args below meth c Q D ct ad layM A 10 σ 103 [(0, .ref (ad 0)), (1, .int x1), (3, .int x3), (4, .int x4), (5, .int x5), (6, .int x6), (7, .int x7), (8, .int x8)] [.int t0] := by
  intro H locs ls hw hl
  have hx := C.1
  have hb := C.2.1
  unfold BX9_quietBy_103 at hf
  refine lv_istore (lv' := [(6, .int t0), (0, .ref (ad 0)), (1, .int x1), (3, .int x3), (4, .int x4), (5, .int x5), (7, .int x7), (8, .int x8)]) hx hb dX9_quietBy_103 hl (by decide) rfl (fun ls hl => ?_)
  refine lv_iload hx hb dX9_quietBy_105 (lv_at hl 7 rfl) ?_
  refine lv_iload hx hb dX9_quietBy_107 (lv_at hl 6 rfl) ?_
  refine lv_iadd hx hb dX9_quietBy_109 ?_
  obtain ⟨y_1, e_2, hf⟩ := sn_ltE hf
  refine lv_topi (fun y_1_ e_2_ => ?_)
  obtain rfl : y_1 = y_1_ := e_2.trans e_2_.symm
  refine lv_istore (lv' := [(8, .int y_1), (6, .int t0), (0, .ref (ad 0)), (1, .int x1), (3, .int x3), (4, .int x4), (5, .int x5), (7, .int x7)]) hx hb dX9_quietBy_110 hl (by decide) rfl (fun ls hl => ?_)
  refine lv_goto (tgt := 26) hx hb dX9_quietBy_112 (by decide) ?_
  cases hf
  exact kc _ rfl _ _ _ hw (lv_sub hl [2, 3, 4, 5, 6, 1, 7, 0] rfl)
theorem wX9_quietBy_90 (C : sn_C p s m args meth c RX9 cX9_quietBy 10 (some .int) D ct ad layM A) {σ : sn_S} {x1 : Int32} {x3 : Int32} {x4 : Int32} {x5 : Int32} {x6 : Int32} {x7 : Int32} {x8 : Int32} {t0 : Int32}  {o : (sn_S × Int32 × Int32) ⊕ (sn_S × Int32)} (hf : BX9_quietBy_90 σ x1 x3 x4 x5 x6 x7 x8 t0 = some o) (kc : ∀ v, o = .inl v → sn_At p l e rmX9_quietBy s m args below meth c Q D ct ad layM A 10 v.1 26 [(0, .ref (ad 0)), (1, .int x1), (3, .int x3), (4, .int x4), (5, .int x5), (6, .int v.2.1), (7, .int x7), (8, .int v.2.2)] []) (kx : ∀ v, o = .inr v → sn_At p l e rmX9_quietBy s m args below meth c Q D ct ad layM A 10 v.1 115 [(0, .ref (ad 0)), (1, .int x1), (5, .int x5), (6, .int v.2)] []) : sn_At p l e rmX9_quietBy s m args below meth c Q D ct ad layM A 10 σ 90 [(0, .ref (ad 0)), (1, .int x1), (3, .int x3), (4, .int x4), (5, .int x5), (6, .int x6), (7, .int x7), (8, .int x8)] [.int t0] := by
  intro H locs ls hw hl
  have hx := C.1
  have hb := C.2.1
  unfold BX9_quietBy_90 at hf
  refine lv_istore (lv' := [(9, .int t0), (0, .ref (ad 0)), (1, .int x1), (3, .int x3), (4, .int x4), (5, .int x5), (6, .int x6), (7, .int x7), (8, .int x8)]) hx hb dX9_quietBy_90 hl (by decide) rfl (fun ls hl => ?_)
  refine lv_iload hx hb dX9_quietBy_92 (lv_at hl 0 rfl) ?_
  refine lv_if_eq (tgt := 102) hx hb dX9_quietBy_94 (by decide) (fun c_1 => ?_) (fun c_1 => ?_)
  · have hf := sn_if c_1 hf
    refine lv_iconst (v := (-1)) hx hb dX9_quietBy_102 rfl ?_
    exact wX9_quietBy_103 C  hf kc kx _ _ _ hw (lv_sub hl [1, 2, 3, 4, 5, 6, 7, 8] rfl)
  · have hf := sn_el c_1 hf
    refine lv_iload hx hb dX9_quietBy_97 (lv_at hl 8 rfl) ?_
    refine lv_goto (tgt := 103) hx hb dX9_quietBy_99 (by decide) ?_
    exact wX9_quietBy_103 C  hf kc kx _ _ _ hw (lv_sub hl [1, 2, 3, 4, 5, 6, 7, 8] rfl)
theorem wX9_quietBy_26 (C : sn_C p s m args meth c RX9 cX9_quietBy 10 (some .int) D ct ad layM A) {σ : sn_S} {x1 : Int32} {x3 : Int32} {x4 : Int32} {x5 : Int32} {x6 : Int32} {x7 : Int32} {x8 : Int32}  {o : (sn_S × Int32 × Int32) ⊕ (sn_S × Int32)} (hf : BX9_quietBy_26 σ x1 x3 x4 x5 x6 x7 x8 = some o) (kc : ∀ v, o = .inl v → sn_At p l e rmX9_quietBy s m args below meth c Q D ct ad layM A 10 v.1 26 [(0, .ref (ad 0)), (1, .int x1), (3, .int x3), (4, .int x4), (5, .int x5), (6, .int v.2.1), (7, .int x7), (8, .int v.2.2)] []) (kx : ∀ v, o = .inr v → sn_At p l e rmX9_quietBy s m args below meth c Q D ct ad layM A 10 v.1 115 [(0, .ref (ad 0)), (1, .int x1), (5, .int x5), (6, .int v.2)] []) : sn_At p l e rmX9_quietBy s m args below meth c Q D ct ad layM A 10 σ 26 [(0, .ref (ad 0)), (1, .int x1), (3, .int x3), (4, .int x4), (5, .int x5), (6, .int x6), (7, .int x7), (8, .int x8)] [] := by
  intro H locs ls hw hl
  have hx := C.1
  have hb := C.2.1
  unfold BX9_quietBy_26 at hf
  refine lv_iload hx hb dX9_quietBy_26 (lv_at hl 7 rfl) ?_
  refine lv_iload_n hx hb dX9_quietBy_28 rfl (lv_at hl 2 rfl) ?_
  refine lv_iload hx hb dX9_quietBy_29 (lv_at hl 6 rfl) ?_
  refine lv_iadd hx hb dX9_quietBy_31 ?_
  refine lv_icmp_eq (tgt := 115) hx hb dX9_quietBy_32 (by decide) (fun c_1 => ?_) (fun c_1 => ?_)
  · have hf := sn_if c_1 hf
    cases hf
    exact kx _ rfl _ _ _ hw (lv_sub hl [0, 1, 4, 5] rfl)
  · have hf := sn_el c_1 hf
    refine lv_iload hx hb dX9_quietBy_35 (lv_at hl 5 rfl) ?_
    refine lv_iconst (v := (-1)) hx hb dX9_quietBy_37 rfl ?_
    refine lv_icmp_ne (tgt := 115) hx hb dX9_quietBy_38 (by decide) (fun c_2 => ?_) (fun c_2 => ?_)
    · have hf := sn_el c_2 hf
      cases hf
      exact kx _ rfl _ _ _ hw (lv_sub hl [0, 1, 4, 5] rfl)
    · have hf := sn_if c_2 hf
      refine lv_aload_n hx hb dX9_quietBy_41 rfl (lv_at hl 0 rfl) ?_
      refine sn_getC (r := 1) C hw fd_RX9_9 layM_0 rfl dX9_quietBy_42 ?_
      refine lv_iload_n hx hb dX9_quietBy_45 rfl (lv_at hl 1 rfl) ?_
      refine lv_iload hx hb dX9_quietBy_46 (lv_at hl 7 rfl) ?_
      obtain ⟨g_3, hf⟩ := sn_gdE hf
      refine sn_iast C hw layM_1 g_3 dX9_quietBy_48 (fun H locs hw => ?_)
      obtain ⟨σ_4, e_5, hf⟩ := sn_ltE hf
      rw [← e_5] at hw
      refine lv_aload_n hx hb dX9_quietBy_49 rfl (lv_at hl 0 rfl) ?_
      obtain ⟨t_6, h_7, hf⟩ := sn_bd hf
      refine sn_callVi (rest := []) C hw (ctX9_asksHouse l  h_7) kl_RX9_272 layM_0 rfl rfl rfl rfl (Nat.le_of_ble_eq_true rfl) dX9_quietBy_50 hl.1 (fun H locs hw => ?_)
      refine lv_pop hx hb dX9_quietBy_53 rfl ?_
      refine lv_iload hx hb dX9_quietBy_54 (lv_at hl 3 rfl) ?_
      refine lv_iconst (v := (-1)) hx hb dX9_quietBy_56 rfl ?_
      refine lv_icmp_ne (tgt := 75) hx hb dX9_quietBy_57 (by decide) (fun c_8 => ?_) (fun c_8 => ?_)
      · have hf := sn_el c_8 hf
        refine lv_aload_n hx hb dX9_quietBy_75 rfl (lv_at hl 0 rfl) ?_
        refine sn_getC (r := 10) C hw fd_RX9_43 layM_0 rfl dX9_quietBy_76 ?_
        refine lv_iload hx hb dX9_quietBy_79 (lv_at hl 3 rfl) ?_
        obtain ⟨g_9, hf⟩ := sn_gdE hf
        refine sn_iald C hw layM_10 g_9 dX9_quietBy_81 ?_
        refine lv_if_ne (tgt := 89) hx hb dX9_quietBy_82 (by decide) (fun c_10 => ?_) (fun c_10 => ?_)
        · have hf := sn_el c_10 hf
          refine lv_iconst (v := 0) hx hb dX9_quietBy_89 rfl ?_
          exact wX9_quietBy_90 C  hf kc kx _ _ _ hw (lv_sub hl [0, 1, 2, 3, 4, 5, 6, 7] rfl)
        · have hf := sn_if c_10 hf
          refine lv_iconst (v := 1) hx hb dX9_quietBy_85 rfl ?_
          refine lv_goto (tgt := 90) hx hb dX9_quietBy_86 (by decide) ?_
          exact wX9_quietBy_90 C  hf kc kx _ _ _ hw (lv_sub hl [0, 1, 2, 3, 4, 5, 6, 7] rfl)
      · have hf := sn_if c_8 hf
        refine lv_aload_n hx hb dX9_quietBy_60 rfl (lv_at hl 0 rfl) ?_
        obtain ⟨t_11, h_12, hf⟩ := sn_bd hf
        refine sn_callVi (rest := []) C hw (ctX9_allSneezes l  h_12) kl_RX9_290 layM_0 rfl rfl rfl rfl (Nat.le_of_ble_eq_true rfl) dX9_quietBy_61 hl.1 (fun H locs hw => ?_)
        refine lv_if_ne (tgt := 71) hx hb dX9_quietBy_64 (by decide) (fun c_13 => ?_) (fun c_13 => ?_)
        · have hf := sn_el c_13 hf
          refine lv_iconst (v := 0) hx hb dX9_quietBy_71 rfl ?_
          refine lv_goto (tgt := 90) hx hb dX9_quietBy_72 (by decide) ?_
          exact wX9_quietBy_90 C  hf kc kx _ _ _ hw (lv_sub hl [0, 1, 2, 3, 4, 5, 6, 7] rfl)
        · have hf := sn_if c_13 hf
          refine lv_iconst (v := 1) hx hb dX9_quietBy_67 rfl ?_
          refine lv_goto (tgt := 90) hx hb dX9_quietBy_68 (by decide) ?_
          exact wX9_quietBy_90 C  hf kc kx _ _ _ hw (lv_sub hl [0, 1, 2, 3, 4, 5, 6, 7] rfl)
theorem wX9_quietBy_L26 (C : sn_C p s m args meth c RX9 cX9_quietBy 10 (some .int) D ct ad layM A) {x1 : Int32} {x3 : Int32} {x4 : Int32} {x5 : Int32} {x7 : Int32}   {z : sn_S × Int32 × Int32} {t : sn_S × Int32} (h : sn_it (LX9_quietBy_26 x1 x3 x4 x5 x7) 5000 z = some t) (kx : ∀ v, t = v → sn_At p l e rmX9_quietBy s m args below meth c Q D ct ad layM A 10 v.1 115 [(0, .ref (ad 0)), (1, .int x1), (5, .int x5), (6, .int v.2)] []) : sn_At p l e rmX9_quietBy s m args below meth c Q D ct ad layM A 10 z.1 26 [(0, .ref (ad 0)), (1, .int x1), (3, .int x3), (4, .int x4), (5, .int x5), (6, .int z.2.1), (7, .int x7), (8, .int z.2.2)] [] :=
  sn_loop (f := LX9_quietBy_26 x1 x3 x4 x5 x7) (G := fun z => sn_At p l e rmX9_quietBy s m args below meth c Q D ct ad layM A 10 z.1 26 [(0, .ref (ad 0)), (1, .int x1), (3, .int x3), (4, .int x4), (5, .int x5), (6, .int z.2.1), (7, .int x7), (8, .int z.2.2)] []) (E := fun t => (∀ v, t = v → sn_At p l e rmX9_quietBy s m args below meth c Q D ct ad layM A 10 v.1 115 [(0, .ref (ad 0)), (1, .int x1), (5, .int x5), (6, .int v.2)] []) ∧ True) (fun z o hf k1 k2 => wX9_quietBy_26 C  hf (fun v e => k1 v e) (fun v e => (k2 _ e).1 v rfl)) 5000 z t h ⟨kx, trivial⟩
theorem wX9_quietBy_21 (C : sn_C p s m args meth c RX9 cX9_quietBy 10 (some .int) D ct ad layM A) {σ : sn_S} {x1 : Int32} {x2 : Int32} {x3 : Int32} {x4 : Int32} {x5 : Int32} {x6 : Int32} {t0 : Int32}  {o : (Int32 × sn_S)} (hf : BX9_quietBy_21 σ x1 x2 x3 x4 x5 x6 t0 = some o) (kr : sn_Kr p l e rmX9_quietBy s m args below meth c Q D ct ad layM A cX9_quietBy .ireturn (true) o.2 [.int o.1]) : sn_At p l e rmX9_quietBy s m args below meth c Q D ct ad layM A 10 σ 21 [(0, .ref (ad 0)), (1, .int x1), (2, .int x2), (3, .int x3), (4, .int x4), (5, .int x5), (6, .int x6)] [.int t0] := by
  intro H locs ls hw hl
  have hx := C.1
  have hb := C.2.1
  unfold BX9_quietBy_21 at hf
  refine lv_istore (lv' := [(7, .int t0), (0, .ref (ad 0)), (1, .int x1), (2, .int x2), (3, .int x3), (4, .int x4), (5, .int x5), (6, .int x6)]) hx hb dX9_quietBy_21 hl (by decide) rfl (fun ls hl => ?_)
  refine lv_iload_n hx hb dX9_quietBy_23 rfl (lv_at hl 3 rfl) ?_
  refine lv_istore (lv' := [(8, .int x2), (7, .int t0), (0, .ref (ad 0)), (1, .int x1), (2, .int x2), (3, .int x3), (4, .int x4), (5, .int x5), (6, .int x6)]) hx hb dX9_quietBy_24 hl (by decide) rfl (fun ls hl => ?_)
  obtain ⟨t_1, h_2, hf⟩ := sn_bd hf
  exact wX9_quietBy_L26 C  h_2 (fun v e => by cases e; exact wX9_quietBy_115 C  hf kr) _ _ _ hw (lv_sub hl [2, 3, 5, 6, 7, 8, 1, 0] rfl)
theorem wX9_quietBy_in (C : sn_C p s m args meth c RX9 cX9_quietBy 10 (some .int) D ct ad layM A) {σ : sn_S} {x1 : Int32} {x2 : Int32} {x3 : Int32} {x4 : Int32}  {o : (Int32 × sn_S)} (hf : fX9_quietBy σ x1 x2 x3 x4 = some o) (kr : sn_Kr p l e rmX9_quietBy s m args below meth c Q D ct ad layM A cX9_quietBy .ireturn (true) o.2 [.int o.1]) : sn_At p l e rmX9_quietBy s m args below meth c Q D ct ad layM A 10 σ 0 [(0, .ref (ad 0)), (1, .int x1), (2, .int x2), (3, .int x3), (4, .int x4)] [] := by
  intro H locs ls hw hl
  have hx := C.1
  have hb := C.2.1
  unfold fX9_quietBy at hf
  refine lv_aload_n hx hb dX9_quietBy_0 rfl (lv_at hl 0 rfl) ?_
  refine sn_getC (r := 1) C hw fd_RX9_9 layM_0 rfl dX9_quietBy_1 ?_
  refine lv_iload_n hx hb dX9_quietBy_4 rfl (lv_at hl 1 rfl) ?_
  obtain ⟨g_1, hf⟩ := sn_gdE hf
  refine sn_iald C hw layM_1 g_1 dX9_quietBy_5 ?_
  obtain ⟨y_2, e_3, hf⟩ := sn_ltE hf
  refine lv_topi (fun y_2_ e_3_ => ?_)
  obtain rfl : y_2 = y_2_ := e_3.trans e_3_.symm
  refine lv_istore (lv' := [(5, .int y_2), (0, .ref (ad 0)), (1, .int x1), (2, .int x2), (3, .int x3), (4, .int x4)]) hx hb dX9_quietBy_6 hl (by decide) rfl (fun ls hl => ?_)
  refine lv_iconst (v := (-1)) hx hb dX9_quietBy_8 rfl ?_
  refine lv_istore (lv' := [(6, .int (-1 : Int32)), (5, .int y_2), (0, .ref (ad 0)), (1, .int x1), (2, .int x2), (3, .int x3), (4, .int x4)]) hx hb dX9_quietBy_9 hl (by decide) rfl (fun ls hl => ?_)
  refine lv_iload_n hx hb dX9_quietBy_11 rfl (lv_at hl 4 rfl) ?_
  refine lv_iload_n hx hb dX9_quietBy_12 rfl (lv_at hl 5 rfl) ?_
  refine lv_icmp_le (tgt := 20) hx hb dX9_quietBy_13 (by decide) (fun c_4 => ?_) (fun c_4 => ?_)
  · have hf := sn_if c_4 hf
    refine lv_iconst (v := 1) hx hb dX9_quietBy_20 rfl ?_
    exact wX9_quietBy_21 C  hf kr _ _ _ hw (lv_sub hl [2, 3, 4, 5, 6, 1, 0] rfl)
  · have hf := sn_el c_4 hf
    refine lv_iconst (v := (-1)) hx hb dX9_quietBy_16 rfl ?_
    refine lv_goto (tgt := 21) hx hb dX9_quietBy_17 (by decide) ?_
    exact wX9_quietBy_21 C  hf kr _ _ _ hw (lv_sub hl [2, 3, 4, 5, 6, 1, 0] rfl)
theorem ctX9_quietBy (l : Launch) {σ : sn_S} {x1 : Int32} {x2 : Int32} {x3 : Int32} {x4 : Int32}  {o : (Int32 × sn_S)} (hf : fX9_quietBy σ x1 x2 x3 x4 = some o) : sn_M l yX9_quietBy cX9_quietBy 10 (some .int) rmX9_quietBy layM (fun ad => [.ref (ad 0), .int x1, .int x2, .int x3, .int x4]) σ (some (fun _ => .int o.1)) o.2 :=
  sn_met (by decide) (fun _ => Nat.le_of_ble_eq_true rfl) (fun p e s m args below meth c ls D ct ad A C hw hl => wX9_quietBy_in C  hf (fun H locs ls pc hw ok hd => sn_iret C hw hd) _ _ _ hw hl)
-- X9_dull
abbrev rmX9_dull : Room := { frames := 6, cells := 0, slots := 0, locals := 144 }
def fX9_dull (σ : sn_S) (x1 : Int32) : Option (Int32 × sn_S) :=
  ((fX9_isPerson σ x1.toInt64).bind fun t_1 => (if t_1 = 0 then
  (some ((-2 : Int32), σ))
  else
  ((fX9_quietBy σ ((11 : Int32) + ((2 : Int32) * x1)) (9 : Int32) (0 : Int32) x1).bind fun t_4 => (some (t_4.1, t_4.2)))))
theorem wX9_dull_in (C : sn_C p s m args meth c RX9 cX9_dull 2 (some .int) D ct ad layM A) {σ : sn_S} {x1 : Int32}  {o : (Int32 × sn_S)} (hf : fX9_dull σ x1 = some o) (kr : sn_Kr p l e rmX9_dull s m args below meth c Q D ct ad layM A cX9_dull .ireturn (true) o.2 [.int o.1]) : sn_At p l e rmX9_dull s m args below meth c Q D ct ad layM A 2 σ 0 [(0, .ref (ad 0)), (1, .int x1)] [] := by
  intro H locs ls hw hl
  have hx := C.1
  have hb := C.2.1
  unfold fX9_dull at hf
  refine lv_aload_n hx hb dX9_dull_0 rfl (lv_at hl 0 rfl) ?_
  refine lv_iload_n hx hb dX9_dull_1 rfl (lv_at hl 1 rfl) ?_
  refine lv_i2l hx hb dX9_dull_2 rfl ?_
  obtain ⟨t_1, h_2, hf⟩ := sn_bd hf
  refine sn_callVi (rest := []) C hw (ctX9_isPerson l  h_2) kl_RX9_224 layM_0 rfl rfl rfl rfl (Nat.le_of_ble_eq_true rfl) dX9_dull_3 hl.1 (fun H locs hw => ?_)
  refine lv_if_eq (tgt := 26) hx hb dX9_dull_6 (by decide) (fun c_3 => ?_) (fun c_3 => ?_)
  · have hf := sn_if c_3 hf
    refine lv_bipush (v := (-2)) hx hb dX9_dull_26 (by decide) ?_
    cases hf
    exact kr _ _ _ _ hw rfl dX9_dull_28
  · have hf := sn_el c_3 hf
    refine lv_aload_n hx hb dX9_dull_9 rfl (lv_at hl 0 rfl) ?_
    refine lv_bipush (v := 11) hx hb dX9_dull_10 (by decide) ?_
    refine lv_iconst (v := 2) hx hb dX9_dull_12 rfl ?_
    refine lv_iload_n hx hb dX9_dull_13 rfl (lv_at hl 1 rfl) ?_
    refine lv_imul hx hb dX9_dull_14 ?_
    refine lv_iadd hx hb dX9_dull_15 ?_
    refine lv_bipush (v := 9) hx hb dX9_dull_16 (by decide) ?_
    refine lv_iconst (v := 0) hx hb dX9_dull_18 rfl ?_
    refine lv_iload_n hx hb dX9_dull_19 rfl (lv_at hl 1 rfl) ?_
    obtain ⟨t_4, h_5, hf⟩ := sn_bd hf
    refine sn_callVi (rest := []) C hw (ctX9_quietBy l  h_5) kl_RX9_300 layM_0 rfl rfl rfl rfl (Nat.le_of_ble_eq_true rfl) dX9_dull_20 hl.1 (fun H locs hw => ?_)
    refine lv_goto (tgt := 28) hx hb dX9_dull_23 (by decide) ?_
    cases hf
    exact kr _ _ _ _ hw rfl dX9_dull_28
theorem ctX9_dull (l : Launch) {σ : sn_S} {x1 : Int32}  {o : (Int32 × sn_S)} (hf : fX9_dull σ x1 = some o) : sn_M l yX9_dull cX9_dull 2 (some .int) rmX9_dull layM (fun ad => [.ref (ad 0), .int x1]) σ (some (fun _ => .int o.1)) o.2 :=
  sn_met (by decide) (fun _ => Nat.le_of_ble_eq_true rfl) (fun p e s m args below meth c ls D ct ad A C hw hl => wX9_dull_in C  hf (fun H locs ls pc hw ok hd => sn_iret C hw hd) _ _ _ hw hl)
-- X9_bears
abbrev rmX9_bears : Room := { frames := 6, cells := 0, slots := 0, locals := 144 }
def fX9_bears (σ : sn_S) (x1 : Int32) : Option (Int32 × sn_S) :=
  ((fX9_isPerson σ x1.toInt64).bind fun t_1 => (if t_1 = 0 then
  (some ((-2 : Int32), σ))
  else
  ((fX9_quietBy σ (((11 : Int32) + ((2 : Int32) * x1)) + (1 : Int32)) (1 : Int32) (99 : Int32) x1).bind fun t_4 => (some (t_4.1, t_4.2)))))
theorem wX9_bears_in (C : sn_C p s m args meth c RX9 cX9_bears 2 (some .int) D ct ad layM A) {σ : sn_S} {x1 : Int32}  {o : (Int32 × sn_S)} (hf : fX9_bears σ x1 = some o) (kr : sn_Kr p l e rmX9_bears s m args below meth c Q D ct ad layM A cX9_bears .ireturn (true) o.2 [.int o.1]) : sn_At p l e rmX9_bears s m args below meth c Q D ct ad layM A 2 σ 0 [(0, .ref (ad 0)), (1, .int x1)] [] := by
  intro H locs ls hw hl
  have hx := C.1
  have hb := C.2.1
  unfold fX9_bears at hf
  refine lv_aload_n hx hb dX9_bears_0 rfl (lv_at hl 0 rfl) ?_
  refine lv_iload_n hx hb dX9_bears_1 rfl (lv_at hl 1 rfl) ?_
  refine lv_i2l hx hb dX9_bears_2 rfl ?_
  obtain ⟨t_1, h_2, hf⟩ := sn_bd hf
  refine sn_callVi (rest := []) C hw (ctX9_isPerson l  h_2) kl_RX9_224 layM_0 rfl rfl rfl rfl (Nat.le_of_ble_eq_true rfl) dX9_bears_3 hl.1 (fun H locs hw => ?_)
  refine lv_if_eq (tgt := 28) hx hb dX9_bears_6 (by decide) (fun c_3 => ?_) (fun c_3 => ?_)
  · have hf := sn_if c_3 hf
    refine lv_bipush (v := (-2)) hx hb dX9_bears_28 (by decide) ?_
    cases hf
    exact kr _ _ _ _ hw rfl dX9_bears_30
  · have hf := sn_el c_3 hf
    refine lv_aload_n hx hb dX9_bears_9 rfl (lv_at hl 0 rfl) ?_
    refine lv_bipush (v := 11) hx hb dX9_bears_10 (by decide) ?_
    refine lv_iconst (v := 2) hx hb dX9_bears_12 rfl ?_
    refine lv_iload_n hx hb dX9_bears_13 rfl (lv_at hl 1 rfl) ?_
    refine lv_imul hx hb dX9_bears_14 ?_
    refine lv_iadd hx hb dX9_bears_15 ?_
    refine lv_iconst (v := 1) hx hb dX9_bears_16 rfl ?_
    refine lv_iadd hx hb dX9_bears_17 ?_
    refine lv_iconst (v := 1) hx hb dX9_bears_18 rfl ?_
    refine lv_bipush (v := 99) hx hb dX9_bears_19 (by decide) ?_
    refine lv_iload_n hx hb dX9_bears_21 rfl (lv_at hl 1 rfl) ?_
    obtain ⟨t_4, h_5, hf⟩ := sn_bd hf
    refine sn_callVi (rest := []) C hw (ctX9_quietBy l  h_5) kl_RX9_300 layM_0 rfl rfl rfl rfl (Nat.le_of_ble_eq_true rfl) dX9_bears_22 hl.1 (fun H locs hw => ?_)
    refine lv_goto (tgt := 30) hx hb dX9_bears_25 (by decide) ?_
    cases hf
    exact kr _ _ _ _ hw rfl dX9_bears_30
theorem ctX9_bears (l : Launch) {σ : sn_S} {x1 : Int32}  {o : (Int32 × sn_S)} (hf : fX9_bears σ x1 = some o) : sn_M l yX9_bears cX9_bears 2 (some .int) rmX9_bears layM (fun ad => [.ref (ad 0), .int x1]) σ (some (fun _ => .int o.1)) o.2 :=
  sn_met (by decide) (fun _ => Nat.le_of_ble_eq_true rfl) (fun p e s m args below meth c ls D ct ad A C hw hl => wX9_bears_in C  hf (fun H locs ls pc hw ok hd => sn_iret C hw hd) _ _ _ hw hl)
-- X9_clean
abbrev rmX9_clean : Room := { frames := 6, cells := 0, slots := 0, locals := 144 }
def fX9_clean (σ : sn_S) : Option (Int32 × sn_S) :=
  ((fX9_isHouse σ).bind fun t_1 => (if t_1 = 0 then
  (some ((-2 : Int32), σ))
  else
  ((fX9_quietBy σ (1 : Int32) (9 : Int32) (0 : Int32) (-1 : Int32)).bind fun t_4 => (some (t_4.1, t_4.2)))))
theorem wX9_clean_in (C : sn_C p s m args meth c RX9 cX9_clean 1 (some .int) D ct ad layM A) {σ : sn_S}  {o : (Int32 × sn_S)} (hf : fX9_clean σ = some o) (kr : sn_Kr p l e rmX9_clean s m args below meth c Q D ct ad layM A cX9_clean .ireturn (true) o.2 [.int o.1]) : sn_At p l e rmX9_clean s m args below meth c Q D ct ad layM A 1 σ 0 [(0, .ref (ad 0))] [] := by
  intro H locs ls hw hl
  have hx := C.1
  have hb := C.2.1
  unfold fX9_clean at hf
  refine lv_aload_n hx hb dX9_clean_0 rfl (lv_at hl 0 rfl) ?_
  obtain ⟨t_1, h_2, hf⟩ := sn_bd hf
  refine sn_callVi (rest := []) C hw (ctX9_isHouse l  h_2) kl_RX9_269 layM_0 rfl rfl rfl rfl (Nat.le_of_ble_eq_true rfl) dX9_clean_1 hl.1 (fun H locs hw => ?_)
  refine lv_if_eq (tgt := 19) hx hb dX9_clean_4 (by decide) (fun c_3 => ?_) (fun c_3 => ?_)
  · have hf := sn_if c_3 hf
    refine lv_bipush (v := (-2)) hx hb dX9_clean_19 (by decide) ?_
    cases hf
    exact kr _ _ _ _ hw rfl dX9_clean_21
  · have hf := sn_el c_3 hf
    refine lv_aload_n hx hb dX9_clean_7 rfl (lv_at hl 0 rfl) ?_
    refine lv_iconst (v := 1) hx hb dX9_clean_8 rfl ?_
    refine lv_bipush (v := 9) hx hb dX9_clean_9 (by decide) ?_
    refine lv_iconst (v := 0) hx hb dX9_clean_11 rfl ?_
    refine lv_iconst (v := (-1)) hx hb dX9_clean_12 rfl ?_
    obtain ⟨t_4, h_5, hf⟩ := sn_bd hf
    refine sn_callVi (rest := []) C hw (ctX9_quietBy l  h_5) kl_RX9_300 layM_0 rfl rfl rfl rfl (Nat.le_of_ble_eq_true rfl) dX9_clean_13 hl.1 (fun H locs hw => ?_)
    refine lv_goto (tgt := 21) hx hb dX9_clean_16 (by decide) ?_
    cases hf
    exact kr _ _ _ _ hw rfl dX9_clean_21
theorem ctX9_clean (l : Launch) {σ : sn_S}  {o : (Int32 × sn_S)} (hf : fX9_clean σ = some o) : sn_M l yX9_clean cX9_clean 1 (some .int) rmX9_clean layM (fun ad => [.ref (ad 0)]) σ (some (fun _ => .int o.1)) o.2 :=
  sn_met (by decide) (fun _ => Nat.le_of_ble_eq_true rfl) (fun p e s m args below meth c ls D ct ad A C hw hl => wX9_clean_in C  hf (fun H locs ls pc hw ok hd => sn_iret C hw hd) _ _ _ hw hl)
-- X9_windowOf
abbrev rmX9_windowOf : Room := { frames := 1, cells := 0, slots := 0, locals := 22 }
def BX9_windowOf_39 (σ : sn_S) (x2 : Int32) : Option (Int32) :=
  (some x2)
def BX9_windowOf_9 (σ : sn_S) (x1 : Int32) (x2 : Int32) (x3 : Int32) : Option ((Int32 × Int32) ⊕ (Int32)) :=
  ((fX9_of σ x1 (2 : Int32)).bind fun t_1 => (if t_1 < x3 then
  (some (.inr (x2)))
  else
  (if (sn_I σ 0 22) < x3 then
  (some (.inr (x2)))
  else
  (sn_lt (x2 ||| ((1 : Int32) <<< (x3 &&& 31))) fun y_5 => (sn_lt (x3 + 1) fun y_7 => (some (.inl (y_5, y_7))))))))
def LX9_windowOf_9 (σ : sn_S) (x1 : Int32) (s : Int32 × Int32) : Option ((Int32 × Int32) ⊕ (Int32)) := BX9_windowOf_9 σ x1 s.1 s.2
def fX9_windowOf (σ : sn_S) (x1 : Int32) : Option Int32 :=
  ((fX9_of σ x1 (1 : Int32)).bind fun t_1 => ((sn_it (LX9_windowOf_9 σ x1) 5000 ((0 : Int32), t_1)).bind fun t_3 => (BX9_windowOf_39 σ t_3)))
theorem wX9_windowOf_39 (C : sn_C p s m args meth c RX9 cX9_windowOf 4 (some .int) D ct ad layM A) {σ : sn_S} {x2 : Int32}  {o : Int32} (hf : BX9_windowOf_39 σ x2 = some o) (kr : sn_Kr p l e rmX9_windowOf s m args below meth c Q D ct ad layM A cX9_windowOf .ireturn (true) σ [.int o]) : sn_At p l e rmX9_windowOf s m args below meth c Q D ct ad layM A 4 σ 39 [(2, .int x2)] [] := by
  intro H locs ls hw hl
  have hx := C.1
  have hb := C.2.1
  unfold BX9_windowOf_39 at hf
  refine lv_iload_n hx hb dX9_windowOf_39 rfl (lv_at hl 0 rfl) ?_
  cases hf
  exact kr _ _ _ _ hw rfl dX9_windowOf_40
theorem wX9_windowOf_9 (C : sn_C p s m args meth c RX9 cX9_windowOf 4 (some .int) D ct ad layM A) {σ : sn_S} {x1 : Int32} {x2 : Int32} {x3 : Int32}  {o : (Int32 × Int32) ⊕ (Int32)} (hf : BX9_windowOf_9 σ x1 x2 x3 = some o) (kc : ∀ v, o = .inl v → sn_At p l e rmX9_windowOf s m args below meth c Q D ct ad layM A 4 σ 9 [(0, .ref (ad 0)), (1, .int x1), (2, .int v.1), (3, .int v.2)] []) (kx : ∀ v, o = .inr v → sn_At p l e rmX9_windowOf s m args below meth c Q D ct ad layM A 4 σ 39 [(2, .int v)] []) : sn_At p l e rmX9_windowOf s m args below meth c Q D ct ad layM A 4 σ 9 [(0, .ref (ad 0)), (1, .int x1), (2, .int x2), (3, .int x3)] [] := by
  intro H locs ls hw hl
  have hx := C.1
  have hb := C.2.1
  unfold BX9_windowOf_9 at hf
  refine lv_iload_n hx hb dX9_windowOf_9 rfl (lv_at hl 3 rfl) ?_
  refine lv_aload_n hx hb dX9_windowOf_10 rfl (lv_at hl 0 rfl) ?_
  refine lv_iload_n hx hb dX9_windowOf_11 rfl (lv_at hl 1 rfl) ?_
  refine lv_iconst (v := 2) hx hb dX9_windowOf_12 rfl ?_
  obtain ⟨t_1, h_2, hf⟩ := sn_bd hf
  refine sn_callVi (rest := [.int x3]) C hw (ctX9_of l  h_2) kl_RX9_234 layM_0 rfl rfl rfl rfl (Nat.le_of_ble_eq_true rfl) dX9_windowOf_13 hl.1 (fun H locs hw => ?_)
  refine lv_icmp_gt (tgt := 39) hx hb dX9_windowOf_16 (by decide) (fun c_3 => ?_) (fun c_3 => ?_)
  · have hf := sn_if c_3 hf
    cases hf
    exact kx _ rfl _ _ _ hw (lv_sub hl [2] rfl)
  · have hf := sn_el c_3 hf
    refine lv_iload_n hx hb dX9_windowOf_19 rfl (lv_at hl 3 rfl) ?_
    refine lv_aload_n hx hb dX9_windowOf_20 rfl (lv_at hl 0 rfl) ?_
    refine sn_getI C hw fd_RX9_251 layM_0 rfl dX9_windowOf_21 ?_
    refine lv_icmp_gt (tgt := 39) hx hb dX9_windowOf_24 (by decide) (fun c_4 => ?_) (fun c_4 => ?_)
    · have hf := sn_if c_4 hf
      cases hf
      exact kx _ rfl _ _ _ hw (lv_sub hl [2] rfl)
    · have hf := sn_el c_4 hf
      refine lv_iload_n hx hb dX9_windowOf_27 rfl (lv_at hl 2 rfl) ?_
      refine lv_iconst (v := 1) hx hb dX9_windowOf_28 rfl ?_
      refine lv_iload_n hx hb dX9_windowOf_29 rfl (lv_at hl 3 rfl) ?_
      refine lv_ishl hx hb dX9_windowOf_30 ?_
      refine lv_ior hx hb dX9_windowOf_31 ?_
      obtain ⟨y_5, e_6, hf⟩ := sn_ltE hf
      refine lv_topi (fun y_5_ e_6_ => ?_)
      obtain rfl : y_5 = y_5_ := e_6.trans e_6_.symm
      refine lv_istore_n (lv' := [(2, .int y_5), (0, .ref (ad 0)), (1, .int x1), (3, .int x3)]) hx hb dX9_windowOf_32 rfl hl (by decide) rfl (fun ls hl => ?_)
      obtain ⟨y_7, e_8, hf⟩ := sn_ltE hf
      refine lv_iinc (v := y_7) (lv' := [(3, .int y_7), (2, .int y_5), (0, .ref (ad 0)), (1, .int x1)]) hx hb dX9_windowOf_33 hl (k := 3) rfl (by rw [e_8]; rfl) (by decide) rfl (fun ls hl => ?_)
      refine lv_goto (tgt := 9) hx hb dX9_windowOf_36 (by decide) ?_
      cases hf
      exact kc _ rfl _ _ _ hw (lv_sub hl [2, 3, 1, 0] rfl)
theorem wX9_windowOf_L9 (C : sn_C p s m args meth c RX9 cX9_windowOf 4 (some .int) D ct ad layM A) {σ : sn_S} {x1 : Int32}   {z : Int32 × Int32} {t : Int32} (h : sn_it (LX9_windowOf_9 σ x1) 5000 z = some t) (kx : ∀ v, t = v → sn_At p l e rmX9_windowOf s m args below meth c Q D ct ad layM A 4 σ 39 [(2, .int v)] []) : sn_At p l e rmX9_windowOf s m args below meth c Q D ct ad layM A 4 σ 9 [(0, .ref (ad 0)), (1, .int x1), (2, .int z.1), (3, .int z.2)] [] :=
  sn_loop (f := LX9_windowOf_9 σ x1) (G := fun z => sn_At p l e rmX9_windowOf s m args below meth c Q D ct ad layM A 4 σ 9 [(0, .ref (ad 0)), (1, .int x1), (2, .int z.1), (3, .int z.2)] []) (E := fun t => (∀ v, t = v → sn_At p l e rmX9_windowOf s m args below meth c Q D ct ad layM A 4 σ 39 [(2, .int v)] []) ∧ True) (fun z o hf k1 k2 => wX9_windowOf_9 C  hf (fun v e => k1 v e) (fun v e => (k2 _ e).1 v rfl)) 5000 z t h ⟨kx, trivial⟩
theorem wX9_windowOf_in (C : sn_C p s m args meth c RX9 cX9_windowOf 4 (some .int) D ct ad layM A) {σ : sn_S} {x1 : Int32}  {o : Int32} (hf : fX9_windowOf σ x1 = some o) (kr : sn_Kr p l e rmX9_windowOf s m args below meth c Q D ct ad layM A cX9_windowOf .ireturn (true) σ [.int o]) : sn_At p l e rmX9_windowOf s m args below meth c Q D ct ad layM A 4 σ 0 [(0, .ref (ad 0)), (1, .int x1)] [] := by
  intro H locs ls hw hl
  have hx := C.1
  have hb := C.2.1
  unfold fX9_windowOf at hf
  refine lv_iconst (v := 0) hx hb dX9_windowOf_0 rfl ?_
  refine lv_istore_n (lv' := [(2, .int (0 : Int32)), (0, .ref (ad 0)), (1, .int x1)]) hx hb dX9_windowOf_1 rfl hl (by decide) rfl (fun ls hl => ?_)
  refine lv_aload_n hx hb dX9_windowOf_2 rfl (lv_at hl 1 rfl) ?_
  refine lv_iload_n hx hb dX9_windowOf_3 rfl (lv_at hl 2 rfl) ?_
  refine lv_iconst (v := 1) hx hb dX9_windowOf_4 rfl ?_
  obtain ⟨t_1, h_2, hf⟩ := sn_bd hf
  refine sn_callVi (rest := []) C hw (ctX9_of l  h_2) kl_RX9_234 layM_0 rfl rfl rfl rfl (Nat.le_of_ble_eq_true rfl) dX9_windowOf_5 hl.1 (fun H locs hw => ?_)
  refine lv_istore_n (lv' := [(3, .int t_1), (2, .int (0 : Int32)), (0, .ref (ad 0)), (1, .int x1)]) hx hb dX9_windowOf_8 rfl hl (by decide) rfl (fun ls hl => ?_)
  obtain ⟨t_3, h_4, hf⟩ := sn_bd hf
  exact wX9_windowOf_L9 C  h_4 (fun v e => by cases e; exact wX9_windowOf_39 C  hf kr) _ _ _ hw (lv_sub hl [2, 3, 1, 0] rfl)
theorem ctX9_windowOf (l : Launch) {σ : sn_S} {x1 : Int32}  {o : Int32} (hf : fX9_windowOf σ x1 = some o) : sn_M l yX9_windowOf cX9_windowOf 4 (some .int) rmX9_windowOf layM (fun ad => [.ref (ad 0), .int x1]) σ (some (fun _ => .int o)) σ :=
  sn_met (by decide) (fun _ => Nat.le_of_ble_eq_true rfl) (fun p e s m args below meth c ls D ct ad A C hw hl => wX9_windowOf_in C  hf (fun H locs ls pc hw ok hd => sn_iret C hw hd) _ _ _ hw hl)
-- X9_ahead
abbrev rmX9_ahead : Room := { frames := 0, cells := 0, slots := 0, locals := 0 }
def fX9_ahead (x1 : Int32) : Option Int32 :=
  (some (((1 : Int32) <<< (x1 &&& 31)) - (1 : Int32)))
theorem wX9_ahead_in (C : sn_C p s m args meth c RX9 cX9_ahead 2 (some .int) D ct ad layM A) {σ : sn_S} {x1 : Int32}  {o : Int32} (hf : fX9_ahead x1 = some o) (kr : sn_Kr p l e rmX9_ahead s m args below meth c Q D ct ad layM A cX9_ahead .ireturn (true) σ [.int o]) : sn_At p l e rmX9_ahead s m args below meth c Q D ct ad layM A 2 σ 0 [(0, .ref (ad 0)), (1, .int x1)] [] := by
  intro H locs ls hw hl
  have hx := C.1
  have hb := C.2.1
  unfold fX9_ahead at hf
  refine lv_iconst (v := 1) hx hb dX9_ahead_0 rfl ?_
  refine lv_iload_n hx hb dX9_ahead_1 rfl (lv_at hl 1 rfl) ?_
  refine lv_ishl hx hb dX9_ahead_2 ?_
  refine lv_iconst (v := 1) hx hb dX9_ahead_3 rfl ?_
  refine lv_isub hx hb dX9_ahead_4 ?_
  cases hf
  exact kr _ _ _ _ hw rfl dX9_ahead_5
theorem ctX9_ahead (l : Launch) {σ : sn_S} {x1 : Int32}  {o : Int32} (hf : fX9_ahead x1 = some o) : sn_M l yX9_ahead cX9_ahead 2 (some .int) rmX9_ahead layM (fun ad => [.ref (ad 0), .int x1]) σ (some (fun _ => .int o)) σ :=
  sn_met (by decide) (fun _ => Nat.le_of_ble_eq_true rfl) (fun p e s m args below meth c ls D ct ad A C hw hl => wX9_ahead_in C  hf (fun H locs ls pc hw ok hd => sn_iret C hw hd) _ _ _ hw hl)
-- X9_claimOf
abbrev rmX9_claimOf : Room := { frames := 2, cells := 0, slots := 0, locals := 45 }
def BX9_claimOf_183 (σ : sn_S) (x5 : Int32) : Option ((Int32 × sn_S)) :=
  (some (x5, σ))
def BX9_claimOf_177 (σ : sn_S) (x1 : Int32) (x2 : Int32) (x3 : Int32) (x4 : Int32) (x5 : Int32) (x6 : Int32) (x7 : Int32) : Option ((sn_S × Int32 × Int32 × Int32) ⊕ (sn_S × Int32)) :=
  (sn_lt (x7 + 1) fun y_1 => (some (.inl (σ, x4, x5, y_1))))
def BX9_claimOf_152 (σ : sn_S) (x1 : Int32) (x2 : Int32) (x3 : Int32) (x4 : Int32) (x5 : Int32) (x6 : Int32) (x7 : Int32) (x8 : Int32) (t0 : Int32) : Option ((sn_S × Int32 × Int32 × Int32) ⊕ (sn_S × Int32)) :=
  (sn_lt (x5 + t0) fun y_1 => (if x3 = 0 then
  (BX9_claimOf_177 σ x1 x2 x3 x4 y_1 x6 x7)
  else
  (sn_gd (sn_in x8 30) (sn_gd (sn_in x8 30) (sn_lt (sn_pI σ 16 x8.toNatClampNeg ((sn_I σ 16 x8.toNatClampNeg) + t0)) fun σ_6 => (BX9_claimOf_177 σ_6 x1 x2 x3 x4 y_1 x6 x7))))))
def BX9_claimOf_128 (σ : sn_S) (x1 : Int32) (x2 : Int32) (x3 : Int32) (x4 : Int32) (x5 : Int32) (x6 : Int32) (x7 : Int32) (x8 : Int32) (t0 : Int32) : Option ((sn_S × Int32 × Int32 × Int32) ⊕ (sn_S × Int32)) :=
  (if t0 = 0 then
  ((fX9_of σ x1 (3 : Int32)).bind fun t_2 => (BX9_claimOf_152 σ x1 x2 x3 x4 x5 x6 x7 x8 t_2))
  else
  ((fX9_of σ x1 (3 : Int32)).bind fun t_4 => (BX9_claimOf_152 σ x1 x2 x3 x4 x5 x6 x7 x8 (t_4 / (2 : Int32)))))
def BX9_claimOf_127 (σ : sn_S) (x1 : Int32) (x2 : Int32) (x3 : Int32) (x4 : Int32) (x5 : Int32) (x6 : Int32) (x7 : Int32) (x8 : Int32) : Option ((sn_S × Int32 × Int32 × Int32) ⊕ (sn_S × Int32)) :=
  (BX9_claimOf_128 σ x1 x2 x3 x4 x5 x6 x7 x8 (0 : Int32))
def BX9_claimOf_63 (σ : sn_S) (x1 : Int32) (x2 : Int32) (x3 : Int32) (x4 : Int32) (x5 : Int32) (x6 : Int32) (x7 : Int32) : Option ((sn_S × Int32 × Int32 × Int32) ⊕ (sn_S × Int32)) :=
  (if x6 ≤ x7 then
  (some (.inr (σ, x5)))
  else
  (if x4 = 0 then
  (some (.inr (σ, x5)))
  else
  ((fX9_firstOf x4).bind fun t_3 => (sn_lt (x4 &&& (((1 : Int32) <<< (t_3 &&& 31)) ^^^ (-1 : Int32))) fun y_5 => (if (sn_I σ 0 20) = (3 : Int32) then
  (sn_gd (sn_in x2 6) ((fX9_windowOf σ x1).bind fun t_9 => ((fX9_ahead t_3).bind fun t_11 => (if (((sn_I σ 8 x2.toNatClampNeg) &&& t_9) &&& t_11) = 0 then
  (BX9_claimOf_127 σ x1 x2 x3 y_5 x5 x6 x7 t_3)
  else
  (BX9_claimOf_128 σ x1 x2 x3 y_5 x5 x6 x7 t_3 (1 : Int32))))))
  else
  (BX9_claimOf_127 σ x1 x2 x3 y_5 x5 x6 x7 t_3))))))
def LX9_claimOf_63 (x1 : Int32) (x2 : Int32) (x3 : Int32) (x6 : Int32) (s : sn_S × Int32 × Int32 × Int32) : Option ((sn_S × Int32 × Int32 × Int32) ⊕ (sn_S × Int32)) := BX9_claimOf_63 s.1 x1 x2 x3 s.2.1 s.2.2.1 x6 s.2.2.2
def BX9_claimOf_58 (σ : sn_S) (x1 : Int32) (x2 : Int32) (x3 : Int32) (x4 : Int32) (x5 : Int32) (t0 : Int32) : Option ((Int32 × sn_S)) :=
  ((sn_it (LX9_claimOf_63 x1 x2 x3 t0) 5000 (σ, x4, x5, (0 : Int32))).bind fun t_1 => (BX9_claimOf_183 t_1.1 t_1.2))
def BX9_claimOf_33 (σ : sn_S) (x1 : Int32) (x2 : Int32) (x3 : Int32) (x4 : Int32) : Option ((Int32 × sn_S)) :=
  ((fX9_firstOf x4).bind fun t_1 => (sn_lt (sn_pI σ 0 30 t_1) fun σ_3 => (if (sn_I σ_3 0 20) = (2 : Int32) then
  (BX9_claimOf_58 σ_3 x1 x2 x3 x4 (0 : Int32) (3 : Int32))
  else
  (BX9_claimOf_58 σ_3 x1 x2 x3 x4 (0 : Int32) (1 : Int32)))))
def fX9_claimOf (σ : sn_S) (x1 : Int32) (x2 : Int32) (x3 : Int32) : Option (Int32 × sn_S) :=
  (sn_gd (sn_in x2 6) ((fX9_windowOf σ x1).bind fun t_2 => (sn_lt ((sn_I σ 10 x2.toNatClampNeg) &&& t_2) fun y_4 => (if (sn_I σ 0 20) = (1 : Int32) then
  (sn_lt (y_4 &&& ((sn_I σ 0 18) ^^^ (-1 : Int32))) fun y_7 => (BX9_claimOf_33 σ x1 x2 x3 y_7))
  else
  (BX9_claimOf_33 σ x1 x2 x3 y_4)))))
theorem wX9_claimOf_183 (C : sn_C p s m args meth c RX9 cX9_claimOf 11 (some .int) D ct ad layM A) {σ : sn_S} {x5 : Int32}  {o : (Int32 × sn_S)} (hf : BX9_claimOf_183 σ x5 = some o) (kr : sn_Kr p l e rmX9_claimOf s m args below meth c Q D ct ad layM A cX9_claimOf .ireturn (true) o.2 [.int o.1]) : sn_At p l e rmX9_claimOf s m args below meth c Q D ct ad layM A 11 σ 183 [(5, .int x5)] [] := by
  intro H locs ls hw hl
  have hx := C.1
  have hb := C.2.1
  unfold BX9_claimOf_183 at hf
  refine lv_iload hx hb dX9_claimOf_183 (lv_at hl 0 rfl) ?_
  cases hf
  exact kr _ _ _ _ hw rfl dX9_claimOf_185
theorem wX9_claimOf_177 (C : sn_C p s m args meth c RX9 cX9_claimOf 11 (some .int) D ct ad layM A) {σ : sn_S} {x1 : Int32} {x2 : Int32} {x3 : Int32} {x4 : Int32} {x5 : Int32} {x6 : Int32} {x7 : Int32}  {o : (sn_S × Int32 × Int32 × Int32) ⊕ (sn_S × Int32)} (hf : BX9_claimOf_177 σ x1 x2 x3 x4 x5 x6 x7 = some o) (kc : ∀ v, o = .inl v → sn_At p l e rmX9_claimOf s m args below meth c Q D ct ad layM A 11 v.1 63 [(0, .ref (ad 0)), (1, .int x1), (2, .int x2), (3, .int x3), (4, .int v.2.1), (5, .int v.2.2.1), (6, .int x6), (7, .int v.2.2.2)] []) (kx : ∀ v, o = .inr v → sn_At p l e rmX9_claimOf s m args below meth c Q D ct ad layM A 11 v.1 183 [(5, .int v.2)] []) : sn_At p l e rmX9_claimOf s m args below meth c Q D ct ad layM A 11 σ 177 [(0, .ref (ad 0)), (1, .int x1), (2, .int x2), (3, .int x3), (4, .int x4), (5, .int x5), (6, .int x6), (7, .int x7)] [] := by
  intro H locs ls hw hl
  have hx := C.1
  have hb := C.2.1
  unfold BX9_claimOf_177 at hf
  obtain ⟨y_1, e_2, hf⟩ := sn_ltE hf
  refine lv_iinc (v := y_1) (lv' := [(7, .int y_1), (0, .ref (ad 0)), (1, .int x1), (2, .int x2), (3, .int x3), (4, .int x4), (5, .int x5), (6, .int x6)]) hx hb dX9_claimOf_177 hl (k := 7) rfl (by rw [e_2]; rfl) (by decide) rfl (fun ls hl => ?_)
  refine lv_goto (tgt := 63) hx hb dX9_claimOf_180 (by decide) ?_
  cases hf
  exact kc _ rfl _ _ _ hw (lv_sub hl [1, 2, 3, 4, 5, 6, 7, 0] rfl)
theorem wX9_claimOf_152 (C : sn_C p s m args meth c RX9 cX9_claimOf 11 (some .int) D ct ad layM A) {σ : sn_S} {x1 : Int32} {x2 : Int32} {x3 : Int32} {x4 : Int32} {x5 : Int32} {x6 : Int32} {x7 : Int32} {x8 : Int32} {t0 : Int32}  {o : (sn_S × Int32 × Int32 × Int32) ⊕ (sn_S × Int32)} (hf : BX9_claimOf_152 σ x1 x2 x3 x4 x5 x6 x7 x8 t0 = some o) (kc : ∀ v, o = .inl v → sn_At p l e rmX9_claimOf s m args below meth c Q D ct ad layM A 11 v.1 63 [(0, .ref (ad 0)), (1, .int x1), (2, .int x2), (3, .int x3), (4, .int v.2.1), (5, .int v.2.2.1), (6, .int x6), (7, .int v.2.2.2)] []) (kx : ∀ v, o = .inr v → sn_At p l e rmX9_claimOf s m args below meth c Q D ct ad layM A 11 v.1 183 [(5, .int v.2)] []) : sn_At p l e rmX9_claimOf s m args below meth c Q D ct ad layM A 11 σ 152 [(0, .ref (ad 0)), (1, .int x1), (2, .int x2), (3, .int x3), (4, .int x4), (5, .int x5), (6, .int x6), (7, .int x7), (8, .int x8)] [.int t0] := by
  intro H locs ls hw hl
  have hx := C.1
  have hb := C.2.1
  unfold BX9_claimOf_152 at hf
  refine lv_istore (lv' := [(10, .int t0), (0, .ref (ad 0)), (1, .int x1), (2, .int x2), (3, .int x3), (4, .int x4), (5, .int x5), (6, .int x6), (7, .int x7), (8, .int x8)]) hx hb dX9_claimOf_152 hl (by decide) rfl (fun ls hl => ?_)
  refine lv_iload hx hb dX9_claimOf_154 (lv_at hl 6 rfl) ?_
  refine lv_iload hx hb dX9_claimOf_156 (lv_at hl 0 rfl) ?_
  refine lv_iadd hx hb dX9_claimOf_158 ?_
  obtain ⟨y_1, e_2, hf⟩ := sn_ltE hf
  refine lv_topi (fun y_1_ e_2_ => ?_)
  obtain rfl : y_1 = y_1_ := e_2.trans e_2_.symm
  refine lv_istore (lv' := [(5, .int y_1), (10, .int t0), (0, .ref (ad 0)), (1, .int x1), (2, .int x2), (3, .int x3), (4, .int x4), (6, .int x6), (7, .int x7), (8, .int x8)]) hx hb dX9_claimOf_159 hl (by decide) rfl (fun ls hl => ?_)
  refine lv_iload_n hx hb dX9_claimOf_161 rfl (lv_at hl 5 rfl) ?_
  refine lv_if_eq (tgt := 177) hx hb dX9_claimOf_162 (by decide) (fun c_3 => ?_) (fun c_3 => ?_)
  · have hf := sn_if c_3 hf
    exact wX9_claimOf_177 C  hf kc kx _ _ _ hw (lv_sub hl [2, 3, 4, 5, 6, 0, 7, 8] rfl)
  · have hf := sn_el c_3 hf
    refine lv_aload_n hx hb dX9_claimOf_165 rfl (lv_at hl 2 rfl) ?_
    refine sn_getC (r := 16) C hw fd_RX9_61 layM_0 rfl dX9_claimOf_166 ?_
    refine lv_iload hx hb dX9_claimOf_169 (lv_at hl 9 rfl) ?_
    refine lv_dup2_11 hx hb dX9_claimOf_171 rfl rfl ?_
    obtain ⟨g_4, hf⟩ := sn_gdE hf
    refine sn_iald C hw layM_16 g_4 dX9_claimOf_172 ?_
    refine lv_iload hx hb dX9_claimOf_173 (lv_at hl 1 rfl) ?_
    refine lv_iadd hx hb dX9_claimOf_175 ?_
    obtain ⟨g_5, hf⟩ := sn_gdE hf
    refine sn_iast C hw layM_16 g_5 dX9_claimOf_176 (fun H locs hw => ?_)
    obtain ⟨σ_6, e_7, hf⟩ := sn_ltE hf
    rw [← e_7] at hw
    exact wX9_claimOf_177 C  hf kc kx _ _ _ hw (lv_sub hl [2, 3, 4, 5, 6, 0, 7, 8] rfl)
theorem wX9_claimOf_128 (C : sn_C p s m args meth c RX9 cX9_claimOf 11 (some .int) D ct ad layM A) {σ : sn_S} {x1 : Int32} {x2 : Int32} {x3 : Int32} {x4 : Int32} {x5 : Int32} {x6 : Int32} {x7 : Int32} {x8 : Int32} {t0 : Int32}  {o : (sn_S × Int32 × Int32 × Int32) ⊕ (sn_S × Int32)} (hf : BX9_claimOf_128 σ x1 x2 x3 x4 x5 x6 x7 x8 t0 = some o) (kc : ∀ v, o = .inl v → sn_At p l e rmX9_claimOf s m args below meth c Q D ct ad layM A 11 v.1 63 [(0, .ref (ad 0)), (1, .int x1), (2, .int x2), (3, .int x3), (4, .int v.2.1), (5, .int v.2.2.1), (6, .int x6), (7, .int v.2.2.2)] []) (kx : ∀ v, o = .inr v → sn_At p l e rmX9_claimOf s m args below meth c Q D ct ad layM A 11 v.1 183 [(5, .int v.2)] []) : sn_At p l e rmX9_claimOf s m args below meth c Q D ct ad layM A 11 σ 128 [(0, .ref (ad 0)), (1, .int x1), (2, .int x2), (3, .int x3), (4, .int x4), (5, .int x5), (6, .int x6), (7, .int x7), (8, .int x8)] [.int t0] := by
  intro H locs ls hw hl
  have hx := C.1
  have hb := C.2.1
  unfold BX9_claimOf_128 at hf
  refine lv_istore (lv' := [(9, .int t0), (0, .ref (ad 0)), (1, .int x1), (2, .int x2), (3, .int x3), (4, .int x4), (5, .int x5), (6, .int x6), (7, .int x7), (8, .int x8)]) hx hb dX9_claimOf_128 hl (by decide) rfl (fun ls hl => ?_)
  refine lv_iload hx hb dX9_claimOf_130 (lv_at hl 0 rfl) ?_
  refine lv_if_eq (tgt := 146) hx hb dX9_claimOf_132 (by decide) (fun c_1 => ?_) (fun c_1 => ?_)
  · have hf := sn_if c_1 hf
    refine lv_aload_n hx hb dX9_claimOf_146 rfl (lv_at hl 1 rfl) ?_
    refine lv_iload_n hx hb dX9_claimOf_147 rfl (lv_at hl 2 rfl) ?_
    refine lv_iconst (v := 3) hx hb dX9_claimOf_148 rfl ?_
    obtain ⟨t_2, h_3, hf⟩ := sn_bd hf
    refine sn_callVi (rest := []) C hw (ctX9_of l  h_3) kl_RX9_234 layM_0 rfl rfl rfl rfl (Nat.le_of_ble_eq_true rfl) dX9_claimOf_149 hl.1 (fun H locs hw => ?_)
    exact wX9_claimOf_152 C  hf kc kx _ _ _ hw (lv_sub hl [1, 2, 3, 4, 5, 6, 7, 8, 9] rfl)
  · have hf := sn_el c_1 hf
    refine lv_aload_n hx hb dX9_claimOf_135 rfl (lv_at hl 1 rfl) ?_
    refine lv_iload_n hx hb dX9_claimOf_136 rfl (lv_at hl 2 rfl) ?_
    refine lv_iconst (v := 3) hx hb dX9_claimOf_137 rfl ?_
    obtain ⟨t_4, h_5, hf⟩ := sn_bd hf
    refine sn_callVi (rest := []) C hw (ctX9_of l  h_5) kl_RX9_234 layM_0 rfl rfl rfl rfl (Nat.le_of_ble_eq_true rfl) dX9_claimOf_138 hl.1 (fun H locs hw => ?_)
    refine lv_iconst (v := 2) hx hb dX9_claimOf_141 rfl ?_
    refine lv_idiv hx hb dX9_claimOf_142 (by decide) ?_
    refine lv_goto (tgt := 152) hx hb dX9_claimOf_143 (by decide) ?_
    exact wX9_claimOf_152 C  hf kc kx _ _ _ hw (lv_sub hl [1, 2, 3, 4, 5, 6, 7, 8, 9] rfl)
theorem wX9_claimOf_127 (C : sn_C p s m args meth c RX9 cX9_claimOf 11 (some .int) D ct ad layM A) {σ : sn_S} {x1 : Int32} {x2 : Int32} {x3 : Int32} {x4 : Int32} {x5 : Int32} {x6 : Int32} {x7 : Int32} {x8 : Int32}  {o : (sn_S × Int32 × Int32 × Int32) ⊕ (sn_S × Int32)} (hf : BX9_claimOf_127 σ x1 x2 x3 x4 x5 x6 x7 x8 = some o) (kc : ∀ v, o = .inl v → sn_At p l e rmX9_claimOf s m args below meth c Q D ct ad layM A 11 v.1 63 [(0, .ref (ad 0)), (1, .int x1), (2, .int x2), (3, .int x3), (4, .int v.2.1), (5, .int v.2.2.1), (6, .int x6), (7, .int v.2.2.2)] []) (kx : ∀ v, o = .inr v → sn_At p l e rmX9_claimOf s m args below meth c Q D ct ad layM A 11 v.1 183 [(5, .int v.2)] []) : sn_At p l e rmX9_claimOf s m args below meth c Q D ct ad layM A 11 σ 127 [(0, .ref (ad 0)), (1, .int x1), (2, .int x2), (3, .int x3), (4, .int x4), (5, .int x5), (6, .int x6), (7, .int x7), (8, .int x8)] [] := by
  intro H locs ls hw hl
  have hx := C.1
  have hb := C.2.1
  unfold BX9_claimOf_127 at hf
  refine lv_iconst (v := 0) hx hb dX9_claimOf_127 rfl ?_
  exact wX9_claimOf_128 C  hf kc kx _ _ _ hw (lv_sub hl [0, 1, 2, 3, 4, 5, 6, 7, 8] rfl)
theorem wX9_claimOf_63 (C : sn_C p s m args meth c RX9 cX9_claimOf 11 (some .int) D ct ad layM A) {σ : sn_S} {x1 : Int32} {x2 : Int32} {x3 : Int32} {x4 : Int32} {x5 : Int32} {x6 : Int32} {x7 : Int32}  {o : (sn_S × Int32 × Int32 × Int32) ⊕ (sn_S × Int32)} (hf : BX9_claimOf_63 σ x1 x2 x3 x4 x5 x6 x7 = some o) (kc : ∀ v, o = .inl v → sn_At p l e rmX9_claimOf s m args below meth c Q D ct ad layM A 11 v.1 63 [(0, .ref (ad 0)), (1, .int x1), (2, .int x2), (3, .int x3), (4, .int v.2.1), (5, .int v.2.2.1), (6, .int x6), (7, .int v.2.2.2)] []) (kx : ∀ v, o = .inr v → sn_At p l e rmX9_claimOf s m args below meth c Q D ct ad layM A 11 v.1 183 [(5, .int v.2)] []) : sn_At p l e rmX9_claimOf s m args below meth c Q D ct ad layM A 11 σ 63 [(0, .ref (ad 0)), (1, .int x1), (2, .int x2), (3, .int x3), (4, .int x4), (5, .int x5), (6, .int x6), (7, .int x7)] [] := by
  intro H locs ls hw hl
  have hx := C.1
  have hb := C.2.1
  unfold BX9_claimOf_63 at hf
  refine lv_iload hx hb dX9_claimOf_63 (lv_at hl 7 rfl) ?_
  refine lv_iload hx hb dX9_claimOf_65 (lv_at hl 6 rfl) ?_
  refine lv_icmp_ge (tgt := 183) hx hb dX9_claimOf_67 (by decide) (fun c_1 => ?_) (fun c_1 => ?_)
  · have hf := sn_if c_1 hf
    cases hf
    exact kx _ rfl _ _ _ hw (lv_sub hl [5] rfl)
  · have hf := sn_el c_1 hf
    refine lv_iload hx hb dX9_claimOf_70 (lv_at hl 4 rfl) ?_
    refine lv_if_eq (tgt := 183) hx hb dX9_claimOf_72 (by decide) (fun c_2 => ?_) (fun c_2 => ?_)
    · have hf := sn_if c_2 hf
      cases hf
      exact kx _ rfl _ _ _ hw (lv_sub hl [5] rfl)
    · have hf := sn_el c_2 hf
      refine lv_iload hx hb dX9_claimOf_75 (lv_at hl 4 rfl) ?_
      obtain ⟨t_3, h_4, hf⟩ := sn_bd hf
      refine sn_callSi (rest := []) C hw (ctX9_firstOf l  h_4) kl_RX9_287 rfl rfl rfl (Nat.le_of_ble_eq_true rfl) dX9_claimOf_77 hl.1 (fun H locs hw => ?_)
      refine lv_istore (lv' := [(8, .int t_3), (0, .ref (ad 0)), (1, .int x1), (2, .int x2), (3, .int x3), (4, .int x4), (5, .int x5), (6, .int x6), (7, .int x7)]) hx hb dX9_claimOf_80 hl (by decide) rfl (fun ls hl => ?_)
      refine lv_iload hx hb dX9_claimOf_82 (lv_at hl 5 rfl) ?_
      refine lv_iconst (v := 1) hx hb dX9_claimOf_84 rfl ?_
      refine lv_iload hx hb dX9_claimOf_85 (lv_at hl 0 rfl) ?_
      refine lv_ishl hx hb dX9_claimOf_87 ?_
      refine lv_iconst (v := (-1)) hx hb dX9_claimOf_88 rfl ?_
      refine lv_ixor hx hb dX9_claimOf_89 ?_
      refine lv_iand hx hb dX9_claimOf_90 ?_
      obtain ⟨y_5, e_6, hf⟩ := sn_ltE hf
      refine lv_topi (fun y_5_ e_6_ => ?_)
      obtain rfl : y_5 = y_5_ := e_6.trans e_6_.symm
      refine lv_istore (lv' := [(4, .int y_5), (8, .int t_3), (0, .ref (ad 0)), (1, .int x1), (2, .int x2), (3, .int x3), (5, .int x5), (6, .int x6), (7, .int x7)]) hx hb dX9_claimOf_91 hl (by decide) rfl (fun ls hl => ?_)
      refine lv_aload_n hx hb dX9_claimOf_93 rfl (lv_at hl 2 rfl) ?_
      refine sn_getI C hw fd_RX9_243 layM_0 rfl dX9_claimOf_94 ?_
      refine lv_iconst (v := 3) hx hb dX9_claimOf_97 rfl ?_
      refine lv_icmp_ne (tgt := 127) hx hb dX9_claimOf_98 (by decide) (fun c_7 => ?_) (fun c_7 => ?_)
      · have hf := sn_el c_7 hf
        exact wX9_claimOf_127 C  hf kc kx _ _ _ hw (lv_sub hl [2, 3, 4, 5, 0, 6, 7, 8, 1] rfl)
      · have hf := sn_if c_7 hf
        refine lv_aload_n hx hb dX9_claimOf_101 rfl (lv_at hl 2 rfl) ?_
        refine sn_getC (r := 8) C hw fd_RX9_37 layM_0 rfl dX9_claimOf_102 ?_
        refine lv_iload_n hx hb dX9_claimOf_105 rfl (lv_at hl 4 rfl) ?_
        obtain ⟨g_8, hf⟩ := sn_gdE hf
        refine sn_iald C hw layM_8 g_8 dX9_claimOf_106 ?_
        refine lv_aload_n hx hb dX9_claimOf_107 rfl (lv_at hl 2 rfl) ?_
        refine lv_iload_n hx hb dX9_claimOf_108 rfl (lv_at hl 3 rfl) ?_
        obtain ⟨t_9, h_10, hf⟩ := sn_bd hf
        refine sn_callVi (rest := [.int (sn_I σ 8 x2.toNatClampNeg)]) C hw (ctX9_windowOf l  h_10) kl_RX9_304 layM_0 rfl rfl rfl rfl (Nat.le_of_ble_eq_true rfl) dX9_claimOf_109 hl.1 (fun H locs hw => ?_)
        refine lv_iand hx hb dX9_claimOf_112 ?_
        refine lv_aload_n hx hb dX9_claimOf_113 rfl (lv_at hl 2 rfl) ?_
        refine lv_iload hx hb dX9_claimOf_114 (lv_at hl 1 rfl) ?_
        obtain ⟨t_11, h_12, hf⟩ := sn_bd hf
        refine sn_callVi (rest := [.int ((sn_I σ 8 x2.toNatClampNeg) &&& t_9)]) C hw (ctX9_ahead l  h_12) kl_RX9_310 layM_0 rfl rfl rfl rfl (Nat.le_of_ble_eq_true rfl) dX9_claimOf_116 hl.1 (fun H locs hw => ?_)
        refine lv_iand hx hb dX9_claimOf_119 ?_
        refine lv_if_eq (tgt := 127) hx hb dX9_claimOf_120 (by decide) (fun c_13 => ?_) (fun c_13 => ?_)
        · have hf := sn_if c_13 hf
          exact wX9_claimOf_127 C  hf kc kx _ _ _ hw (lv_sub hl [2, 3, 4, 5, 0, 6, 7, 8, 1] rfl)
        · have hf := sn_el c_13 hf
          refine lv_iconst (v := 1) hx hb dX9_claimOf_123 rfl ?_
          refine lv_goto (tgt := 128) hx hb dX9_claimOf_124 (by decide) ?_
          exact wX9_claimOf_128 C  hf kc kx _ _ _ hw (lv_sub hl [2, 3, 4, 5, 0, 6, 7, 8, 1] rfl)
theorem wX9_claimOf_L63 (C : sn_C p s m args meth c RX9 cX9_claimOf 11 (some .int) D ct ad layM A) {x1 : Int32} {x2 : Int32} {x3 : Int32} {x6 : Int32}   {z : sn_S × Int32 × Int32 × Int32} {t : sn_S × Int32} (h : sn_it (LX9_claimOf_63 x1 x2 x3 x6) 5000 z = some t) (kx : ∀ v, t = v → sn_At p l e rmX9_claimOf s m args below meth c Q D ct ad layM A 11 v.1 183 [(5, .int v.2)] []) : sn_At p l e rmX9_claimOf s m args below meth c Q D ct ad layM A 11 z.1 63 [(0, .ref (ad 0)), (1, .int x1), (2, .int x2), (3, .int x3), (4, .int z.2.1), (5, .int z.2.2.1), (6, .int x6), (7, .int z.2.2.2)] [] :=
  sn_loop (f := LX9_claimOf_63 x1 x2 x3 x6) (G := fun z => sn_At p l e rmX9_claimOf s m args below meth c Q D ct ad layM A 11 z.1 63 [(0, .ref (ad 0)), (1, .int x1), (2, .int x2), (3, .int x3), (4, .int z.2.1), (5, .int z.2.2.1), (6, .int x6), (7, .int z.2.2.2)] []) (E := fun t => (∀ v, t = v → sn_At p l e rmX9_claimOf s m args below meth c Q D ct ad layM A 11 v.1 183 [(5, .int v.2)] []) ∧ True) (fun z o hf k1 k2 => wX9_claimOf_63 C  hf (fun v e => k1 v e) (fun v e => (k2 _ e).1 v rfl)) 5000 z t h ⟨kx, trivial⟩
theorem wX9_claimOf_58 (C : sn_C p s m args meth c RX9 cX9_claimOf 11 (some .int) D ct ad layM A) {σ : sn_S} {x1 : Int32} {x2 : Int32} {x3 : Int32} {x4 : Int32} {x5 : Int32} {t0 : Int32}  {o : (Int32 × sn_S)} (hf : BX9_claimOf_58 σ x1 x2 x3 x4 x5 t0 = some o) (kr : sn_Kr p l e rmX9_claimOf s m args below meth c Q D ct ad layM A cX9_claimOf .ireturn (true) o.2 [.int o.1]) : sn_At p l e rmX9_claimOf s m args below meth c Q D ct ad layM A 11 σ 58 [(0, .ref (ad 0)), (1, .int x1), (2, .int x2), (3, .int x3), (4, .int x4), (5, .int x5)] [.int t0] := by
  intro H locs ls hw hl
  have hx := C.1
  have hb := C.2.1
  unfold BX9_claimOf_58 at hf
  refine lv_istore (lv' := [(6, .int t0), (0, .ref (ad 0)), (1, .int x1), (2, .int x2), (3, .int x3), (4, .int x4), (5, .int x5)]) hx hb dX9_claimOf_58 hl (by decide) rfl (fun ls hl => ?_)
  refine lv_iconst (v := 0) hx hb dX9_claimOf_60 rfl ?_
  refine lv_istore (lv' := [(7, .int (0 : Int32)), (6, .int t0), (0, .ref (ad 0)), (1, .int x1), (2, .int x2), (3, .int x3), (4, .int x4), (5, .int x5)]) hx hb dX9_claimOf_61 hl (by decide) rfl (fun ls hl => ?_)
  obtain ⟨t_1, h_2, hf⟩ := sn_bd hf
  exact wX9_claimOf_L63 C  h_2 (fun v e => by cases e; exact wX9_claimOf_183 C  hf kr) _ _ _ hw (lv_sub hl [2, 3, 4, 5, 6, 7, 1, 0] rfl)
theorem wX9_claimOf_33 (C : sn_C p s m args meth c RX9 cX9_claimOf 11 (some .int) D ct ad layM A) {σ : sn_S} {x1 : Int32} {x2 : Int32} {x3 : Int32} {x4 : Int32}  {o : (Int32 × sn_S)} (hf : BX9_claimOf_33 σ x1 x2 x3 x4 = some o) (kr : sn_Kr p l e rmX9_claimOf s m args below meth c Q D ct ad layM A cX9_claimOf .ireturn (true) o.2 [.int o.1]) : sn_At p l e rmX9_claimOf s m args below meth c Q D ct ad layM A 11 σ 33 [(0, .ref (ad 0)), (1, .int x1), (2, .int x2), (3, .int x3), (4, .int x4)] [] := by
  intro H locs ls hw hl
  have hx := C.1
  have hb := C.2.1
  unfold BX9_claimOf_33 at hf
  refine lv_aload_n hx hb dX9_claimOf_33 rfl (lv_at hl 0 rfl) ?_
  refine lv_iload hx hb dX9_claimOf_34 (lv_at hl 4 rfl) ?_
  obtain ⟨t_1, h_2, hf⟩ := sn_bd hf
  refine sn_callSi (rest := [.ref (ad 0)]) C hw (ctX9_firstOf l  h_2) kl_RX9_287 rfl rfl rfl (Nat.le_of_ble_eq_true rfl) dX9_claimOf_36 hl.1 (fun H locs hw => ?_)
  refine sn_putI C hw fp_RX9_307 layM_0 rfl dX9_claimOf_39 (fun H locs hw => ?_)
  obtain ⟨σ_3, e_4, hf⟩ := sn_ltE hf
  rw [← e_4] at hw
  refine lv_iconst (v := 0) hx hb dX9_claimOf_42 rfl ?_
  refine lv_istore (lv' := [(5, .int (0 : Int32)), (0, .ref (ad 0)), (1, .int x1), (2, .int x2), (3, .int x3), (4, .int x4)]) hx hb dX9_claimOf_43 hl (by decide) rfl (fun ls hl => ?_)
  refine lv_aload_n hx hb dX9_claimOf_45 rfl (lv_at hl 1 rfl) ?_
  refine sn_getI C hw fd_RX9_243 layM_0 rfl dX9_claimOf_46 ?_
  refine lv_iconst (v := 2) hx hb dX9_claimOf_49 rfl ?_
  refine lv_icmp_ne (tgt := 57) hx hb dX9_claimOf_50 (by decide) (fun c_5 => ?_) (fun c_5 => ?_)
  · have hf := sn_el c_5 hf
    refine lv_iconst (v := 1) hx hb dX9_claimOf_57 rfl ?_
    exact wX9_claimOf_58 C  hf kr _ _ _ hw (lv_sub hl [1, 2, 3, 4, 5, 0] rfl)
  · have hf := sn_if c_5 hf
    refine lv_iconst (v := 3) hx hb dX9_claimOf_53 rfl ?_
    refine lv_goto (tgt := 58) hx hb dX9_claimOf_54 (by decide) ?_
    exact wX9_claimOf_58 C  hf kr _ _ _ hw (lv_sub hl [1, 2, 3, 4, 5, 0] rfl)
theorem wX9_claimOf_in (C : sn_C p s m args meth c RX9 cX9_claimOf 11 (some .int) D ct ad layM A) {σ : sn_S} {x1 : Int32} {x2 : Int32} {x3 : Int32}  {o : (Int32 × sn_S)} (hf : fX9_claimOf σ x1 x2 x3 = some o) (kr : sn_Kr p l e rmX9_claimOf s m args below meth c Q D ct ad layM A cX9_claimOf .ireturn (true) o.2 [.int o.1]) : sn_At p l e rmX9_claimOf s m args below meth c Q D ct ad layM A 11 σ 0 [(0, .ref (ad 0)), (1, .int x1), (2, .int x2), (3, .int x3)] [] := by
  intro H locs ls hw hl
  have hx := C.1
  have hb := C.2.1
  unfold fX9_claimOf at hf
  refine lv_aload_n hx hb dX9_claimOf_0 rfl (lv_at hl 0 rfl) ?_
  refine sn_getC (r := 10) C hw fd_RX9_43 layM_0 rfl dX9_claimOf_1 ?_
  refine lv_iload_n hx hb dX9_claimOf_4 rfl (lv_at hl 2 rfl) ?_
  obtain ⟨g_1, hf⟩ := sn_gdE hf
  refine sn_iald C hw layM_10 g_1 dX9_claimOf_5 ?_
  refine lv_aload_n hx hb dX9_claimOf_6 rfl (lv_at hl 0 rfl) ?_
  refine lv_iload_n hx hb dX9_claimOf_7 rfl (lv_at hl 1 rfl) ?_
  obtain ⟨t_2, h_3, hf⟩ := sn_bd hf
  refine sn_callVi (rest := [.int (sn_I σ 10 x2.toNatClampNeg)]) C hw (ctX9_windowOf l  h_3) kl_RX9_304 layM_0 rfl rfl rfl rfl (Nat.le_of_ble_eq_true rfl) dX9_claimOf_8 hl.1 (fun H locs hw => ?_)
  refine lv_iand hx hb dX9_claimOf_11 ?_
  obtain ⟨y_4, e_5, hf⟩ := sn_ltE hf
  refine lv_topi (fun y_4_ e_5_ => ?_)
  obtain rfl : y_4 = y_4_ := e_5.trans e_5_.symm
  refine lv_istore (lv' := [(4, .int y_4), (0, .ref (ad 0)), (1, .int x1), (2, .int x2), (3, .int x3)]) hx hb dX9_claimOf_12 hl (by decide) rfl (fun ls hl => ?_)
  refine lv_aload_n hx hb dX9_claimOf_14 rfl (lv_at hl 1 rfl) ?_
  refine sn_getI C hw fd_RX9_243 layM_0 rfl dX9_claimOf_15 ?_
  refine lv_iconst (v := 1) hx hb dX9_claimOf_18 rfl ?_
  refine lv_icmp_ne (tgt := 33) hx hb dX9_claimOf_19 (by decide) (fun c_6 => ?_) (fun c_6 => ?_)
  · have hf := sn_el c_6 hf
    exact wX9_claimOf_33 C  hf kr _ _ _ hw (lv_sub hl [1, 2, 3, 4, 0] rfl)
  · have hf := sn_if c_6 hf
    refine lv_iload hx hb dX9_claimOf_22 (lv_at hl 0 rfl) ?_
    refine lv_aload_n hx hb dX9_claimOf_24 rfl (lv_at hl 1 rfl) ?_
    refine sn_getI C hw fd_RX9_237 layM_0 rfl dX9_claimOf_25 ?_
    refine lv_iconst (v := (-1)) hx hb dX9_claimOf_28 rfl ?_
    refine lv_ixor hx hb dX9_claimOf_29 ?_
    refine lv_iand hx hb dX9_claimOf_30 ?_
    obtain ⟨y_7, e_8, hf⟩ := sn_ltE hf
    refine lv_topi (fun y_7_ e_8_ => ?_)
    obtain rfl : y_7 = y_7_ := e_8.trans e_8_.symm
    refine lv_istore (lv' := [(4, .int y_7), (0, .ref (ad 0)), (1, .int x1), (2, .int x2), (3, .int x3)]) hx hb dX9_claimOf_31 hl (by decide) rfl (fun ls hl => ?_)
    exact wX9_claimOf_33 C  hf kr _ _ _ hw (lv_sub hl [1, 2, 3, 4, 0] rfl)
theorem ctX9_claimOf (l : Launch) {σ : sn_S} {x1 : Int32} {x2 : Int32} {x3 : Int32}  {o : (Int32 × sn_S)} (hf : fX9_claimOf σ x1 x2 x3 = some o) : sn_M l yX9_claimOf cX9_claimOf 11 (some .int) rmX9_claimOf layM (fun ad => [.ref (ad 0), .int x1, .int x2, .int x3]) σ (some (fun _ => .int o.1)) o.2 :=
  sn_met (by decide) (fun _ => Nat.le_of_ble_eq_true rfl) (fun p e s m args below meth c ls D ct ad A C hw hl => wX9_claimOf_in C  hf (fun H locs ls pc hw ok hd => sn_iret C hw hd) _ _ _ hw hl)
end
end
section
section
variable {p : Program} {l : Launch} {e : Env} {s : State} {m : MethodId} {args : Array Value} {below : List Frame} {meth : Method} {c : Code} {Q : State → Prop} {D : va_G} {ct : Nat → ClassId} {ad : Nat → Nat} {A : Nat → Prop} {lay : List sn_E}
-- X9_claimOf_
abbrev rmX9_claimOf_ : Room := { frames := 3, cells := 0, slots := 0, locals := 75 }
def fX9_claimOf_ (σ : sn_S) (x1 : Int32) : Option (Int32 × sn_S) :=
  ((fX9_of σ x1 (0 : Int32)).bind fun t_1 => ((fX9_claimOf σ x1 t_1 (0 : Int32)).bind fun t_3 => (some (t_3.1, t_3.2))))
theorem wX9_claimOf__in (C : sn_C p s m args meth c RX9 cX9_claimOf_ 2 (some .int) D ct ad layM A) {σ : sn_S} {x1 : Int32}  {o : (Int32 × sn_S)} (hf : fX9_claimOf_ σ x1 = some o) (kr : sn_Kr p l e rmX9_claimOf_ s m args below meth c Q D ct ad layM A cX9_claimOf_ .ireturn (true) o.2 [.int o.1]) : sn_At p l e rmX9_claimOf_ s m args below meth c Q D ct ad layM A 2 σ 0 [(0, .ref (ad 0)), (1, .int x1)] [] := by
  intro H locs ls hw hl
  have hx := C.1
  have hb := C.2.1
  unfold fX9_claimOf_ at hf
  refine lv_aload_n hx hb dX9_claimOf__0 rfl (lv_at hl 0 rfl) ?_
  refine lv_iload_n hx hb dX9_claimOf__1 rfl (lv_at hl 1 rfl) ?_
  refine lv_aload_n hx hb dX9_claimOf__2 rfl (lv_at hl 0 rfl) ?_
  refine lv_iload_n hx hb dX9_claimOf__3 rfl (lv_at hl 1 rfl) ?_
  refine lv_iconst (v := 0) hx hb dX9_claimOf__4 rfl ?_
  obtain ⟨t_1, h_2, hf⟩ := sn_bd hf
  refine sn_callVi (rest := [.int x1, .ref (ad 0)]) C hw (ctX9_of l  h_2) kl_RX9_234 layM_0 rfl rfl rfl rfl (Nat.le_of_ble_eq_true rfl) dX9_claimOf__5 hl.1 (fun H locs hw => ?_)
  refine lv_iconst (v := 0) hx hb dX9_claimOf__8 rfl ?_
  obtain ⟨t_3, h_4, hf⟩ := sn_bd hf
  refine sn_callVi (rest := []) C hw (ctX9_claimOf l  h_4) kl_RX9_313 layM_0 rfl rfl rfl rfl (Nat.le_of_ble_eq_true rfl) dX9_claimOf__9 hl.1 (fun H locs hw => ?_)
  cases hf
  exact kr _ _ _ _ hw rfl dX9_claimOf__12
theorem ctX9_claimOf_ (l : Launch) {σ : sn_S} {x1 : Int32}  {o : (Int32 × sn_S)} (hf : fX9_claimOf_ σ x1 = some o) : sn_M l yX9_claimOf_ cX9_claimOf_ 2 (some .int) rmX9_claimOf_ layM (fun ad => [.ref (ad 0), .int x1]) σ (some (fun _ => .int o.1)) o.2 :=
  sn_met (by decide) (fun _ => Nat.le_of_ble_eq_true rfl) (fun p e s m args below meth c ls D ct ad A C hw hl => wX9_claimOf__in C  hf (fun H locs ls pc hw ok hd => sn_iret C hw hd) _ _ _ hw hl)
-- X9_layPaid
abbrev rmX9_layPaid : Room := { frames := 3, cells := 0, slots := 0, locals := 75 }
def BX9_layPaid_53 (σ : sn_S) : Option (sn_S) :=
  (some σ)
def BX9_layPaid_23 (σ : sn_S) (x1 : Int32) : Option ((sn_S × Int32) ⊕ (sn_S)) :=
  (sn_gd (sn_in (8 : Int32) 119) (if (sn_I σ 1 (8 : Int32).toNatClampNeg) ≤ x1 then
  (some (.inr (σ)))
  else
  ((fX9_of σ x1 (0 : Int32)).bind fun t_3 => ((fX9_claimOf σ x1 t_3 (1 : Int32)).bind fun t_5 => (sn_lt (x1 + 1) fun y_7 => (some (.inl (t_5.2, y_7))))))))
def LX9_layPaid_23  (s : sn_S × Int32) : Option ((sn_S × Int32) ⊕ (sn_S)) := BX9_layPaid_23 s.1 s.2
def BX9_layPaid_21 (σ : sn_S) : Option (sn_S) :=
  ((sn_it (LX9_layPaid_23 ) 5000 (σ, (0 : Int32))).bind fun t_1 => (BX9_layPaid_53 t_1))
def BX9_layPaid_2 (σ : sn_S) (x1 : Int32) : Option ((sn_S × Int32) ⊕ (sn_S)) :=
  (if (30 : Int32) ≤ x1 then
  (some (.inr (σ)))
  else
  (sn_gd (sn_in x1 30) (sn_lt (sn_pI σ 16 x1.toNatClampNeg (0 : Int32)) fun σ_3 => (sn_lt (x1 + 1) fun y_5 => (some (.inl (σ_3, y_5)))))))
def LX9_layPaid_2  (s : sn_S × Int32) : Option ((sn_S × Int32) ⊕ (sn_S)) := BX9_layPaid_2 s.1 s.2
def fX9_layPaid (σ : sn_S) : Option sn_S :=
  ((sn_it (LX9_layPaid_2 ) 5000 (σ, (0 : Int32))).bind fun t_1 => (BX9_layPaid_21 t_1))
theorem wX9_layPaid_53 (C : sn_C p s m args meth c RX9 cX9_layPaid 2 none D ct ad layM A) {σ : sn_S}  {o : sn_S} (hf : BX9_layPaid_53 σ = some o) (kr : sn_Kr p l e rmX9_layPaid s m args below meth c Q D ct ad layM A cX9_layPaid .return_ (true) o []) : sn_At p l e rmX9_layPaid s m args below meth c Q D ct ad layM A 2 σ 53 [] [] := by
  intro H locs ls hw hl
  have hx := C.1
  have hb := C.2.1
  unfold BX9_layPaid_53 at hf
  cases hf
  exact kr _ _ _ _ hw rfl dX9_layPaid_53
theorem wX9_layPaid_23 (C : sn_C p s m args meth c RX9 cX9_layPaid 2 none D ct ad layM A) {σ : sn_S} {x1 : Int32}  {o : (sn_S × Int32) ⊕ (sn_S)} (hf : BX9_layPaid_23 σ x1 = some o) (kc : ∀ v, o = .inl v → sn_At p l e rmX9_layPaid s m args below meth c Q D ct ad layM A 2 v.1 23 [(0, .ref (ad 0)), (1, .int v.2)] []) (kx : ∀ v, o = .inr v → sn_At p l e rmX9_layPaid s m args below meth c Q D ct ad layM A 2 v 53 [] []) : sn_At p l e rmX9_layPaid s m args below meth c Q D ct ad layM A 2 σ 23 [(0, .ref (ad 0)), (1, .int x1)] [] := by
  intro H locs ls hw hl
  have hx := C.1
  have hb := C.2.1
  unfold BX9_layPaid_23 at hf
  refine lv_iload_n hx hb dX9_layPaid_23 rfl (lv_at hl 1 rfl) ?_
  refine lv_aload_n hx hb dX9_layPaid_24 rfl (lv_at hl 0 rfl) ?_
  refine sn_getC (r := 1) C hw fd_RX9_9 layM_0 rfl dX9_layPaid_25 ?_
  refine lv_bipush (v := 8) hx hb dX9_layPaid_28 (by decide) ?_
  obtain ⟨g_1, hf⟩ := sn_gdE hf
  refine sn_iald C hw layM_1 g_1 dX9_layPaid_30 ?_
  refine lv_icmp_ge (tgt := 53) hx hb dX9_layPaid_31 (by decide) (fun c_2 => ?_) (fun c_2 => ?_)
  · have hf := sn_if c_2 hf
    cases hf
    exact kx _ rfl _ _ _ hw (lv_sub hl [] rfl)
  · have hf := sn_el c_2 hf
    refine lv_aload_n hx hb dX9_layPaid_34 rfl (lv_at hl 0 rfl) ?_
    refine lv_iload_n hx hb dX9_layPaid_35 rfl (lv_at hl 1 rfl) ?_
    refine lv_aload_n hx hb dX9_layPaid_36 rfl (lv_at hl 0 rfl) ?_
    refine lv_iload_n hx hb dX9_layPaid_37 rfl (lv_at hl 1 rfl) ?_
    refine lv_iconst (v := 0) hx hb dX9_layPaid_38 rfl ?_
    obtain ⟨t_3, h_4, hf⟩ := sn_bd hf
    refine sn_callVi (rest := [.int x1, .ref (ad 0)]) C hw (ctX9_of l  h_4) kl_RX9_234 layM_0 rfl rfl rfl rfl (Nat.le_of_ble_eq_true rfl) dX9_layPaid_39 hl.1 (fun H locs hw => ?_)
    refine lv_iconst (v := 1) hx hb dX9_layPaid_42 rfl ?_
    obtain ⟨t_5, h_6, hf⟩ := sn_bd hf
    refine sn_callVi (rest := []) C hw (ctX9_claimOf l  h_6) kl_RX9_313 layM_0 rfl rfl rfl rfl (Nat.le_of_ble_eq_true rfl) dX9_layPaid_43 hl.1 (fun H locs hw => ?_)
    refine lv_pop hx hb dX9_layPaid_46 rfl ?_
    obtain ⟨y_7, e_8, hf⟩ := sn_ltE hf
    refine lv_iinc (v := y_7) (lv' := [(1, .int y_7), (0, .ref (ad 0))]) hx hb dX9_layPaid_47 hl (k := 1) rfl (by rw [e_8]; rfl) (by decide) rfl (fun ls hl => ?_)
    refine lv_goto (tgt := 23) hx hb dX9_layPaid_50 (by decide) ?_
    cases hf
    exact kc _ rfl _ _ _ hw (lv_sub hl [1, 0] rfl)
theorem wX9_layPaid_L23 (C : sn_C p s m args meth c RX9 cX9_layPaid 2 none D ct ad layM A)    {z : sn_S × Int32} {t : sn_S} (h : sn_it (LX9_layPaid_23 ) 5000 z = some t) (kx : ∀ v, t = v → sn_At p l e rmX9_layPaid s m args below meth c Q D ct ad layM A 2 v 53 [] []) : sn_At p l e rmX9_layPaid s m args below meth c Q D ct ad layM A 2 z.1 23 [(0, .ref (ad 0)), (1, .int z.2)] [] :=
  sn_loop (f := LX9_layPaid_23 ) (G := fun z => sn_At p l e rmX9_layPaid s m args below meth c Q D ct ad layM A 2 z.1 23 [(0, .ref (ad 0)), (1, .int z.2)] []) (E := fun t => (∀ v, t = v → sn_At p l e rmX9_layPaid s m args below meth c Q D ct ad layM A 2 v 53 [] []) ∧ True) (fun z o hf k1 k2 => wX9_layPaid_23 C  hf (fun v e => k1 v e) (fun v e => (k2 _ e).1 v rfl)) 5000 z t h ⟨kx, trivial⟩
theorem wX9_layPaid_21 (C : sn_C p s m args meth c RX9 cX9_layPaid 2 none D ct ad layM A) {σ : sn_S}  {o : sn_S} (hf : BX9_layPaid_21 σ = some o) (kr : sn_Kr p l e rmX9_layPaid s m args below meth c Q D ct ad layM A cX9_layPaid .return_ (true) o []) : sn_At p l e rmX9_layPaid s m args below meth c Q D ct ad layM A 2 σ 21 [(0, .ref (ad 0))] [] := by
  intro H locs ls hw hl
  have hx := C.1
  have hb := C.2.1
  unfold BX9_layPaid_21 at hf
  refine lv_iconst (v := 0) hx hb dX9_layPaid_21 rfl ?_
  refine lv_istore_n (lv' := [(1, .int (0 : Int32)), (0, .ref (ad 0))]) hx hb dX9_layPaid_22 rfl hl (by decide) rfl (fun ls hl => ?_)
  obtain ⟨t_1, h_2, hf⟩ := sn_bd hf
  exact wX9_layPaid_L23 C  h_2 (fun v e => by cases e; exact wX9_layPaid_53 C  hf kr) _ _ _ hw (lv_sub hl [1, 0] rfl)
theorem wX9_layPaid_2 (C : sn_C p s m args meth c RX9 cX9_layPaid 2 none D ct ad layM A) {σ : sn_S} {x1 : Int32}  {o : (sn_S × Int32) ⊕ (sn_S)} (hf : BX9_layPaid_2 σ x1 = some o) (kc : ∀ v, o = .inl v → sn_At p l e rmX9_layPaid s m args below meth c Q D ct ad layM A 2 v.1 2 [(0, .ref (ad 0)), (1, .int v.2)] []) (kx : ∀ v, o = .inr v → sn_At p l e rmX9_layPaid s m args below meth c Q D ct ad layM A 2 v 21 [(0, .ref (ad 0))] []) : sn_At p l e rmX9_layPaid s m args below meth c Q D ct ad layM A 2 σ 2 [(0, .ref (ad 0)), (1, .int x1)] [] := by
  intro H locs ls hw hl
  have hx := C.1
  have hb := C.2.1
  unfold BX9_layPaid_2 at hf
  refine lv_iload_n hx hb dX9_layPaid_2 rfl (lv_at hl 1 rfl) ?_
  refine lv_bipush (v := 30) hx hb dX9_layPaid_3 (by decide) ?_
  refine lv_icmp_ge (tgt := 21) hx hb dX9_layPaid_5 (by decide) (fun c_1 => ?_) (fun c_1 => ?_)
  · have hf := sn_if c_1 hf
    cases hf
    exact kx _ rfl _ _ _ hw (lv_sub hl [0] rfl)
  · have hf := sn_el c_1 hf
    refine lv_aload_n hx hb dX9_layPaid_8 rfl (lv_at hl 0 rfl) ?_
    refine sn_getC (r := 16) C hw fd_RX9_61 layM_0 rfl dX9_layPaid_9 ?_
    refine lv_iload_n hx hb dX9_layPaid_12 rfl (lv_at hl 1 rfl) ?_
    refine lv_iconst (v := 0) hx hb dX9_layPaid_13 rfl ?_
    obtain ⟨g_2, hf⟩ := sn_gdE hf
    refine sn_iast C hw layM_16 g_2 dX9_layPaid_14 (fun H locs hw => ?_)
    obtain ⟨σ_3, e_4, hf⟩ := sn_ltE hf
    rw [← e_4] at hw
    obtain ⟨y_5, e_6, hf⟩ := sn_ltE hf
    refine lv_iinc (v := y_5) (lv' := [(1, .int y_5), (0, .ref (ad 0))]) hx hb dX9_layPaid_15 hl (k := 1) rfl (by rw [e_6]; rfl) (by decide) rfl (fun ls hl => ?_)
    refine lv_goto (tgt := 2) hx hb dX9_layPaid_18 (by decide) ?_
    cases hf
    exact kc _ rfl _ _ _ hw (lv_sub hl [1, 0] rfl)
theorem wX9_layPaid_L2 (C : sn_C p s m args meth c RX9 cX9_layPaid 2 none D ct ad layM A)    {z : sn_S × Int32} {t : sn_S} (h : sn_it (LX9_layPaid_2 ) 5000 z = some t) (kx : ∀ v, t = v → sn_At p l e rmX9_layPaid s m args below meth c Q D ct ad layM A 2 v 21 [(0, .ref (ad 0))] []) : sn_At p l e rmX9_layPaid s m args below meth c Q D ct ad layM A 2 z.1 2 [(0, .ref (ad 0)), (1, .int z.2)] [] :=
  sn_loop (f := LX9_layPaid_2 ) (G := fun z => sn_At p l e rmX9_layPaid s m args below meth c Q D ct ad layM A 2 z.1 2 [(0, .ref (ad 0)), (1, .int z.2)] []) (E := fun t => (∀ v, t = v → sn_At p l e rmX9_layPaid s m args below meth c Q D ct ad layM A 2 v 21 [(0, .ref (ad 0))] []) ∧ True) (fun z o hf k1 k2 => wX9_layPaid_2 C  hf (fun v e => k1 v e) (fun v e => (k2 _ e).1 v rfl)) 5000 z t h ⟨kx, trivial⟩
theorem wX9_layPaid_in (C : sn_C p s m args meth c RX9 cX9_layPaid 2 none D ct ad layM A) {σ : sn_S}  {o : sn_S} (hf : fX9_layPaid σ = some o) (kr : sn_Kr p l e rmX9_layPaid s m args below meth c Q D ct ad layM A cX9_layPaid .return_ (true) o []) : sn_At p l e rmX9_layPaid s m args below meth c Q D ct ad layM A 2 σ 0 [(0, .ref (ad 0))] [] := by
  intro H locs ls hw hl
  have hx := C.1
  have hb := C.2.1
  unfold fX9_layPaid at hf
  refine lv_iconst (v := 0) hx hb dX9_layPaid_0 rfl ?_
  refine lv_istore_n (lv' := [(1, .int (0 : Int32)), (0, .ref (ad 0))]) hx hb dX9_layPaid_1 rfl hl (by decide) rfl (fun ls hl => ?_)
  obtain ⟨t_1, h_2, hf⟩ := sn_bd hf
  exact wX9_layPaid_L2 C  h_2 (fun v e => by cases e; exact wX9_layPaid_21 C  hf kr) _ _ _ hw (lv_sub hl [1, 0] rfl)
theorem ctX9_layPaid (l : Launch) {σ : sn_S}  {o : sn_S} (hf : fX9_layPaid σ = some o) : sn_M l yX9_layPaid cX9_layPaid 2 none rmX9_layPaid layM (fun ad => [.ref (ad 0)]) σ none o :=
  sn_met (by decide) (fun _ => Nat.le_of_ble_eq_true rfl) (fun p e s m args below meth c ls D ct ad A C hw hl => wX9_layPaid_in C  hf (fun H locs ls pc hw ok hd => sn_vret C hw hd) _ _ _ hw hl)
-- X9_moneyAt
abbrev rmX9_moneyAt : Room := { frames := 1, cells := 0, slots := 0, locals := 22 }
def BX9_moneyAt_55 (σ : sn_S) (x2 : Int32) : Option (Int32) :=
  (some x2)
def BX9_moneyAt_35 (σ : sn_S) (x1 : Int32) (x2 : Int32) (x3 : Int32) : Option ((Int32 × Int32) ⊕ (Int32)) :=
  (if x1 < x3 then
  (some (.inr (x2)))
  else
  (sn_gd (sn_in x3 30) (sn_lt (x2 - (sn_I σ 16 x3.toNatClampNeg)) fun y_3 => (sn_lt (x3 + 1) fun y_5 => (some (.inl (y_3, y_5)))))))
def LX9_moneyAt_35 (σ : sn_S) (x1 : Int32) (s : Int32 × Int32) : Option ((Int32 × Int32) ⊕ (Int32)) := BX9_moneyAt_35 σ x1 s.1 s.2
def BX9_moneyAt_33 (σ : sn_S) (x1 : Int32) (x2 : Int32) : Option (Int32) :=
  ((sn_it (LX9_moneyAt_35 σ x1) 5000 (x2, (0 : Int32))).bind fun t_1 => (BX9_moneyAt_55 σ t_1))
def BX9_moneyAt_7 (σ : sn_S) (x1 : Int32) (x2 : Int32) (x3 : Int32) : Option ((Int32 × Int32) ⊕ (Int32)) :=
  (sn_gd (sn_in (8 : Int32) 119) (if (sn_I σ 1 (8 : Int32).toNatClampNeg) ≤ x3 then
  (some (.inr (x2)))
  else
  ((fX9_of σ x3 (4 : Int32)).bind fun t_3 => (sn_lt (x2 + t_3) fun y_5 => (sn_lt (x3 + 1) fun y_7 => (some (.inl (y_5, y_7))))))))
def LX9_moneyAt_7 (σ : sn_S) (x1 : Int32) (s : Int32 × Int32) : Option ((Int32 × Int32) ⊕ (Int32)) := BX9_moneyAt_7 σ x1 s.1 s.2
def fX9_moneyAt (σ : sn_S) (x1 : Int32) : Option Int32 :=
  (sn_lt (sn_I σ 0 21) fun y_1 => ((sn_it (LX9_moneyAt_7 σ x1) 5000 (y_1, (0 : Int32))).bind fun t_3 => (BX9_moneyAt_33 σ x1 t_3)))
theorem wX9_moneyAt_55 (C : sn_C p s m args meth c RX9 cX9_moneyAt 4 (some .int) D ct ad layM A) {σ : sn_S} {x2 : Int32}  {o : Int32} (hf : BX9_moneyAt_55 σ x2 = some o) (kr : sn_Kr p l e rmX9_moneyAt s m args below meth c Q D ct ad layM A cX9_moneyAt .ireturn (true) σ [.int o]) : sn_At p l e rmX9_moneyAt s m args below meth c Q D ct ad layM A 4 σ 55 [(2, .int x2)] [] := by
  intro H locs ls hw hl
  have hx := C.1
  have hb := C.2.1
  unfold BX9_moneyAt_55 at hf
  refine lv_iload_n hx hb dX9_moneyAt_55 rfl (lv_at hl 0 rfl) ?_
  cases hf
  exact kr _ _ _ _ hw rfl dX9_moneyAt_56
theorem wX9_moneyAt_35 (C : sn_C p s m args meth c RX9 cX9_moneyAt 4 (some .int) D ct ad layM A) {σ : sn_S} {x1 : Int32} {x2 : Int32} {x3 : Int32}  {o : (Int32 × Int32) ⊕ (Int32)} (hf : BX9_moneyAt_35 σ x1 x2 x3 = some o) (kc : ∀ v, o = .inl v → sn_At p l e rmX9_moneyAt s m args below meth c Q D ct ad layM A 4 σ 35 [(0, .ref (ad 0)), (1, .int x1), (2, .int v.1), (3, .int v.2)] []) (kx : ∀ v, o = .inr v → sn_At p l e rmX9_moneyAt s m args below meth c Q D ct ad layM A 4 σ 55 [(2, .int v)] []) : sn_At p l e rmX9_moneyAt s m args below meth c Q D ct ad layM A 4 σ 35 [(0, .ref (ad 0)), (1, .int x1), (2, .int x2), (3, .int x3)] [] := by
  intro H locs ls hw hl
  have hx := C.1
  have hb := C.2.1
  unfold BX9_moneyAt_35 at hf
  refine lv_iload_n hx hb dX9_moneyAt_35 rfl (lv_at hl 3 rfl) ?_
  refine lv_iload_n hx hb dX9_moneyAt_36 rfl (lv_at hl 1 rfl) ?_
  refine lv_icmp_gt (tgt := 55) hx hb dX9_moneyAt_37 (by decide) (fun c_1 => ?_) (fun c_1 => ?_)
  · have hf := sn_if c_1 hf
    cases hf
    exact kx _ rfl _ _ _ hw (lv_sub hl [2] rfl)
  · have hf := sn_el c_1 hf
    refine lv_iload_n hx hb dX9_moneyAt_40 rfl (lv_at hl 2 rfl) ?_
    refine lv_aload_n hx hb dX9_moneyAt_41 rfl (lv_at hl 0 rfl) ?_
    refine sn_getC (r := 16) C hw fd_RX9_61 layM_0 rfl dX9_moneyAt_42 ?_
    refine lv_iload_n hx hb dX9_moneyAt_45 rfl (lv_at hl 3 rfl) ?_
    obtain ⟨g_2, hf⟩ := sn_gdE hf
    refine sn_iald C hw layM_16 g_2 dX9_moneyAt_46 ?_
    refine lv_isub hx hb dX9_moneyAt_47 ?_
    obtain ⟨y_3, e_4, hf⟩ := sn_ltE hf
    refine lv_topi (fun y_3_ e_4_ => ?_)
    obtain rfl : y_3 = y_3_ := e_4.trans e_4_.symm
    refine lv_istore_n (lv' := [(2, .int y_3), (0, .ref (ad 0)), (1, .int x1), (3, .int x3)]) hx hb dX9_moneyAt_48 rfl hl (by decide) rfl (fun ls hl => ?_)
    obtain ⟨y_5, e_6, hf⟩ := sn_ltE hf
    refine lv_iinc (v := y_5) (lv' := [(3, .int y_5), (2, .int y_3), (0, .ref (ad 0)), (1, .int x1)]) hx hb dX9_moneyAt_49 hl (k := 3) rfl (by rw [e_6]; rfl) (by decide) rfl (fun ls hl => ?_)
    refine lv_goto (tgt := 35) hx hb dX9_moneyAt_52 (by decide) ?_
    cases hf
    exact kc _ rfl _ _ _ hw (lv_sub hl [2, 3, 1, 0] rfl)
theorem wX9_moneyAt_L35 (C : sn_C p s m args meth c RX9 cX9_moneyAt 4 (some .int) D ct ad layM A) {σ : sn_S} {x1 : Int32}   {z : Int32 × Int32} {t : Int32} (h : sn_it (LX9_moneyAt_35 σ x1) 5000 z = some t) (kx : ∀ v, t = v → sn_At p l e rmX9_moneyAt s m args below meth c Q D ct ad layM A 4 σ 55 [(2, .int v)] []) : sn_At p l e rmX9_moneyAt s m args below meth c Q D ct ad layM A 4 σ 35 [(0, .ref (ad 0)), (1, .int x1), (2, .int z.1), (3, .int z.2)] [] :=
  sn_loop (f := LX9_moneyAt_35 σ x1) (G := fun z => sn_At p l e rmX9_moneyAt s m args below meth c Q D ct ad layM A 4 σ 35 [(0, .ref (ad 0)), (1, .int x1), (2, .int z.1), (3, .int z.2)] []) (E := fun t => (∀ v, t = v → sn_At p l e rmX9_moneyAt s m args below meth c Q D ct ad layM A 4 σ 55 [(2, .int v)] []) ∧ True) (fun z o hf k1 k2 => wX9_moneyAt_35 C  hf (fun v e => k1 v e) (fun v e => (k2 _ e).1 v rfl)) 5000 z t h ⟨kx, trivial⟩
theorem wX9_moneyAt_33 (C : sn_C p s m args meth c RX9 cX9_moneyAt 4 (some .int) D ct ad layM A) {σ : sn_S} {x1 : Int32} {x2 : Int32}  {o : Int32} (hf : BX9_moneyAt_33 σ x1 x2 = some o) (kr : sn_Kr p l e rmX9_moneyAt s m args below meth c Q D ct ad layM A cX9_moneyAt .ireturn (true) σ [.int o]) : sn_At p l e rmX9_moneyAt s m args below meth c Q D ct ad layM A 4 σ 33 [(0, .ref (ad 0)), (1, .int x1), (2, .int x2)] [] := by
  intro H locs ls hw hl
  have hx := C.1
  have hb := C.2.1
  unfold BX9_moneyAt_33 at hf
  refine lv_iconst (v := 0) hx hb dX9_moneyAt_33 rfl ?_
  refine lv_istore_n (lv' := [(3, .int (0 : Int32)), (0, .ref (ad 0)), (1, .int x1), (2, .int x2)]) hx hb dX9_moneyAt_34 rfl hl (by decide) rfl (fun ls hl => ?_)
  obtain ⟨t_1, h_2, hf⟩ := sn_bd hf
  exact wX9_moneyAt_L35 C  h_2 (fun v e => by cases e; exact wX9_moneyAt_55 C  hf kr) _ _ _ hw (lv_sub hl [1, 2, 3, 0] rfl)
theorem wX9_moneyAt_7 (C : sn_C p s m args meth c RX9 cX9_moneyAt 4 (some .int) D ct ad layM A) {σ : sn_S} {x1 : Int32} {x2 : Int32} {x3 : Int32}  {o : (Int32 × Int32) ⊕ (Int32)} (hf : BX9_moneyAt_7 σ x1 x2 x3 = some o) (kc : ∀ v, o = .inl v → sn_At p l e rmX9_moneyAt s m args below meth c Q D ct ad layM A 4 σ 7 [(0, .ref (ad 0)), (1, .int x1), (2, .int v.1), (3, .int v.2)] []) (kx : ∀ v, o = .inr v → sn_At p l e rmX9_moneyAt s m args below meth c Q D ct ad layM A 4 σ 33 [(0, .ref (ad 0)), (1, .int x1), (2, .int v)] []) : sn_At p l e rmX9_moneyAt s m args below meth c Q D ct ad layM A 4 σ 7 [(0, .ref (ad 0)), (1, .int x1), (2, .int x2), (3, .int x3)] [] := by
  intro H locs ls hw hl
  have hx := C.1
  have hb := C.2.1
  unfold BX9_moneyAt_7 at hf
  refine lv_iload_n hx hb dX9_moneyAt_7 rfl (lv_at hl 3 rfl) ?_
  refine lv_aload_n hx hb dX9_moneyAt_8 rfl (lv_at hl 0 rfl) ?_
  refine sn_getC (r := 1) C hw fd_RX9_9 layM_0 rfl dX9_moneyAt_9 ?_
  refine lv_bipush (v := 8) hx hb dX9_moneyAt_12 (by decide) ?_
  obtain ⟨g_1, hf⟩ := sn_gdE hf
  refine sn_iald C hw layM_1 g_1 dX9_moneyAt_14 ?_
  refine lv_icmp_ge (tgt := 33) hx hb dX9_moneyAt_15 (by decide) (fun c_2 => ?_) (fun c_2 => ?_)
  · have hf := sn_if c_2 hf
    cases hf
    exact kx _ rfl _ _ _ hw (lv_sub hl [0, 1, 2] rfl)
  · have hf := sn_el c_2 hf
    refine lv_iload_n hx hb dX9_moneyAt_18 rfl (lv_at hl 2 rfl) ?_
    refine lv_aload_n hx hb dX9_moneyAt_19 rfl (lv_at hl 0 rfl) ?_
    refine lv_iload_n hx hb dX9_moneyAt_20 rfl (lv_at hl 3 rfl) ?_
    refine lv_iconst (v := 4) hx hb dX9_moneyAt_21 rfl ?_
    obtain ⟨t_3, h_4, hf⟩ := sn_bd hf
    refine sn_callVi (rest := [.int x2]) C hw (ctX9_of l  h_4) kl_RX9_234 layM_0 rfl rfl rfl rfl (Nat.le_of_ble_eq_true rfl) dX9_moneyAt_22 hl.1 (fun H locs hw => ?_)
    refine lv_iadd hx hb dX9_moneyAt_25 ?_
    obtain ⟨y_5, e_6, hf⟩ := sn_ltE hf
    refine lv_topi (fun y_5_ e_6_ => ?_)
    obtain rfl : y_5 = y_5_ := e_6.trans e_6_.symm
    refine lv_istore_n (lv' := [(2, .int y_5), (0, .ref (ad 0)), (1, .int x1), (3, .int x3)]) hx hb dX9_moneyAt_26 rfl hl (by decide) rfl (fun ls hl => ?_)
    obtain ⟨y_7, e_8, hf⟩ := sn_ltE hf
    refine lv_iinc (v := y_7) (lv' := [(3, .int y_7), (2, .int y_5), (0, .ref (ad 0)), (1, .int x1)]) hx hb dX9_moneyAt_27 hl (k := 3) rfl (by rw [e_8]; rfl) (by decide) rfl (fun ls hl => ?_)
    refine lv_goto (tgt := 7) hx hb dX9_moneyAt_30 (by decide) ?_
    cases hf
    exact kc _ rfl _ _ _ hw (lv_sub hl [2, 3, 1, 0] rfl)
theorem wX9_moneyAt_L7 (C : sn_C p s m args meth c RX9 cX9_moneyAt 4 (some .int) D ct ad layM A) {σ : sn_S} {x1 : Int32}   {z : Int32 × Int32} {t : Int32} (h : sn_it (LX9_moneyAt_7 σ x1) 5000 z = some t) (kx : ∀ v, t = v → sn_At p l e rmX9_moneyAt s m args below meth c Q D ct ad layM A 4 σ 33 [(0, .ref (ad 0)), (1, .int x1), (2, .int v)] []) : sn_At p l e rmX9_moneyAt s m args below meth c Q D ct ad layM A 4 σ 7 [(0, .ref (ad 0)), (1, .int x1), (2, .int z.1), (3, .int z.2)] [] :=
  sn_loop (f := LX9_moneyAt_7 σ x1) (G := fun z => sn_At p l e rmX9_moneyAt s m args below meth c Q D ct ad layM A 4 σ 7 [(0, .ref (ad 0)), (1, .int x1), (2, .int z.1), (3, .int z.2)] []) (E := fun t => (∀ v, t = v → sn_At p l e rmX9_moneyAt s m args below meth c Q D ct ad layM A 4 σ 33 [(0, .ref (ad 0)), (1, .int x1), (2, .int v)] []) ∧ True) (fun z o hf k1 k2 => wX9_moneyAt_7 C  hf (fun v e => k1 v e) (fun v e => (k2 _ e).1 v rfl)) 5000 z t h ⟨kx, trivial⟩
theorem wX9_moneyAt_in (C : sn_C p s m args meth c RX9 cX9_moneyAt 4 (some .int) D ct ad layM A) {σ : sn_S} {x1 : Int32}  {o : Int32} (hf : fX9_moneyAt σ x1 = some o) (kr : sn_Kr p l e rmX9_moneyAt s m args below meth c Q D ct ad layM A cX9_moneyAt .ireturn (true) σ [.int o]) : sn_At p l e rmX9_moneyAt s m args below meth c Q D ct ad layM A 4 σ 0 [(0, .ref (ad 0)), (1, .int x1)] [] := by
  intro H locs ls hw hl
  have hx := C.1
  have hb := C.2.1
  unfold fX9_moneyAt at hf
  refine lv_aload_n hx hb dX9_moneyAt_0 rfl (lv_at hl 0 rfl) ?_
  refine sn_getI C hw fd_RX9_246 layM_0 rfl dX9_moneyAt_1 ?_
  obtain ⟨y_1, e_2, hf⟩ := sn_ltE hf
  refine lv_topi (fun y_1_ e_2_ => ?_)
  obtain rfl : y_1 = y_1_ := e_2.trans e_2_.symm
  refine lv_istore_n (lv' := [(2, .int y_1), (0, .ref (ad 0)), (1, .int x1)]) hx hb dX9_moneyAt_4 rfl hl (by decide) rfl (fun ls hl => ?_)
  refine lv_iconst (v := 0) hx hb dX9_moneyAt_5 rfl ?_
  refine lv_istore_n (lv' := [(3, .int (0 : Int32)), (2, .int y_1), (0, .ref (ad 0)), (1, .int x1)]) hx hb dX9_moneyAt_6 rfl hl (by decide) rfl (fun ls hl => ?_)
  obtain ⟨t_3, h_4, hf⟩ := sn_bd hf
  exact wX9_moneyAt_L7 C  h_4 (fun v e => by cases e; exact wX9_moneyAt_33 C  hf kr) _ _ _ hw (lv_sub hl [2, 3, 1, 0] rfl)
theorem ctX9_moneyAt (l : Launch) {σ : sn_S} {x1 : Int32}  {o : Int32} (hf : fX9_moneyAt σ x1 = some o) : sn_M l yX9_moneyAt cX9_moneyAt 4 (some .int) rmX9_moneyAt layM (fun ad => [.ref (ad 0), .int x1]) σ (some (fun _ => .int o)) σ :=
  sn_met (by decide) (fun _ => Nat.le_of_ble_eq_true rfl) (fun p e s m args below meth c ls D ct ad A C hw hl => wX9_moneyAt_in C  hf (fun H locs ls pc hw ok hd => sn_iret C hw hd) _ _ _ hw hl)
-- X9_ruinOf
abbrev rmX9_ruinOf : Room := { frames := 4, cells := 0, slots := 0, locals := 96 }
def BX9_ruinOf_30 (σ : sn_S) : Option ((Int32 × sn_S)) :=
  (some ((-1 : Int32), σ))
def BX9_ruinOf_6 (σ : sn_S) (x1 : Int32) : Option ((Int32) ⊕ ((Unit) ⊕ (Int32 × sn_S))) :=
  (if (sn_I σ 0 22) < x1 then
  (some (.inr (.inl ())))
  else
  ((fX9_moneyAt σ x1).bind fun t_2 => (if 0 ≤ t_2 then
  (sn_lt (x1 + 1) fun y_5 => (some (.inl (y_5))))
  else
  (some (.inr (.inr (x1, σ)))))))
def LX9_ruinOf_6 (σ : sn_S) (s : Int32) : Option ((Int32) ⊕ ((Unit) ⊕ (Int32 × sn_S))) := BX9_ruinOf_6 σ s
def fX9_ruinOf (σ : sn_S) : Option (Int32 × sn_S) :=
  ((fX9_layPaid σ).bind fun t_1 => ((sn_it (LX9_ruinOf_6 t_1) 5000 ((0 : Int32))).bind fun t_3 => Sum.elim (fun v_5 => (BX9_ruinOf_30 t_1)) (fun r_6 => (some r_6)) t_3))
theorem wX9_ruinOf_30 (C : sn_C p s m args meth c RX9 cX9_ruinOf 2 (some .int) D ct ad layM A) {σ : sn_S}  {o : (Int32 × sn_S)} (hf : BX9_ruinOf_30 σ = some o) (kr : sn_Kr p l e rmX9_ruinOf s m args below meth c Q D ct ad layM A cX9_ruinOf .ireturn (true) o.2 [.int o.1]) : sn_At p l e rmX9_ruinOf s m args below meth c Q D ct ad layM A 2 σ 30 [] [] := by
  intro H locs ls hw hl
  have hx := C.1
  have hb := C.2.1
  unfold BX9_ruinOf_30 at hf
  refine lv_iconst (v := (-1)) hx hb dX9_ruinOf_30 rfl ?_
  cases hf
  exact kr _ _ _ _ hw rfl dX9_ruinOf_31
theorem wX9_ruinOf_6 (C : sn_C p s m args meth c RX9 cX9_ruinOf 2 (some .int) D ct ad layM A) {σ : sn_S} {x1 : Int32}  {o : (Int32) ⊕ ((Unit) ⊕ (Int32 × sn_S))} (hf : BX9_ruinOf_6 σ x1 = some o) (kc : ∀ v, o = .inl v → sn_At p l e rmX9_ruinOf s m args below meth c Q D ct ad layM A 2 σ 6 [(0, .ref (ad 0)), (1, .int v)] []) (kx : ∀ v, o = .inr (.inl v) → sn_At p l e rmX9_ruinOf s m args below meth c Q D ct ad layM A 2 σ 30 [] []) (kr : ∀ r, o = .inr (.inr r) → sn_Kr p l e rmX9_ruinOf s m args below meth c Q D ct ad layM A cX9_ruinOf .ireturn (true) r.2 [.int r.1]) : sn_At p l e rmX9_ruinOf s m args below meth c Q D ct ad layM A 2 σ 6 [(0, .ref (ad 0)), (1, .int x1)] [] := by
  intro H locs ls hw hl
  have hx := C.1
  have hb := C.2.1
  unfold BX9_ruinOf_6 at hf
  refine lv_iload_n hx hb dX9_ruinOf_6 rfl (lv_at hl 1 rfl) ?_
  refine lv_aload_n hx hb dX9_ruinOf_7 rfl (lv_at hl 0 rfl) ?_
  refine sn_getI C hw fd_RX9_251 layM_0 rfl dX9_ruinOf_8 ?_
  refine lv_icmp_gt (tgt := 30) hx hb dX9_ruinOf_11 (by decide) (fun c_1 => ?_) (fun c_1 => ?_)
  · have hf := sn_if c_1 hf
    cases hf
    exact kx _ rfl _ _ _ hw (lv_sub hl [] rfl)
  · have hf := sn_el c_1 hf
    refine lv_aload_n hx hb dX9_ruinOf_14 rfl (lv_at hl 0 rfl) ?_
    refine lv_iload_n hx hb dX9_ruinOf_15 rfl (lv_at hl 1 rfl) ?_
    obtain ⟨t_2, h_3, hf⟩ := sn_bd hf
    refine sn_callVi (rest := []) C hw (ctX9_moneyAt l  h_3) kl_RX9_320 layM_0 rfl rfl rfl rfl (Nat.le_of_ble_eq_true rfl) dX9_ruinOf_16 hl.1 (fun H locs hw => ?_)
    refine lv_if_ge (tgt := 24) hx hb dX9_ruinOf_19 (by decide) (fun c_4 => ?_) (fun c_4 => ?_)
    · have hf := sn_if c_4 hf
      obtain ⟨y_5, e_6, hf⟩ := sn_ltE hf
      refine lv_iinc (v := y_5) (lv' := [(1, .int y_5), (0, .ref (ad 0))]) hx hb dX9_ruinOf_24 hl (k := 1) rfl (by rw [e_6]; rfl) (by decide) rfl (fun ls hl => ?_)
      refine lv_goto (tgt := 6) hx hb dX9_ruinOf_27 (by decide) ?_
      cases hf
      exact kc _ rfl _ _ _ hw (lv_sub hl [1, 0] rfl)
    · have hf := sn_el c_4 hf
      refine lv_iload_n hx hb dX9_ruinOf_22 rfl (lv_at hl 1 rfl) ?_
      cases hf
      exact kr _ rfl _ _ _ _ hw rfl dX9_ruinOf_23
theorem wX9_ruinOf_L6 (C : sn_C p s m args meth c RX9 cX9_ruinOf 2 (some .int) D ct ad layM A) {σ : sn_S}   {z : Int32} {t : (Unit) ⊕ (Int32 × sn_S)} (h : sn_it (LX9_ruinOf_6 σ) 5000 z = some t) (kx : ∀ v, t = .inl v → sn_At p l e rmX9_ruinOf s m args below meth c Q D ct ad layM A 2 σ 30 [] []) (kr : ∀ r, t = .inr r → sn_Kr p l e rmX9_ruinOf s m args below meth c Q D ct ad layM A cX9_ruinOf .ireturn (true) r.2 [.int r.1]) : sn_At p l e rmX9_ruinOf s m args below meth c Q D ct ad layM A 2 σ 6 [(0, .ref (ad 0)), (1, .int z)] [] :=
  sn_loop (f := LX9_ruinOf_6 σ) (G := fun z => sn_At p l e rmX9_ruinOf s m args below meth c Q D ct ad layM A 2 σ 6 [(0, .ref (ad 0)), (1, .int z)] []) (E := fun t => (∀ v, t = .inl v → sn_At p l e rmX9_ruinOf s m args below meth c Q D ct ad layM A 2 σ 30 [] []) ∧ (∀ r, t = .inr r → sn_Kr p l e rmX9_ruinOf s m args below meth c Q D ct ad layM A cX9_ruinOf .ireturn (true) r.2 [.int r.1])) (fun z o hf k1 k2 => wX9_ruinOf_6 C  hf (fun v e => k1 v e) (fun v e => (k2 _ e).1 v rfl) (fun r e => (k2 _ e).2 r rfl)) 5000 z t h ⟨kx, kr⟩
theorem wX9_ruinOf_in (C : sn_C p s m args meth c RX9 cX9_ruinOf 2 (some .int) D ct ad layM A) {σ : sn_S}  {o : (Int32 × sn_S)} (hf : fX9_ruinOf σ = some o) (kr : sn_Kr p l e rmX9_ruinOf s m args below meth c Q D ct ad layM A cX9_ruinOf .ireturn (true) o.2 [.int o.1]) : sn_At p l e rmX9_ruinOf s m args below meth c Q D ct ad layM A 2 σ 0 [(0, .ref (ad 0))] [] := by
  intro H locs ls hw hl
  have hx := C.1
  have hb := C.2.1
  unfold fX9_ruinOf at hf
  refine lv_aload_n hx hb dX9_ruinOf_0 rfl (lv_at hl 0 rfl) ?_
  obtain ⟨t_1, h_2, hf⟩ := sn_bd hf
  refine sn_callVv (rest := []) C hw (ctX9_layPaid l  h_2) kl_RX9_317 layM_0 rfl rfl rfl rfl (Nat.le_of_ble_eq_true rfl) dX9_ruinOf_1 hl.1 (fun H locs hw => ?_)
  refine lv_iconst (v := 0) hx hb dX9_ruinOf_4 rfl ?_
  refine lv_istore_n (lv' := [(1, .int (0 : Int32)), (0, .ref (ad 0))]) hx hb dX9_ruinOf_5 rfl hl (by decide) rfl (fun ls hl => ?_)
  obtain ⟨t_3, h_4, hf⟩ := sn_bd hf
  rcases t_3 with v_5 | r_6
  · rw [Sum.elim_inl] at hf
    exact wX9_ruinOf_L6 C  h_4 (fun v e => by cases e; exact wX9_ruinOf_30 C  hf kr) (fun r e => by cases e) _ _ _ hw (lv_sub hl [1, 0] rfl)
  · rw [Sum.elim_inr] at hf
    cases hf
    exact wX9_ruinOf_L6 C  h_4 (fun v e => by cases e) (fun r e => by cases e; exact kr) _ _ _ hw (lv_sub hl [1, 0] rfl)
theorem ctX9_ruinOf (l : Launch) {σ : sn_S}  {o : (Int32 × sn_S)} (hf : fX9_ruinOf σ = some o) : sn_M l yX9_ruinOf cX9_ruinOf 2 (some .int) rmX9_ruinOf layM (fun ad => [.ref (ad 0)]) σ (some (fun _ => .int o.1)) o.2 :=
  sn_met (by decide) (fun _ => Nat.le_of_ble_eq_true rfl) (fun p e s m args below meth c ls D ct ad A C hw hl => wX9_ruinOf_in C  hf (fun H locs ls pc hw ok hd => sn_iret C hw hd) _ _ _ hw hl)
-- X9_asksPolicy
abbrev rmX9_asksPolicy : Room := { frames := 5, cells := 0, slots := 0, locals := 115 }
def fX9_asksPolicy (σ : sn_S) (x1 : Int32) : Option (Int32 × sn_S) :=
  ((fX9_asksHouse σ).bind fun t_1 => ((fX9_isPolicy t_1.2 x1).bind fun t_3 => (sn_gd (sn_b01 t_3) (some (t_3, t_1.2)))))
theorem wX9_asksPolicy_in (C : sn_C p s m args meth c RX9 cX9_asksPolicy 2 (some .boolean) D ct ad layM A) {σ : sn_S} {x1 : Int32}  {o : (Int32 × sn_S)} (hf : fX9_asksPolicy σ x1 = some o) (kr : sn_Kr p l e rmX9_asksPolicy s m args below meth c Q D ct ad layM A cX9_asksPolicy .ireturn (sn_b01 o.1) o.2 [.int o.1]) : sn_At p l e rmX9_asksPolicy s m args below meth c Q D ct ad layM A 2 σ 0 [(0, .ref (ad 0)), (1, .int x1)] [] := by
  intro H locs ls hw hl
  have hx := C.1
  have hb := C.2.1
  unfold fX9_asksPolicy at hf
  refine lv_aload_n hx hb dX9_asksPolicy_0 rfl (lv_at hl 0 rfl) ?_
  obtain ⟨t_1, h_2, hf⟩ := sn_bd hf
  refine sn_callVi (rest := []) C hw (ctX9_asksHouse l  h_2) kl_RX9_272 layM_0 rfl rfl rfl rfl (Nat.le_of_ble_eq_true rfl) dX9_asksPolicy_1 hl.1 (fun H locs hw => ?_)
  refine lv_pop hx hb dX9_asksPolicy_4 rfl ?_
  refine lv_aload_n hx hb dX9_asksPolicy_5 rfl (lv_at hl 0 rfl) ?_
  refine lv_iload_n hx hb dX9_asksPolicy_6 rfl (lv_at hl 1 rfl) ?_
  obtain ⟨t_3, h_4, hf⟩ := sn_bd hf
  refine sn_callVi (rest := []) C hw (ctX9_isPolicy l  h_4) kl_RX9_228 layM_0 rfl rfl rfl rfl (Nat.le_of_ble_eq_true rfl) dX9_asksPolicy_7 hl.1 (fun H locs hw => ?_)
  obtain ⟨g_5, hf⟩ := sn_gdE hf
  cases hf
  exact kr _ _ _ _ hw g_5 dX9_asksPolicy_10
theorem ctX9_asksPolicy (l : Launch) {σ : sn_S} {x1 : Int32}  {o : (Int32 × sn_S)} (hf : fX9_asksPolicy σ x1 = some o) : sn_M l yX9_asksPolicy cX9_asksPolicy 2 (some .boolean) rmX9_asksPolicy layM (fun ad => [.ref (ad 0), .int x1]) σ (some (fun _ => .int o.1)) o.2 :=
  sn_met (by decide) (fun _ => Nat.le_of_ble_eq_true rfl) (fun p e s m args below meth c ls D ct ad A C hw hl => wX9_asksPolicy_in C  hf (fun H locs ls pc hw ok hd => sn_zret C hw ok hd) _ _ _ hw hl)
-- X9_claim
abbrev rmX9_claim : Room := { frames := 6, cells := 0, slots := 0, locals := 136 }
def fX9_claim (σ : sn_S) (x1 : Int32) : Option (Int32 × sn_S) :=
  ((fX9_asksPolicy σ x1).bind fun t_1 => (if t_1.1 = 0 then
  (some ((-2 : Int32), t_1.2))
  else
  ((fX9_claimOf_ t_1.2 x1).bind fun t_4 => (some (t_4.1, t_4.2)))))
theorem wX9_claim_in (C : sn_C p s m args meth c RX9 cX9_claim 2 (some .int) D ct ad layM A) {σ : sn_S} {x1 : Int32}  {o : (Int32 × sn_S)} (hf : fX9_claim σ x1 = some o) (kr : sn_Kr p l e rmX9_claim s m args below meth c Q D ct ad layM A cX9_claim .ireturn (true) o.2 [.int o.1]) : sn_At p l e rmX9_claim s m args below meth c Q D ct ad layM A 2 σ 0 [(0, .ref (ad 0)), (1, .int x1)] [] := by
  intro H locs ls hw hl
  have hx := C.1
  have hb := C.2.1
  unfold fX9_claim at hf
  refine lv_aload_n hx hb dX9_claim_0 rfl (lv_at hl 0 rfl) ?_
  refine lv_iload_n hx hb dX9_claim_1 rfl (lv_at hl 1 rfl) ?_
  obtain ⟨t_1, h_2, hf⟩ := sn_bd hf
  refine sn_callVi (rest := []) C hw (ctX9_asksPolicy l  h_2) kl_RX9_323 layM_0 rfl rfl rfl rfl (Nat.le_of_ble_eq_true rfl) dX9_claim_2 hl.1 (fun H locs hw => ?_)
  refine lv_if_eq (tgt := 16) hx hb dX9_claim_5 (by decide) (fun c_3 => ?_) (fun c_3 => ?_)
  · have hf := sn_if c_3 hf
    refine lv_bipush (v := (-2)) hx hb dX9_claim_16 (by decide) ?_
    cases hf
    exact kr _ _ _ _ hw rfl dX9_claim_18
  · have hf := sn_el c_3 hf
    refine lv_aload_n hx hb dX9_claim_8 rfl (lv_at hl 0 rfl) ?_
    refine lv_iload_n hx hb dX9_claim_9 rfl (lv_at hl 1 rfl) ?_
    obtain ⟨t_4, h_5, hf⟩ := sn_bd hf
    refine sn_callVi (rest := []) C hw (ctX9_claimOf_ l  h_5) kl_RX9_326 layM_0 rfl rfl rfl rfl (Nat.le_of_ble_eq_true rfl) dX9_claim_10 hl.1 (fun H locs hw => ?_)
    refine lv_goto (tgt := 18) hx hb dX9_claim_13 (by decide) ?_
    cases hf
    exact kr _ _ _ _ hw rfl dX9_claim_18
theorem ctX9_claim (l : Launch) {σ : sn_S} {x1 : Int32}  {o : (Int32 × sn_S)} (hf : fX9_claim σ x1 = some o) : sn_M l yX9_claim cX9_claim 2 (some .int) rmX9_claim layM (fun ad => [.ref (ad 0), .int x1]) σ (some (fun _ => .int o.1)) o.2 :=
  sn_met (by decide) (fun _ => Nat.le_of_ble_eq_true rfl) (fun p e s m args below meth c ls D ct ad A C hw hl => wX9_claim_in C  hf (fun H locs ls pc hw ok hd => sn_iret C hw hd) _ _ _ hw hl)
-- X9_paid
abbrev rmX9_paid : Room := { frames := 6, cells := 0, slots := 0, locals := 136 }
def fX9_paid (σ : sn_S) (x1 : Int32) : Option (Int32 × sn_S) :=
  ((fX9_asksPolicy σ x1).bind fun t_1 => (if t_1.1 = 0 then
  (some ((-2 : Int32), t_1.2))
  else
  ((fX9_claimOf_ t_1.2 x1).bind fun t_4 => (some ((sn_I t_4.2 0 30), t_4.2)))))
theorem wX9_paid_in (C : sn_C p s m args meth c RX9 cX9_paid 2 (some .int) D ct ad layM A) {σ : sn_S} {x1 : Int32}  {o : (Int32 × sn_S)} (hf : fX9_paid σ x1 = some o) (kr : sn_Kr p l e rmX9_paid s m args below meth c Q D ct ad layM A cX9_paid .ireturn (true) o.2 [.int o.1]) : sn_At p l e rmX9_paid s m args below meth c Q D ct ad layM A 2 σ 0 [(0, .ref (ad 0)), (1, .int x1)] [] := by
  intro H locs ls hw hl
  have hx := C.1
  have hb := C.2.1
  unfold fX9_paid at hf
  refine lv_aload_n hx hb dX9_paid_0 rfl (lv_at hl 0 rfl) ?_
  refine lv_iload_n hx hb dX9_paid_1 rfl (lv_at hl 1 rfl) ?_
  obtain ⟨t_1, h_2, hf⟩ := sn_bd hf
  refine sn_callVi (rest := []) C hw (ctX9_asksPolicy l  h_2) kl_RX9_323 layM_0 rfl rfl rfl rfl (Nat.le_of_ble_eq_true rfl) dX9_paid_2 hl.1 (fun H locs hw => ?_)
  refine lv_if_ne (tgt := 11) hx hb dX9_paid_5 (by decide) (fun c_3 => ?_) (fun c_3 => ?_)
  · have hf := sn_el c_3 hf
    refine lv_aload_n hx hb dX9_paid_11 rfl (lv_at hl 0 rfl) ?_
    refine lv_iload_n hx hb dX9_paid_12 rfl (lv_at hl 1 rfl) ?_
    obtain ⟨t_4, h_5, hf⟩ := sn_bd hf
    refine sn_callVi (rest := []) C hw (ctX9_claimOf_ l  h_5) kl_RX9_326 layM_0 rfl rfl rfl rfl (Nat.le_of_ble_eq_true rfl) dX9_paid_13 hl.1 (fun H locs hw => ?_)
    refine lv_pop hx hb dX9_paid_16 rfl ?_
    refine lv_aload_n hx hb dX9_paid_17 rfl (lv_at hl 0 rfl) ?_
    refine sn_getI C hw fd_RX9_307 layM_0 rfl dX9_paid_18 ?_
    cases hf
    exact kr _ _ _ _ hw rfl dX9_paid_21
  · have hf := sn_if c_3 hf
    refine lv_bipush (v := (-2)) hx hb dX9_paid_8 (by decide) ?_
    cases hf
    exact kr _ _ _ _ hw rfl dX9_paid_10
theorem ctX9_paid (l : Launch) {σ : sn_S} {x1 : Int32}  {o : (Int32 × sn_S)} (hf : fX9_paid σ x1 = some o) : sn_M l yX9_paid cX9_paid 2 (some .int) rmX9_paid layM (fun ad => [.ref (ad 0), .int x1]) σ (some (fun _ => .int o.1)) o.2 :=
  sn_met (by decide) (fun _ => Nat.le_of_ble_eq_true rfl) (fun p e s m args below meth c ls D ct ad A C hw hl => wX9_paid_in C  hf (fun H locs ls pc hw ok hd => sn_iret C hw hd) _ _ _ hw hl)
-- X9_claims
abbrev rmX9_claims : Room := { frames := 5, cells := 0, slots := 0, locals := 115 }
def BX9_claims_49 (σ : sn_S) (x1 : Int32) : Option ((Int32 × sn_S)) :=
  (some (x1, σ))
def BX9_claims_41 (σ : sn_S) (x1 : Int32) (x2 : Int32) (t0 : Int32) (t1 : Int32) : Option ((sn_S × Int32 × Int32) ⊕ (sn_S × Int32)) :=
  (sn_lt (t0 ||| t1) fun y_1 => (sn_lt (x2 + 1) fun y_3 => (some (.inl (σ, y_1, y_3)))))
def BX9_claims_14 (σ : sn_S) (x1 : Int32) (x2 : Int32) : Option ((sn_S × Int32 × Int32) ⊕ (sn_S × Int32)) :=
  (sn_gd (sn_in (8 : Int32) 119) (if (sn_I σ 1 (8 : Int32).toNatClampNeg) ≤ x2 then
  (some (.inr (σ, x1)))
  else
  ((fX9_claimOf_ σ x2).bind fun t_3 => (if t_3.1 ≤ 0 then
  (BX9_claims_41 t_3.2 x1 x2 x1 (0 : Int32))
  else
  (BX9_claims_41 t_3.2 x1 x2 x1 ((1 : Int32) <<< (x2 &&& 31)))))))
def LX9_claims_14  (s : sn_S × Int32 × Int32) : Option ((sn_S × Int32 × Int32) ⊕ (sn_S × Int32)) := BX9_claims_14 s.1 s.2.1 s.2.2
def fX9_claims (σ : sn_S) : Option (Int32 × sn_S) :=
  ((fX9_asksHouse σ).bind fun t_1 => (if t_1.1 = 0 then
  (some ((-2 : Int32), t_1.2))
  else
  ((sn_it (LX9_claims_14 ) 5000 (t_1.2, (0 : Int32), (0 : Int32))).bind fun t_4 => (BX9_claims_49 t_4.1 t_4.2))))
theorem wX9_claims_49 (C : sn_C p s m args meth c RX9 cX9_claims 3 (some .int) D ct ad layM A) {σ : sn_S} {x1 : Int32}  {o : (Int32 × sn_S)} (hf : BX9_claims_49 σ x1 = some o) (kr : sn_Kr p l e rmX9_claims s m args below meth c Q D ct ad layM A cX9_claims .ireturn (true) o.2 [.int o.1]) : sn_At p l e rmX9_claims s m args below meth c Q D ct ad layM A 3 σ 49 [(1, .int x1)] [] := by
  intro H locs ls hw hl
  have hx := C.1
  have hb := C.2.1
  unfold BX9_claims_49 at hf
  refine lv_iload_n hx hb dX9_claims_49 rfl (lv_at hl 0 rfl) ?_
  cases hf
  exact kr _ _ _ _ hw rfl dX9_claims_50
theorem wX9_claims_41 (C : sn_C p s m args meth c RX9 cX9_claims 3 (some .int) D ct ad layM A) {σ : sn_S} {x1 : Int32} {x2 : Int32} {t0 : Int32} {t1 : Int32}  {o : (sn_S × Int32 × Int32) ⊕ (sn_S × Int32)} (hf : BX9_claims_41 σ x1 x2 t0 t1 = some o) (kc : ∀ v, o = .inl v → sn_At p l e rmX9_claims s m args below meth c Q D ct ad layM A 3 v.1 14 [(0, .ref (ad 0)), (1, .int v.2.1), (2, .int v.2.2)] []) (kx : ∀ v, o = .inr v → sn_At p l e rmX9_claims s m args below meth c Q D ct ad layM A 3 v.1 49 [(1, .int v.2)] []) : sn_At p l e rmX9_claims s m args below meth c Q D ct ad layM A 3 σ 41 [(0, .ref (ad 0)), (1, .int x1), (2, .int x2)] [.int t1, .int t0] := by
  intro H locs ls hw hl
  have hx := C.1
  have hb := C.2.1
  unfold BX9_claims_41 at hf
  refine lv_ior hx hb dX9_claims_41 ?_
  obtain ⟨y_1, e_2, hf⟩ := sn_ltE hf
  refine lv_topi (fun y_1_ e_2_ => ?_)
  obtain rfl : y_1 = y_1_ := e_2.trans e_2_.symm
  refine lv_istore_n (lv' := [(1, .int y_1), (0, .ref (ad 0)), (2, .int x2)]) hx hb dX9_claims_42 rfl hl (by decide) rfl (fun ls hl => ?_)
  obtain ⟨y_3, e_4, hf⟩ := sn_ltE hf
  refine lv_iinc (v := y_3) (lv' := [(2, .int y_3), (1, .int y_1), (0, .ref (ad 0))]) hx hb dX9_claims_43 hl (k := 2) rfl (by rw [e_4]; rfl) (by decide) rfl (fun ls hl => ?_)
  refine lv_goto (tgt := 14) hx hb dX9_claims_46 (by decide) ?_
  cases hf
  exact kc _ rfl _ _ _ hw (lv_sub hl [2, 1, 0] rfl)
theorem wX9_claims_14 (C : sn_C p s m args meth c RX9 cX9_claims 3 (some .int) D ct ad layM A) {σ : sn_S} {x1 : Int32} {x2 : Int32}  {o : (sn_S × Int32 × Int32) ⊕ (sn_S × Int32)} (hf : BX9_claims_14 σ x1 x2 = some o) (kc : ∀ v, o = .inl v → sn_At p l e rmX9_claims s m args below meth c Q D ct ad layM A 3 v.1 14 [(0, .ref (ad 0)), (1, .int v.2.1), (2, .int v.2.2)] []) (kx : ∀ v, o = .inr v → sn_At p l e rmX9_claims s m args below meth c Q D ct ad layM A 3 v.1 49 [(1, .int v.2)] []) : sn_At p l e rmX9_claims s m args below meth c Q D ct ad layM A 3 σ 14 [(0, .ref (ad 0)), (1, .int x1), (2, .int x2)] [] := by
  intro H locs ls hw hl
  have hx := C.1
  have hb := C.2.1
  unfold BX9_claims_14 at hf
  refine lv_iload_n hx hb dX9_claims_14 rfl (lv_at hl 2 rfl) ?_
  refine lv_aload_n hx hb dX9_claims_15 rfl (lv_at hl 0 rfl) ?_
  refine sn_getC (r := 1) C hw fd_RX9_9 layM_0 rfl dX9_claims_16 ?_
  refine lv_bipush (v := 8) hx hb dX9_claims_19 (by decide) ?_
  obtain ⟨g_1, hf⟩ := sn_gdE hf
  refine sn_iald C hw layM_1 g_1 dX9_claims_21 ?_
  refine lv_icmp_ge (tgt := 49) hx hb dX9_claims_22 (by decide) (fun c_2 => ?_) (fun c_2 => ?_)
  · have hf := sn_if c_2 hf
    cases hf
    exact kx _ rfl _ _ _ hw (lv_sub hl [1] rfl)
  · have hf := sn_el c_2 hf
    refine lv_iload_n hx hb dX9_claims_25 rfl (lv_at hl 1 rfl) ?_
    refine lv_aload_n hx hb dX9_claims_26 rfl (lv_at hl 0 rfl) ?_
    refine lv_iload_n hx hb dX9_claims_27 rfl (lv_at hl 2 rfl) ?_
    obtain ⟨t_3, h_4, hf⟩ := sn_bd hf
    refine sn_callVi (rest := [.int x1]) C hw (ctX9_claimOf_ l  h_4) kl_RX9_326 layM_0 rfl rfl rfl rfl (Nat.le_of_ble_eq_true rfl) dX9_claims_28 hl.1 (fun H locs hw => ?_)
    refine lv_if_le (tgt := 40) hx hb dX9_claims_31 (by decide) (fun c_5 => ?_) (fun c_5 => ?_)
    · have hf := sn_if c_5 hf
      refine lv_iconst (v := 0) hx hb dX9_claims_40 rfl ?_
      exact wX9_claims_41 C  hf kc kx _ _ _ hw (lv_sub hl [0, 1, 2] rfl)
    · have hf := sn_el c_5 hf
      refine lv_iconst (v := 1) hx hb dX9_claims_34 rfl ?_
      refine lv_iload_n hx hb dX9_claims_35 rfl (lv_at hl 2 rfl) ?_
      refine lv_ishl hx hb dX9_claims_36 ?_
      refine lv_goto (tgt := 41) hx hb dX9_claims_37 (by decide) ?_
      exact wX9_claims_41 C  hf kc kx _ _ _ hw (lv_sub hl [0, 1, 2] rfl)
theorem wX9_claims_L14 (C : sn_C p s m args meth c RX9 cX9_claims 3 (some .int) D ct ad layM A)    {z : sn_S × Int32 × Int32} {t : sn_S × Int32} (h : sn_it (LX9_claims_14 ) 5000 z = some t) (kx : ∀ v, t = v → sn_At p l e rmX9_claims s m args below meth c Q D ct ad layM A 3 v.1 49 [(1, .int v.2)] []) : sn_At p l e rmX9_claims s m args below meth c Q D ct ad layM A 3 z.1 14 [(0, .ref (ad 0)), (1, .int z.2.1), (2, .int z.2.2)] [] :=
  sn_loop (f := LX9_claims_14 ) (G := fun z => sn_At p l e rmX9_claims s m args below meth c Q D ct ad layM A 3 z.1 14 [(0, .ref (ad 0)), (1, .int z.2.1), (2, .int z.2.2)] []) (E := fun t => (∀ v, t = v → sn_At p l e rmX9_claims s m args below meth c Q D ct ad layM A 3 v.1 49 [(1, .int v.2)] []) ∧ True) (fun z o hf k1 k2 => wX9_claims_14 C  hf (fun v e => k1 v e) (fun v e => (k2 _ e).1 v rfl)) 5000 z t h ⟨kx, trivial⟩
theorem wX9_claims_in (C : sn_C p s m args meth c RX9 cX9_claims 3 (some .int) D ct ad layM A) {σ : sn_S}  {o : (Int32 × sn_S)} (hf : fX9_claims σ = some o) (kr : sn_Kr p l e rmX9_claims s m args below meth c Q D ct ad layM A cX9_claims .ireturn (true) o.2 [.int o.1]) : sn_At p l e rmX9_claims s m args below meth c Q D ct ad layM A 3 σ 0 [(0, .ref (ad 0))] [] := by
  intro H locs ls hw hl
  have hx := C.1
  have hb := C.2.1
  unfold fX9_claims at hf
  refine lv_aload_n hx hb dX9_claims_0 rfl (lv_at hl 0 rfl) ?_
  obtain ⟨t_1, h_2, hf⟩ := sn_bd hf
  refine sn_callVi (rest := []) C hw (ctX9_asksHouse l  h_2) kl_RX9_272 layM_0 rfl rfl rfl rfl (Nat.le_of_ble_eq_true rfl) dX9_claims_1 hl.1 (fun H locs hw => ?_)
  refine lv_if_ne (tgt := 10) hx hb dX9_claims_4 (by decide) (fun c_3 => ?_) (fun c_3 => ?_)
  · have hf := sn_el c_3 hf
    refine lv_iconst (v := 0) hx hb dX9_claims_10 rfl ?_
    refine lv_istore_n (lv' := [(1, .int (0 : Int32)), (0, .ref (ad 0))]) hx hb dX9_claims_11 rfl hl (by decide) rfl (fun ls hl => ?_)
    refine lv_iconst (v := 0) hx hb dX9_claims_12 rfl ?_
    refine lv_istore_n (lv' := [(2, .int (0 : Int32)), (1, .int (0 : Int32)), (0, .ref (ad 0))]) hx hb dX9_claims_13 rfl hl (by decide) rfl (fun ls hl => ?_)
    obtain ⟨t_4, h_5, hf⟩ := sn_bd hf
    exact wX9_claims_L14 C  h_5 (fun v e => by cases e; exact wX9_claims_49 C  hf kr) _ _ _ hw (lv_sub hl [2, 1, 0] rfl)
  · have hf := sn_if c_3 hf
    refine lv_bipush (v := (-2)) hx hb dX9_claims_7 (by decide) ?_
    cases hf
    exact kr _ _ _ _ hw rfl dX9_claims_9
theorem ctX9_claims (l : Launch) {σ : sn_S}  {o : (Int32 × sn_S)} (hf : fX9_claims σ = some o) : sn_M l yX9_claims cX9_claims 3 (some .int) rmX9_claims layM (fun ad => [.ref (ad 0)]) σ (some (fun _ => .int o.1)) o.2 :=
  sn_met (by decide) (fun _ => Nat.le_of_ble_eq_true rfl) (fun p e s m args below meth c ls D ct ad A C hw hl => wX9_claims_in C  hf (fun H locs ls pc hw ok hd => sn_iret C hw hd) _ _ _ hw hl)
-- X9_money
abbrev rmX9_money : Room := { frames := 6, cells := 0, slots := 0, locals := 136 }
def fX9_money (σ : sn_S) (x1 : Int32) : Option (Int32 × sn_S) :=
  ((fX9_asksMinute σ x1).bind fun t_1 => (if t_1.1 = 0 then
  (some ((-100000 : Int32), t_1.2))
  else
  ((fX9_layPaid t_1.2).bind fun t_4 => ((fX9_moneyAt t_4 x1).bind fun t_6 => (some (t_6, t_4))))))
theorem wX9_money_in (C : sn_C p s m args meth c RX9 cX9_money 2 (some .int) D ct ad layM A) {σ : sn_S} {x1 : Int32}  {o : (Int32 × sn_S)} (hf : fX9_money σ x1 = some o) (kr : sn_Kr p l e rmX9_money s m args below meth c Q D ct ad layM A cX9_money .ireturn (true) o.2 [.int o.1]) : sn_At p l e rmX9_money s m args below meth c Q D ct ad layM A 2 σ 0 [(0, .ref (ad 0)), (1, .int x1)] [] := by
  intro H locs ls hw hl
  have hx := C.1
  have hb := C.2.1
  unfold fX9_money at hf
  refine lv_aload_n hx hb dX9_money_0 rfl (lv_at hl 0 rfl) ?_
  refine lv_iload_n hx hb dX9_money_1 rfl (lv_at hl 1 rfl) ?_
  obtain ⟨t_1, h_2, hf⟩ := sn_bd hf
  refine sn_callVi (rest := []) C hw (ctX9_asksMinute l  h_2) kl_RX9_281 layM_0 rfl rfl rfl rfl (Nat.le_of_ble_eq_true rfl) dX9_money_2 hl.1 (fun H locs hw => ?_)
  refine lv_if_ne (tgt := 12) hx hb dX9_money_5 (by decide) (fun c_3 => ?_) (fun c_3 => ?_)
  · have hf := sn_el c_3 hf
    refine lv_aload_n hx hb dX9_money_12 rfl (lv_at hl 0 rfl) ?_
    obtain ⟨t_4, h_5, hf⟩ := sn_bd hf
    refine sn_callVv (rest := []) C hw (ctX9_layPaid l  h_5) kl_RX9_317 layM_0 rfl rfl rfl rfl (Nat.le_of_ble_eq_true rfl) dX9_money_13 hl.1 (fun H locs hw => ?_)
    refine lv_aload_n hx hb dX9_money_16 rfl (lv_at hl 0 rfl) ?_
    refine lv_iload_n hx hb dX9_money_17 rfl (lv_at hl 1 rfl) ?_
    obtain ⟨t_6, h_7, hf⟩ := sn_bd hf
    refine sn_callVi (rest := []) C hw (ctX9_moneyAt l  h_7) kl_RX9_320 layM_0 rfl rfl rfl rfl (Nat.le_of_ble_eq_true rfl) dX9_money_18 hl.1 (fun H locs hw => ?_)
    cases hf
    exact kr _ _ _ _ hw rfl dX9_money_21
  · have hf := sn_if c_3 hf
    refine lv_ldcw hx hb C.2.2.2.1 (C.2.2.2.2.1 _ kk_RX9_328) dX9_money_8 ?_
    cases hf
    exact kr _ _ _ _ hw rfl dX9_money_11
theorem ctX9_money (l : Launch) {σ : sn_S} {x1 : Int32}  {o : (Int32 × sn_S)} (hf : fX9_money σ x1 = some o) : sn_M l yX9_money cX9_money 2 (some .int) rmX9_money layM (fun ad => [.ref (ad 0), .int x1]) σ (some (fun _ => .int o.1)) o.2 :=
  sn_met (by decide) (fun _ => Nat.le_of_ble_eq_true rfl) (fun p e s m args below meth c ls D ct ad A C hw hl => wX9_money_in C  hf (fun H locs ls pc hw ok hd => sn_iret C hw hd) _ _ _ hw hl)
-- X9_ruin
abbrev rmX9_ruin : Room := { frames := 5, cells := 0, slots := 0, locals := 117 }
def fX9_ruin (σ : sn_S) : Option (Int32 × sn_S) :=
  ((fX9_asksHouse σ).bind fun t_1 => (if t_1.1 = 0 then
  (some ((-2 : Int32), t_1.2))
  else
  ((fX9_ruinOf t_1.2).bind fun t_4 => (some (t_4.1, t_4.2)))))
theorem wX9_ruin_in (C : sn_C p s m args meth c RX9 cX9_ruin 1 (some .int) D ct ad layM A) {σ : sn_S}  {o : (Int32 × sn_S)} (hf : fX9_ruin σ = some o) (kr : sn_Kr p l e rmX9_ruin s m args below meth c Q D ct ad layM A cX9_ruin .ireturn (true) o.2 [.int o.1]) : sn_At p l e rmX9_ruin s m args below meth c Q D ct ad layM A 1 σ 0 [(0, .ref (ad 0))] [] := by
  intro H locs ls hw hl
  have hx := C.1
  have hb := C.2.1
  unfold fX9_ruin at hf
  refine lv_aload_n hx hb dX9_ruin_0 rfl (lv_at hl 0 rfl) ?_
  obtain ⟨t_1, h_2, hf⟩ := sn_bd hf
  refine sn_callVi (rest := []) C hw (ctX9_asksHouse l  h_2) kl_RX9_272 layM_0 rfl rfl rfl rfl (Nat.le_of_ble_eq_true rfl) dX9_ruin_1 hl.1 (fun H locs hw => ?_)
  refine lv_if_eq (tgt := 14) hx hb dX9_ruin_4 (by decide) (fun c_3 => ?_) (fun c_3 => ?_)
  · have hf := sn_if c_3 hf
    refine lv_bipush (v := (-2)) hx hb dX9_ruin_14 (by decide) ?_
    cases hf
    exact kr _ _ _ _ hw rfl dX9_ruin_16
  · have hf := sn_el c_3 hf
    refine lv_aload_n hx hb dX9_ruin_7 rfl (lv_at hl 0 rfl) ?_
    obtain ⟨t_4, h_5, hf⟩ := sn_bd hf
    refine sn_callVi (rest := []) C hw (ctX9_ruinOf l  h_5) kl_RX9_329 layM_0 rfl rfl rfl rfl (Nat.le_of_ble_eq_true rfl) dX9_ruin_8 hl.1 (fun H locs hw => ?_)
    refine lv_goto (tgt := 16) hx hb dX9_ruin_11 (by decide) ?_
    cases hf
    exact kr _ _ _ _ hw rfl dX9_ruin_16
theorem ctX9_ruin (l : Launch) {σ : sn_S}  {o : (Int32 × sn_S)} (hf : fX9_ruin σ = some o) : sn_M l yX9_ruin cX9_ruin 1 (some .int) rmX9_ruin layM (fun ad => [.ref (ad 0)]) σ (some (fun _ => .int o.1)) o.2 :=
  sn_met (by decide) (fun _ => Nat.le_of_ble_eq_true rfl) (fun p e s m args below meth c ls D ct ad A C hw hl => wX9_ruin_in C  hf (fun H locs ls pc hw ok hd => sn_iret C hw hd) _ _ _ hw hl)
-- X9_coveredOf
abbrev rmX9_coveredOf : Room := { frames := 2, cells := 0, slots := 0, locals := 45 }
def BX9_coveredOf_43 (σ : sn_S) (x2 : Int32) : Option (Int32) :=
  (some x2)
def BX9_coveredOf_35 (σ : sn_S) (x1 : Int32) (x2 : Int32) (x3 : Int32) (t0 : Int32) (t1 : Int32) : Option ((Int32 × Int32) ⊕ (Int32)) :=
  (sn_lt (t0 ||| t1) fun y_1 => (sn_lt (x3 + 1) fun y_3 => (some (.inl (y_1, y_3)))))
def BX9_coveredOf_4 (σ : sn_S) (x1 : Int32) (x2 : Int32) (x3 : Int32) : Option ((Int32 × Int32) ⊕ (Int32)) :=
  (sn_gd (sn_in (8 : Int32) 119) (if (sn_I σ 1 (8 : Int32).toNatClampNeg) ≤ x3 then
  (some (.inr (x2)))
  else
  ((fX9_of σ x3 (0 : Int32)).bind fun t_3 => (if t_3 = x1 then
  ((fX9_windowOf σ x3).bind fun t_6 => (BX9_coveredOf_35 σ x1 x2 x3 x2 t_6))
  else
  (BX9_coveredOf_35 σ x1 x2 x3 x2 (0 : Int32))))))
def LX9_coveredOf_4 (σ : sn_S) (x1 : Int32) (s : Int32 × Int32) : Option ((Int32 × Int32) ⊕ (Int32)) := BX9_coveredOf_4 σ x1 s.1 s.2
def fX9_coveredOf (σ : sn_S) (x1 : Int32) : Option Int32 :=
  ((sn_it (LX9_coveredOf_4 σ x1) 5000 ((0 : Int32), (0 : Int32))).bind fun t_1 => (BX9_coveredOf_43 σ t_1))
theorem wX9_coveredOf_43 (C : sn_C p s m args meth c RX9 cX9_coveredOf 4 (some .int) D ct ad layM A) {σ : sn_S} {x2 : Int32}  {o : Int32} (hf : BX9_coveredOf_43 σ x2 = some o) (kr : sn_Kr p l e rmX9_coveredOf s m args below meth c Q D ct ad layM A cX9_coveredOf .ireturn (true) σ [.int o]) : sn_At p l e rmX9_coveredOf s m args below meth c Q D ct ad layM A 4 σ 43 [(2, .int x2)] [] := by
  intro H locs ls hw hl
  have hx := C.1
  have hb := C.2.1
  unfold BX9_coveredOf_43 at hf
  refine lv_iload_n hx hb dX9_coveredOf_43 rfl (lv_at hl 0 rfl) ?_
  cases hf
  exact kr _ _ _ _ hw rfl dX9_coveredOf_44
theorem wX9_coveredOf_35 (C : sn_C p s m args meth c RX9 cX9_coveredOf 4 (some .int) D ct ad layM A) {σ : sn_S} {x1 : Int32} {x2 : Int32} {x3 : Int32} {t0 : Int32} {t1 : Int32}  {o : (Int32 × Int32) ⊕ (Int32)} (hf : BX9_coveredOf_35 σ x1 x2 x3 t0 t1 = some o) (kc : ∀ v, o = .inl v → sn_At p l e rmX9_coveredOf s m args below meth c Q D ct ad layM A 4 σ 4 [(0, .ref (ad 0)), (1, .int x1), (2, .int v.1), (3, .int v.2)] []) (kx : ∀ v, o = .inr v → sn_At p l e rmX9_coveredOf s m args below meth c Q D ct ad layM A 4 σ 43 [(2, .int v)] []) : sn_At p l e rmX9_coveredOf s m args below meth c Q D ct ad layM A 4 σ 35 [(0, .ref (ad 0)), (1, .int x1), (2, .int x2), (3, .int x3)] [.int t1, .int t0] := by
  intro H locs ls hw hl
  have hx := C.1
  have hb := C.2.1
  unfold BX9_coveredOf_35 at hf
  refine lv_ior hx hb dX9_coveredOf_35 ?_
  obtain ⟨y_1, e_2, hf⟩ := sn_ltE hf
  refine lv_topi (fun y_1_ e_2_ => ?_)
  obtain rfl : y_1 = y_1_ := e_2.trans e_2_.symm
  refine lv_istore_n (lv' := [(2, .int y_1), (0, .ref (ad 0)), (1, .int x1), (3, .int x3)]) hx hb dX9_coveredOf_36 rfl hl (by decide) rfl (fun ls hl => ?_)
  obtain ⟨y_3, e_4, hf⟩ := sn_ltE hf
  refine lv_iinc (v := y_3) (lv' := [(3, .int y_3), (2, .int y_1), (0, .ref (ad 0)), (1, .int x1)]) hx hb dX9_coveredOf_37 hl (k := 3) rfl (by rw [e_4]; rfl) (by decide) rfl (fun ls hl => ?_)
  refine lv_goto (tgt := 4) hx hb dX9_coveredOf_40 (by decide) ?_
  cases hf
  exact kc _ rfl _ _ _ hw (lv_sub hl [2, 3, 1, 0] rfl)
theorem wX9_coveredOf_4 (C : sn_C p s m args meth c RX9 cX9_coveredOf 4 (some .int) D ct ad layM A) {σ : sn_S} {x1 : Int32} {x2 : Int32} {x3 : Int32}  {o : (Int32 × Int32) ⊕ (Int32)} (hf : BX9_coveredOf_4 σ x1 x2 x3 = some o) (kc : ∀ v, o = .inl v → sn_At p l e rmX9_coveredOf s m args below meth c Q D ct ad layM A 4 σ 4 [(0, .ref (ad 0)), (1, .int x1), (2, .int v.1), (3, .int v.2)] []) (kx : ∀ v, o = .inr v → sn_At p l e rmX9_coveredOf s m args below meth c Q D ct ad layM A 4 σ 43 [(2, .int v)] []) : sn_At p l e rmX9_coveredOf s m args below meth c Q D ct ad layM A 4 σ 4 [(0, .ref (ad 0)), (1, .int x1), (2, .int x2), (3, .int x3)] [] := by
  intro H locs ls hw hl
  have hx := C.1
  have hb := C.2.1
  unfold BX9_coveredOf_4 at hf
  refine lv_iload_n hx hb dX9_coveredOf_4 rfl (lv_at hl 3 rfl) ?_
  refine lv_aload_n hx hb dX9_coveredOf_5 rfl (lv_at hl 0 rfl) ?_
  refine sn_getC (r := 1) C hw fd_RX9_9 layM_0 rfl dX9_coveredOf_6 ?_
  refine lv_bipush (v := 8) hx hb dX9_coveredOf_9 (by decide) ?_
  obtain ⟨g_1, hf⟩ := sn_gdE hf
  refine sn_iald C hw layM_1 g_1 dX9_coveredOf_11 ?_
  refine lv_icmp_ge (tgt := 43) hx hb dX9_coveredOf_12 (by decide) (fun c_2 => ?_) (fun c_2 => ?_)
  · have hf := sn_if c_2 hf
    cases hf
    exact kx _ rfl _ _ _ hw (lv_sub hl [2] rfl)
  · have hf := sn_el c_2 hf
    refine lv_iload_n hx hb dX9_coveredOf_15 rfl (lv_at hl 2 rfl) ?_
    refine lv_aload_n hx hb dX9_coveredOf_16 rfl (lv_at hl 0 rfl) ?_
    refine lv_iload_n hx hb dX9_coveredOf_17 rfl (lv_at hl 3 rfl) ?_
    refine lv_iconst (v := 0) hx hb dX9_coveredOf_18 rfl ?_
    obtain ⟨t_3, h_4, hf⟩ := sn_bd hf
    refine sn_callVi (rest := [.int x2]) C hw (ctX9_of l  h_4) kl_RX9_234 layM_0 rfl rfl rfl rfl (Nat.le_of_ble_eq_true rfl) dX9_coveredOf_19 hl.1 (fun H locs hw => ?_)
    refine lv_iload_n hx hb dX9_coveredOf_22 rfl (lv_at hl 1 rfl) ?_
    refine lv_icmp_ne (tgt := 34) hx hb dX9_coveredOf_23 (by decide) (fun c_5 => ?_) (fun c_5 => ?_)
    · have hf := sn_el c_5 hf
      refine lv_iconst (v := 0) hx hb dX9_coveredOf_34 rfl ?_
      exact wX9_coveredOf_35 C  hf kc kx _ _ _ hw (lv_sub hl [0, 1, 2, 3] rfl)
    · have hf := sn_if c_5 hf
      refine lv_aload_n hx hb dX9_coveredOf_26 rfl (lv_at hl 0 rfl) ?_
      refine lv_iload_n hx hb dX9_coveredOf_27 rfl (lv_at hl 3 rfl) ?_
      obtain ⟨t_6, h_7, hf⟩ := sn_bd hf
      refine sn_callVi (rest := [.int x2]) C hw (ctX9_windowOf l  h_7) kl_RX9_304 layM_0 rfl rfl rfl rfl (Nat.le_of_ble_eq_true rfl) dX9_coveredOf_28 hl.1 (fun H locs hw => ?_)
      refine lv_goto (tgt := 35) hx hb dX9_coveredOf_31 (by decide) ?_
      exact wX9_coveredOf_35 C  hf kc kx _ _ _ hw (lv_sub hl [0, 1, 2, 3] rfl)
theorem wX9_coveredOf_L4 (C : sn_C p s m args meth c RX9 cX9_coveredOf 4 (some .int) D ct ad layM A) {σ : sn_S} {x1 : Int32}   {z : Int32 × Int32} {t : Int32} (h : sn_it (LX9_coveredOf_4 σ x1) 5000 z = some t) (kx : ∀ v, t = v → sn_At p l e rmX9_coveredOf s m args below meth c Q D ct ad layM A 4 σ 43 [(2, .int v)] []) : sn_At p l e rmX9_coveredOf s m args below meth c Q D ct ad layM A 4 σ 4 [(0, .ref (ad 0)), (1, .int x1), (2, .int z.1), (3, .int z.2)] [] :=
  sn_loop (f := LX9_coveredOf_4 σ x1) (G := fun z => sn_At p l e rmX9_coveredOf s m args below meth c Q D ct ad layM A 4 σ 4 [(0, .ref (ad 0)), (1, .int x1), (2, .int z.1), (3, .int z.2)] []) (E := fun t => (∀ v, t = v → sn_At p l e rmX9_coveredOf s m args below meth c Q D ct ad layM A 4 σ 43 [(2, .int v)] []) ∧ True) (fun z o hf k1 k2 => wX9_coveredOf_4 C  hf (fun v e => k1 v e) (fun v e => (k2 _ e).1 v rfl)) 5000 z t h ⟨kx, trivial⟩
theorem wX9_coveredOf_in (C : sn_C p s m args meth c RX9 cX9_coveredOf 4 (some .int) D ct ad layM A) {σ : sn_S} {x1 : Int32}  {o : Int32} (hf : fX9_coveredOf σ x1 = some o) (kr : sn_Kr p l e rmX9_coveredOf s m args below meth c Q D ct ad layM A cX9_coveredOf .ireturn (true) σ [.int o]) : sn_At p l e rmX9_coveredOf s m args below meth c Q D ct ad layM A 4 σ 0 [(0, .ref (ad 0)), (1, .int x1)] [] := by
  intro H locs ls hw hl
  have hx := C.1
  have hb := C.2.1
  unfold fX9_coveredOf at hf
  refine lv_iconst (v := 0) hx hb dX9_coveredOf_0 rfl ?_
  refine lv_istore_n (lv' := [(2, .int (0 : Int32)), (0, .ref (ad 0)), (1, .int x1)]) hx hb dX9_coveredOf_1 rfl hl (by decide) rfl (fun ls hl => ?_)
  refine lv_iconst (v := 0) hx hb dX9_coveredOf_2 rfl ?_
  refine lv_istore_n (lv' := [(3, .int (0 : Int32)), (2, .int (0 : Int32)), (0, .ref (ad 0)), (1, .int x1)]) hx hb dX9_coveredOf_3 rfl hl (by decide) rfl (fun ls hl => ?_)
  obtain ⟨t_1, h_2, hf⟩ := sn_bd hf
  exact wX9_coveredOf_L4 C  h_2 (fun v e => by cases e; exact wX9_coveredOf_43 C  hf kr) _ _ _ hw (lv_sub hl [2, 3, 1, 0] rfl)
theorem ctX9_coveredOf (l : Launch) {σ : sn_S} {x1 : Int32}  {o : Int32} (hf : fX9_coveredOf σ x1 = some o) : sn_M l yX9_coveredOf cX9_coveredOf 4 (some .int) rmX9_coveredOf layM (fun ad => [.ref (ad 0), .int x1]) σ (some (fun _ => .int o)) σ :=
  sn_met (by decide) (fun _ => Nat.le_of_ble_eq_true rfl) (fun p e s m args below meth c ls D ct ad A C hw hl => wX9_coveredOf_in C  hf (fun H locs ls pc hw ok hd => sn_iret C hw hd) _ _ _ hw hl)
-- X9_covered
abbrev rmX9_covered : Room := { frames := 6, cells := 0, slots := 0, locals := 136 }
def fX9_covered (σ : sn_S) (x1 : Int32) : Option (Int32 × sn_S) :=
  ((fX9_asksPerson σ x1).bind fun t_1 => (if t_1.1 = 0 then
  (some ((-2 : Int32), t_1.2))
  else
  ((fX9_coveredOf t_1.2 x1).bind fun t_4 => (some (t_4, t_1.2)))))
theorem wX9_covered_in (C : sn_C p s m args meth c RX9 cX9_covered 2 (some .int) D ct ad layM A) {σ : sn_S} {x1 : Int32}  {o : (Int32 × sn_S)} (hf : fX9_covered σ x1 = some o) (kr : sn_Kr p l e rmX9_covered s m args below meth c Q D ct ad layM A cX9_covered .ireturn (true) o.2 [.int o.1]) : sn_At p l e rmX9_covered s m args below meth c Q D ct ad layM A 2 σ 0 [(0, .ref (ad 0)), (1, .int x1)] [] := by
  intro H locs ls hw hl
  have hx := C.1
  have hb := C.2.1
  unfold fX9_covered at hf
  refine lv_aload_n hx hb dX9_covered_0 rfl (lv_at hl 0 rfl) ?_
  refine lv_iload_n hx hb dX9_covered_1 rfl (lv_at hl 1 rfl) ?_
  obtain ⟨t_1, h_2, hf⟩ := sn_bd hf
  refine sn_callVi (rest := []) C hw (ctX9_asksPerson l  h_2) kl_RX9_284 layM_0 rfl rfl rfl rfl (Nat.le_of_ble_eq_true rfl) dX9_covered_2 hl.1 (fun H locs hw => ?_)
  refine lv_if_eq (tgt := 16) hx hb dX9_covered_5 (by decide) (fun c_3 => ?_) (fun c_3 => ?_)
  · have hf := sn_if c_3 hf
    refine lv_bipush (v := (-2)) hx hb dX9_covered_16 (by decide) ?_
    cases hf
    exact kr _ _ _ _ hw rfl dX9_covered_18
  · have hf := sn_el c_3 hf
    refine lv_aload_n hx hb dX9_covered_8 rfl (lv_at hl 0 rfl) ?_
    refine lv_iload_n hx hb dX9_covered_9 rfl (lv_at hl 1 rfl) ?_
    obtain ⟨t_4, h_5, hf⟩ := sn_bd hf
    refine sn_callVi (rest := []) C hw (ctX9_coveredOf l  h_5) kl_RX9_332 layM_0 rfl rfl rfl rfl (Nat.le_of_ble_eq_true rfl) dX9_covered_10 hl.1 (fun H locs hw => ?_)
    refine lv_goto (tgt := 18) hx hb dX9_covered_13 (by decide) ?_
    cases hf
    exact kr _ _ _ _ hw rfl dX9_covered_18
theorem ctX9_covered (l : Launch) {σ : sn_S} {x1 : Int32}  {o : (Int32 × sn_S)} (hf : fX9_covered σ x1 = some o) : sn_M l yX9_covered cX9_covered 2 (some .int) rmX9_covered layM (fun ad => [.ref (ad 0), .int x1]) σ (some (fun _ => .int o.1)) o.2 :=
  sn_met (by decide) (fun _ => Nat.le_of_ble_eq_true rfl) (fun p e s m args below meth c ls D ct ad A C hw hl => wX9_covered_in C  hf (fun H locs ls pc hw ok hd => sn_iret C hw hd) _ _ _ hw hl)
-- X9_naked
abbrev rmX9_naked : Room := { frames := 5, cells := 0, slots := 0, locals := 115 }
def BX9_naked_57 (σ : sn_S) (x1 : Int32) : Option ((Int32 × sn_S)) :=
  (some (x1, σ))
def BX9_naked_49 (σ : sn_S) (x1 : Int32) (x2 : Int32) (t0 : Int32) (t1 : Int32) : Option ((Int32 × Int32) ⊕ (Int32)) :=
  (sn_lt (t0 ||| t1) fun y_1 => (sn_lt (x2 + 1) fun y_3 => (some (.inl (y_1, y_3)))))
def BX9_naked_14 (σ : sn_S) (x1 : Int32) (x2 : Int32) : Option ((Int32 × Int32) ⊕ (Int32)) :=
  (sn_gd (sn_in (5 : Int32) 119) (if (sn_I σ 1 (5 : Int32).toNatClampNeg) ≤ x2 then
  (some (.inr (x1)))
  else
  (sn_gd (sn_in x2 6) ((fX9_coveredOf σ x2).bind fun t_4 => (if ((sn_I σ 10 x2.toNatClampNeg) &&& (t_4 ^^^ (-1 : Int32))) = 0 then
  (BX9_naked_49 σ x1 x2 x1 (0 : Int32))
  else
  (BX9_naked_49 σ x1 x2 x1 ((1 : Int32) <<< (x2 &&& 31))))))))
def LX9_naked_14 (σ : sn_S) (s : Int32 × Int32) : Option ((Int32 × Int32) ⊕ (Int32)) := BX9_naked_14 σ s.1 s.2
def fX9_naked (σ : sn_S) : Option (Int32 × sn_S) :=
  ((fX9_asksHouse σ).bind fun t_1 => (if t_1.1 = 0 then
  (some ((-2 : Int32), t_1.2))
  else
  ((sn_it (LX9_naked_14 t_1.2) 5000 ((0 : Int32), (0 : Int32))).bind fun t_4 => (BX9_naked_57 t_1.2 t_4))))
theorem wX9_naked_57 (C : sn_C p s m args meth c RX9 cX9_naked 3 (some .int) D ct ad layM A) {σ : sn_S} {x1 : Int32}  {o : (Int32 × sn_S)} (hf : BX9_naked_57 σ x1 = some o) (kr : sn_Kr p l e rmX9_naked s m args below meth c Q D ct ad layM A cX9_naked .ireturn (true) o.2 [.int o.1]) : sn_At p l e rmX9_naked s m args below meth c Q D ct ad layM A 3 σ 57 [(1, .int x1)] [] := by
  intro H locs ls hw hl
  have hx := C.1
  have hb := C.2.1
  unfold BX9_naked_57 at hf
  refine lv_iload_n hx hb dX9_naked_57 rfl (lv_at hl 0 rfl) ?_
  cases hf
  exact kr _ _ _ _ hw rfl dX9_naked_58
theorem wX9_naked_49 (C : sn_C p s m args meth c RX9 cX9_naked 3 (some .int) D ct ad layM A) {σ : sn_S} {x1 : Int32} {x2 : Int32} {t0 : Int32} {t1 : Int32}  {o : (Int32 × Int32) ⊕ (Int32)} (hf : BX9_naked_49 σ x1 x2 t0 t1 = some o) (kc : ∀ v, o = .inl v → sn_At p l e rmX9_naked s m args below meth c Q D ct ad layM A 3 σ 14 [(0, .ref (ad 0)), (1, .int v.1), (2, .int v.2)] []) (kx : ∀ v, o = .inr v → sn_At p l e rmX9_naked s m args below meth c Q D ct ad layM A 3 σ 57 [(1, .int v)] []) : sn_At p l e rmX9_naked s m args below meth c Q D ct ad layM A 3 σ 49 [(0, .ref (ad 0)), (1, .int x1), (2, .int x2)] [.int t1, .int t0] := by
  intro H locs ls hw hl
  have hx := C.1
  have hb := C.2.1
  unfold BX9_naked_49 at hf
  refine lv_ior hx hb dX9_naked_49 ?_
  obtain ⟨y_1, e_2, hf⟩ := sn_ltE hf
  refine lv_topi (fun y_1_ e_2_ => ?_)
  obtain rfl : y_1 = y_1_ := e_2.trans e_2_.symm
  refine lv_istore_n (lv' := [(1, .int y_1), (0, .ref (ad 0)), (2, .int x2)]) hx hb dX9_naked_50 rfl hl (by decide) rfl (fun ls hl => ?_)
  obtain ⟨y_3, e_4, hf⟩ := sn_ltE hf
  refine lv_iinc (v := y_3) (lv' := [(2, .int y_3), (1, .int y_1), (0, .ref (ad 0))]) hx hb dX9_naked_51 hl (k := 2) rfl (by rw [e_4]; rfl) (by decide) rfl (fun ls hl => ?_)
  refine lv_goto (tgt := 14) hx hb dX9_naked_54 (by decide) ?_
  cases hf
  exact kc _ rfl _ _ _ hw (lv_sub hl [2, 1, 0] rfl)
theorem wX9_naked_14 (C : sn_C p s m args meth c RX9 cX9_naked 3 (some .int) D ct ad layM A) {σ : sn_S} {x1 : Int32} {x2 : Int32}  {o : (Int32 × Int32) ⊕ (Int32)} (hf : BX9_naked_14 σ x1 x2 = some o) (kc : ∀ v, o = .inl v → sn_At p l e rmX9_naked s m args below meth c Q D ct ad layM A 3 σ 14 [(0, .ref (ad 0)), (1, .int v.1), (2, .int v.2)] []) (kx : ∀ v, o = .inr v → sn_At p l e rmX9_naked s m args below meth c Q D ct ad layM A 3 σ 57 [(1, .int v)] []) : sn_At p l e rmX9_naked s m args below meth c Q D ct ad layM A 3 σ 14 [(0, .ref (ad 0)), (1, .int x1), (2, .int x2)] [] := by
  intro H locs ls hw hl
  have hx := C.1
  have hb := C.2.1
  unfold BX9_naked_14 at hf
  refine lv_iload_n hx hb dX9_naked_14 rfl (lv_at hl 2 rfl) ?_
  refine lv_aload_n hx hb dX9_naked_15 rfl (lv_at hl 0 rfl) ?_
  refine sn_getC (r := 1) C hw fd_RX9_9 layM_0 rfl dX9_naked_16 ?_
  refine lv_iconst (v := 5) hx hb dX9_naked_19 rfl ?_
  obtain ⟨g_1, hf⟩ := sn_gdE hf
  refine sn_iald C hw layM_1 g_1 dX9_naked_20 ?_
  refine lv_icmp_ge (tgt := 57) hx hb dX9_naked_21 (by decide) (fun c_2 => ?_) (fun c_2 => ?_)
  · have hf := sn_if c_2 hf
    cases hf
    exact kx _ rfl _ _ _ hw (lv_sub hl [1] rfl)
  · have hf := sn_el c_2 hf
    refine lv_iload_n hx hb dX9_naked_24 rfl (lv_at hl 1 rfl) ?_
    refine lv_aload_n hx hb dX9_naked_25 rfl (lv_at hl 0 rfl) ?_
    refine sn_getC (r := 10) C hw fd_RX9_43 layM_0 rfl dX9_naked_26 ?_
    refine lv_iload_n hx hb dX9_naked_29 rfl (lv_at hl 2 rfl) ?_
    obtain ⟨g_3, hf⟩ := sn_gdE hf
    refine sn_iald C hw layM_10 g_3 dX9_naked_30 ?_
    refine lv_aload_n hx hb dX9_naked_31 rfl (lv_at hl 0 rfl) ?_
    refine lv_iload_n hx hb dX9_naked_32 rfl (lv_at hl 2 rfl) ?_
    obtain ⟨t_4, h_5, hf⟩ := sn_bd hf
    refine sn_callVi (rest := [.int (sn_I σ 10 x2.toNatClampNeg), .int x1]) C hw (ctX9_coveredOf l  h_5) kl_RX9_332 layM_0 rfl rfl rfl rfl (Nat.le_of_ble_eq_true rfl) dX9_naked_33 hl.1 (fun H locs hw => ?_)
    refine lv_iconst (v := (-1)) hx hb dX9_naked_36 rfl ?_
    refine lv_ixor hx hb dX9_naked_37 ?_
    refine lv_iand hx hb dX9_naked_38 ?_
    refine lv_if_ne (tgt := 46) hx hb dX9_naked_39 (by decide) (fun c_6 => ?_) (fun c_6 => ?_)
    · have hf := sn_el c_6 hf
      refine lv_iconst (v := 1) hx hb dX9_naked_46 rfl ?_
      refine lv_iload_n hx hb dX9_naked_47 rfl (lv_at hl 2 rfl) ?_
      refine lv_ishl hx hb dX9_naked_48 ?_
      exact wX9_naked_49 C  hf kc kx _ _ _ hw (lv_sub hl [0, 1, 2] rfl)
    · have hf := sn_if c_6 hf
      refine lv_iconst (v := 0) hx hb dX9_naked_42 rfl ?_
      refine lv_goto (tgt := 49) hx hb dX9_naked_43 (by decide) ?_
      exact wX9_naked_49 C  hf kc kx _ _ _ hw (lv_sub hl [0, 1, 2] rfl)
theorem wX9_naked_L14 (C : sn_C p s m args meth c RX9 cX9_naked 3 (some .int) D ct ad layM A) {σ : sn_S}   {z : Int32 × Int32} {t : Int32} (h : sn_it (LX9_naked_14 σ) 5000 z = some t) (kx : ∀ v, t = v → sn_At p l e rmX9_naked s m args below meth c Q D ct ad layM A 3 σ 57 [(1, .int v)] []) : sn_At p l e rmX9_naked s m args below meth c Q D ct ad layM A 3 σ 14 [(0, .ref (ad 0)), (1, .int z.1), (2, .int z.2)] [] :=
  sn_loop (f := LX9_naked_14 σ) (G := fun z => sn_At p l e rmX9_naked s m args below meth c Q D ct ad layM A 3 σ 14 [(0, .ref (ad 0)), (1, .int z.1), (2, .int z.2)] []) (E := fun t => (∀ v, t = v → sn_At p l e rmX9_naked s m args below meth c Q D ct ad layM A 3 σ 57 [(1, .int v)] []) ∧ True) (fun z o hf k1 k2 => wX9_naked_14 C  hf (fun v e => k1 v e) (fun v e => (k2 _ e).1 v rfl)) 5000 z t h ⟨kx, trivial⟩
theorem wX9_naked_in (C : sn_C p s m args meth c RX9 cX9_naked 3 (some .int) D ct ad layM A) {σ : sn_S}  {o : (Int32 × sn_S)} (hf : fX9_naked σ = some o) (kr : sn_Kr p l e rmX9_naked s m args below meth c Q D ct ad layM A cX9_naked .ireturn (true) o.2 [.int o.1]) : sn_At p l e rmX9_naked s m args below meth c Q D ct ad layM A 3 σ 0 [(0, .ref (ad 0))] [] := by
  intro H locs ls hw hl
  have hx := C.1
  have hb := C.2.1
  unfold fX9_naked at hf
  refine lv_aload_n hx hb dX9_naked_0 rfl (lv_at hl 0 rfl) ?_
  obtain ⟨t_1, h_2, hf⟩ := sn_bd hf
  refine sn_callVi (rest := []) C hw (ctX9_asksHouse l  h_2) kl_RX9_272 layM_0 rfl rfl rfl rfl (Nat.le_of_ble_eq_true rfl) dX9_naked_1 hl.1 (fun H locs hw => ?_)
  refine lv_if_ne (tgt := 10) hx hb dX9_naked_4 (by decide) (fun c_3 => ?_) (fun c_3 => ?_)
  · have hf := sn_el c_3 hf
    refine lv_iconst (v := 0) hx hb dX9_naked_10 rfl ?_
    refine lv_istore_n (lv' := [(1, .int (0 : Int32)), (0, .ref (ad 0))]) hx hb dX9_naked_11 rfl hl (by decide) rfl (fun ls hl => ?_)
    refine lv_iconst (v := 0) hx hb dX9_naked_12 rfl ?_
    refine lv_istore_n (lv' := [(2, .int (0 : Int32)), (1, .int (0 : Int32)), (0, .ref (ad 0))]) hx hb dX9_naked_13 rfl hl (by decide) rfl (fun ls hl => ?_)
    obtain ⟨t_4, h_5, hf⟩ := sn_bd hf
    exact wX9_naked_L14 C  h_5 (fun v e => by cases e; exact wX9_naked_57 C  hf kr) _ _ _ hw (lv_sub hl [2, 1, 0] rfl)
  · have hf := sn_if c_3 hf
    refine lv_bipush (v := (-2)) hx hb dX9_naked_7 (by decide) ?_
    cases hf
    exact kr _ _ _ _ hw rfl dX9_naked_9
theorem ctX9_naked (l : Launch) {σ : sn_S}  {o : (Int32 × sn_S)} (hf : fX9_naked σ = some o) : sn_M l yX9_naked cX9_naked 3 (some .int) rmX9_naked layM (fun ad => [.ref (ad 0)]) σ (some (fun _ => .int o.1)) o.2 :=
  sn_met (by decide) (fun _ => Nat.le_of_ble_eq_true rfl) (fun p e s m args below meth c ls D ct ad A C hw hl => wX9_naked_in C  hf (fun H locs ls pc hw ok hd => sn_iret C hw hd) _ _ _ hw hl)
-- X9_covers
abbrev rmX9_covers : Room := { frames := 6, cells := 0, slots := 0, locals := 136 }
def BX9_covers_46 (σ : sn_S) (x2 : Int32) : Option ((Int32 × sn_S)) :=
  (some (x2, σ))
def BX9_covers_15 (σ : sn_S) (x1 : Int32) (x2 : Int32) (x3 : Int32) : Option ((Int32 × Int32) ⊕ (Int32)) :=
  (sn_gd (sn_in (8 : Int32) 119) (if (sn_I σ 1 (8 : Int32).toNatClampNeg) ≤ x3 then
  (some (.inr (x2)))
  else
  ((fX9_windowOf σ x3).bind fun t_3 => ((fX9_bit t_3 x1).bind fun t_5 => (sn_lt (x2 ||| (t_5 <<< (x3 &&& 31))) fun y_7 => (sn_lt (x3 + 1) fun y_9 => (some (.inl (y_7, y_9)))))))))
def LX9_covers_15 (σ : sn_S) (x1 : Int32) (s : Int32 × Int32) : Option ((Int32 × Int32) ⊕ (Int32)) := BX9_covers_15 σ x1 s.1 s.2
def fX9_covers (σ : sn_S) (x1 : Int32) : Option (Int32 × sn_S) :=
  ((fX9_asksMinute σ x1).bind fun t_1 => (if t_1.1 = 0 then
  (some ((-2 : Int32), t_1.2))
  else
  ((sn_it (LX9_covers_15 t_1.2 x1) 5000 ((0 : Int32), (0 : Int32))).bind fun t_4 => (BX9_covers_46 t_1.2 t_4))))
theorem wX9_covers_46 (C : sn_C p s m args meth c RX9 cX9_covers 4 (some .int) D ct ad layM A) {σ : sn_S} {x2 : Int32}  {o : (Int32 × sn_S)} (hf : BX9_covers_46 σ x2 = some o) (kr : sn_Kr p l e rmX9_covers s m args below meth c Q D ct ad layM A cX9_covers .ireturn (true) o.2 [.int o.1]) : sn_At p l e rmX9_covers s m args below meth c Q D ct ad layM A 4 σ 46 [(2, .int x2)] [] := by
  intro H locs ls hw hl
  have hx := C.1
  have hb := C.2.1
  unfold BX9_covers_46 at hf
  refine lv_iload_n hx hb dX9_covers_46 rfl (lv_at hl 0 rfl) ?_
  cases hf
  exact kr _ _ _ _ hw rfl dX9_covers_47
theorem wX9_covers_15 (C : sn_C p s m args meth c RX9 cX9_covers 4 (some .int) D ct ad layM A) {σ : sn_S} {x1 : Int32} {x2 : Int32} {x3 : Int32}  {o : (Int32 × Int32) ⊕ (Int32)} (hf : BX9_covers_15 σ x1 x2 x3 = some o) (kc : ∀ v, o = .inl v → sn_At p l e rmX9_covers s m args below meth c Q D ct ad layM A 4 σ 15 [(0, .ref (ad 0)), (1, .int x1), (2, .int v.1), (3, .int v.2)] []) (kx : ∀ v, o = .inr v → sn_At p l e rmX9_covers s m args below meth c Q D ct ad layM A 4 σ 46 [(2, .int v)] []) : sn_At p l e rmX9_covers s m args below meth c Q D ct ad layM A 4 σ 15 [(0, .ref (ad 0)), (1, .int x1), (2, .int x2), (3, .int x3)] [] := by
  intro H locs ls hw hl
  have hx := C.1
  have hb := C.2.1
  unfold BX9_covers_15 at hf
  refine lv_iload_n hx hb dX9_covers_15 rfl (lv_at hl 3 rfl) ?_
  refine lv_aload_n hx hb dX9_covers_16 rfl (lv_at hl 0 rfl) ?_
  refine sn_getC (r := 1) C hw fd_RX9_9 layM_0 rfl dX9_covers_17 ?_
  refine lv_bipush (v := 8) hx hb dX9_covers_20 (by decide) ?_
  obtain ⟨g_1, hf⟩ := sn_gdE hf
  refine sn_iald C hw layM_1 g_1 dX9_covers_22 ?_
  refine lv_icmp_ge (tgt := 46) hx hb dX9_covers_23 (by decide) (fun c_2 => ?_) (fun c_2 => ?_)
  · have hf := sn_if c_2 hf
    cases hf
    exact kx _ rfl _ _ _ hw (lv_sub hl [2] rfl)
  · have hf := sn_el c_2 hf
    refine lv_iload_n hx hb dX9_covers_26 rfl (lv_at hl 2 rfl) ?_
    refine lv_aload_n hx hb dX9_covers_27 rfl (lv_at hl 0 rfl) ?_
    refine lv_iload_n hx hb dX9_covers_28 rfl (lv_at hl 3 rfl) ?_
    obtain ⟨t_3, h_4, hf⟩ := sn_bd hf
    refine sn_callVi (rest := [.int x2]) C hw (ctX9_windowOf l  h_4) kl_RX9_304 layM_0 rfl rfl rfl rfl (Nat.le_of_ble_eq_true rfl) dX9_covers_29 hl.1 (fun H locs hw => ?_)
    refine lv_iload_n hx hb dX9_covers_32 rfl (lv_at hl 1 rfl) ?_
    obtain ⟨t_5, h_6, hf⟩ := sn_bd hf
    refine sn_callSi (rest := [.int x2]) C hw (ctX9_bit l  h_6) kl_RX9_254 rfl rfl rfl (Nat.le_of_ble_eq_true rfl) dX9_covers_33 hl.1 (fun H locs hw => ?_)
    refine lv_iload_n hx hb dX9_covers_36 rfl (lv_at hl 3 rfl) ?_
    refine lv_ishl hx hb dX9_covers_37 ?_
    refine lv_ior hx hb dX9_covers_38 ?_
    obtain ⟨y_7, e_8, hf⟩ := sn_ltE hf
    refine lv_topi (fun y_7_ e_8_ => ?_)
    obtain rfl : y_7 = y_7_ := e_8.trans e_8_.symm
    refine lv_istore_n (lv' := [(2, .int y_7), (0, .ref (ad 0)), (1, .int x1), (3, .int x3)]) hx hb dX9_covers_39 rfl hl (by decide) rfl (fun ls hl => ?_)
    obtain ⟨y_9, e_10, hf⟩ := sn_ltE hf
    refine lv_iinc (v := y_9) (lv' := [(3, .int y_9), (2, .int y_7), (0, .ref (ad 0)), (1, .int x1)]) hx hb dX9_covers_40 hl (k := 3) rfl (by rw [e_10]; rfl) (by decide) rfl (fun ls hl => ?_)
    refine lv_goto (tgt := 15) hx hb dX9_covers_43 (by decide) ?_
    cases hf
    exact kc _ rfl _ _ _ hw (lv_sub hl [2, 3, 1, 0] rfl)
theorem wX9_covers_L15 (C : sn_C p s m args meth c RX9 cX9_covers 4 (some .int) D ct ad layM A) {σ : sn_S} {x1 : Int32}   {z : Int32 × Int32} {t : Int32} (h : sn_it (LX9_covers_15 σ x1) 5000 z = some t) (kx : ∀ v, t = v → sn_At p l e rmX9_covers s m args below meth c Q D ct ad layM A 4 σ 46 [(2, .int v)] []) : sn_At p l e rmX9_covers s m args below meth c Q D ct ad layM A 4 σ 15 [(0, .ref (ad 0)), (1, .int x1), (2, .int z.1), (3, .int z.2)] [] :=
  sn_loop (f := LX9_covers_15 σ x1) (G := fun z => sn_At p l e rmX9_covers s m args below meth c Q D ct ad layM A 4 σ 15 [(0, .ref (ad 0)), (1, .int x1), (2, .int z.1), (3, .int z.2)] []) (E := fun t => (∀ v, t = v → sn_At p l e rmX9_covers s m args below meth c Q D ct ad layM A 4 σ 46 [(2, .int v)] []) ∧ True) (fun z o hf k1 k2 => wX9_covers_15 C  hf (fun v e => k1 v e) (fun v e => (k2 _ e).1 v rfl)) 5000 z t h ⟨kx, trivial⟩
theorem wX9_covers_in (C : sn_C p s m args meth c RX9 cX9_covers 4 (some .int) D ct ad layM A) {σ : sn_S} {x1 : Int32}  {o : (Int32 × sn_S)} (hf : fX9_covers σ x1 = some o) (kr : sn_Kr p l e rmX9_covers s m args below meth c Q D ct ad layM A cX9_covers .ireturn (true) o.2 [.int o.1]) : sn_At p l e rmX9_covers s m args below meth c Q D ct ad layM A 4 σ 0 [(0, .ref (ad 0)), (1, .int x1)] [] := by
  intro H locs ls hw hl
  have hx := C.1
  have hb := C.2.1
  unfold fX9_covers at hf
  refine lv_aload_n hx hb dX9_covers_0 rfl (lv_at hl 0 rfl) ?_
  refine lv_iload_n hx hb dX9_covers_1 rfl (lv_at hl 1 rfl) ?_
  obtain ⟨t_1, h_2, hf⟩ := sn_bd hf
  refine sn_callVi (rest := []) C hw (ctX9_asksMinute l  h_2) kl_RX9_281 layM_0 rfl rfl rfl rfl (Nat.le_of_ble_eq_true rfl) dX9_covers_2 hl.1 (fun H locs hw => ?_)
  refine lv_if_ne (tgt := 11) hx hb dX9_covers_5 (by decide) (fun c_3 => ?_) (fun c_3 => ?_)
  · have hf := sn_el c_3 hf
    refine lv_iconst (v := 0) hx hb dX9_covers_11 rfl ?_
    refine lv_istore_n (lv' := [(2, .int (0 : Int32)), (0, .ref (ad 0)), (1, .int x1)]) hx hb dX9_covers_12 rfl hl (by decide) rfl (fun ls hl => ?_)
    refine lv_iconst (v := 0) hx hb dX9_covers_13 rfl ?_
    refine lv_istore_n (lv' := [(3, .int (0 : Int32)), (2, .int (0 : Int32)), (0, .ref (ad 0)), (1, .int x1)]) hx hb dX9_covers_14 rfl hl (by decide) rfl (fun ls hl => ?_)
    obtain ⟨t_4, h_5, hf⟩ := sn_bd hf
    exact wX9_covers_L15 C  h_5 (fun v e => by cases e; exact wX9_covers_46 C  hf kr) _ _ _ hw (lv_sub hl [2, 3, 1, 0] rfl)
  · have hf := sn_if c_3 hf
    refine lv_bipush (v := (-2)) hx hb dX9_covers_8 (by decide) ?_
    cases hf
    exact kr _ _ _ _ hw rfl dX9_covers_10
theorem ctX9_covers (l : Launch) {σ : sn_S} {x1 : Int32}  {o : (Int32 × sn_S)} (hf : fX9_covers σ x1 = some o) : sn_M l yX9_covers cX9_covers 4 (some .int) rmX9_covers layM (fun ad => [.ref (ad 0), .int x1]) σ (some (fun _ => .int o.1)) o.2 :=
  sn_met (by decide) (fun _ => Nat.le_of_ble_eq_true rfl) (fun p e s m args below meth c ls D ct ad A C hw hl => wX9_covers_in C  hf (fun H locs ls pc hw ok hd => sn_iret C hw hd) _ _ _ hw hl)
-- X9_profit
abbrev rmX9_profit : Room := { frames := 6, cells := 0, slots := 0, locals := 136 }
def fX9_profit (σ : sn_S) (x1 : Int32) : Option (Int32 × sn_S) :=
  ((fX9_asksPolicy σ x1).bind fun t_1 => (if t_1.1 = 0 then
  (some ((-100000 : Int32), t_1.2))
  else
  ((fX9_of t_1.2 x1 (4 : Int32)).bind fun t_4 => ((fX9_claimOf_ t_1.2 x1).bind fun t_6 => (some ((t_4 - t_6.1), t_6.2))))))
theorem wX9_profit_in (C : sn_C p s m args meth c RX9 cX9_profit 2 (some .int) D ct ad layM A) {σ : sn_S} {x1 : Int32}  {o : (Int32 × sn_S)} (hf : fX9_profit σ x1 = some o) (kr : sn_Kr p l e rmX9_profit s m args below meth c Q D ct ad layM A cX9_profit .ireturn (true) o.2 [.int o.1]) : sn_At p l e rmX9_profit s m args below meth c Q D ct ad layM A 2 σ 0 [(0, .ref (ad 0)), (1, .int x1)] [] := by
  intro H locs ls hw hl
  have hx := C.1
  have hb := C.2.1
  unfold fX9_profit at hf
  refine lv_aload_n hx hb dX9_profit_0 rfl (lv_at hl 0 rfl) ?_
  refine lv_iload_n hx hb dX9_profit_1 rfl (lv_at hl 1 rfl) ?_
  obtain ⟨t_1, h_2, hf⟩ := sn_bd hf
  refine sn_callVi (rest := []) C hw (ctX9_asksPolicy l  h_2) kl_RX9_323 layM_0 rfl rfl rfl rfl (Nat.le_of_ble_eq_true rfl) dX9_profit_2 hl.1 (fun H locs hw => ?_)
  refine lv_if_eq (tgt := 23) hx hb dX9_profit_5 (by decide) (fun c_3 => ?_) (fun c_3 => ?_)
  · have hf := sn_if c_3 hf
    refine lv_ldcw hx hb C.2.2.2.1 (C.2.2.2.2.1 _ kk_RX9_328) dX9_profit_23 ?_
    cases hf
    exact kr _ _ _ _ hw rfl dX9_profit_26
  · have hf := sn_el c_3 hf
    refine lv_aload_n hx hb dX9_profit_8 rfl (lv_at hl 0 rfl) ?_
    refine lv_iload_n hx hb dX9_profit_9 rfl (lv_at hl 1 rfl) ?_
    refine lv_iconst (v := 4) hx hb dX9_profit_10 rfl ?_
    obtain ⟨t_4, h_5, hf⟩ := sn_bd hf
    refine sn_callVi (rest := []) C hw (ctX9_of l  h_5) kl_RX9_234 layM_0 rfl rfl rfl rfl (Nat.le_of_ble_eq_true rfl) dX9_profit_11 hl.1 (fun H locs hw => ?_)
    refine lv_aload_n hx hb dX9_profit_14 rfl (lv_at hl 0 rfl) ?_
    refine lv_iload_n hx hb dX9_profit_15 rfl (lv_at hl 1 rfl) ?_
    obtain ⟨t_6, h_7, hf⟩ := sn_bd hf
    refine sn_callVi (rest := [.int t_4]) C hw (ctX9_claimOf_ l  h_7) kl_RX9_326 layM_0 rfl rfl rfl rfl (Nat.le_of_ble_eq_true rfl) dX9_profit_16 hl.1 (fun H locs hw => ?_)
    refine lv_isub hx hb dX9_profit_19 ?_
    refine lv_goto (tgt := 26) hx hb dX9_profit_20 (by decide) ?_
    cases hf
    exact kr _ _ _ _ hw rfl dX9_profit_26
theorem ctX9_profit (l : Launch) {σ : sn_S} {x1 : Int32}  {o : (Int32 × sn_S)} (hf : fX9_profit σ x1 = some o) : sn_M l yX9_profit cX9_profit 2 (some .int) rmX9_profit layM (fun ad => [.ref (ad 0), .int x1]) σ (some (fun _ => .int o.1)) o.2 :=
  sn_met (by decide) (fun _ => Nat.le_of_ble_eq_true rfl) (fun p e s m args below meth c ls D ct ad A C hw hl => wX9_profit_in C  hf (fun H locs ls pc hw ok hd => sn_iret C hw hd) _ _ _ hw hl)
-- X9_lowest
abbrev rmX9_lowest : Room := { frames := 5, cells := 0, slots := 0, locals := 115 }
def BX9_lowest_51 (σ : sn_S) (x1 : Int32) : Option ((Int32 × sn_S)) :=
  (some (x1, σ))
def BX9_lowest_44 (σ : sn_S) (x1 : Int32) (x2 : Int32) (t0 : Int32) : Option ((Int32 × Int32) ⊕ (Int32)) :=
  (sn_lt (x2 + 1) fun y_1 => (some (.inl (t0, y_1))))
def BX9_lowest_18 (σ : sn_S) (x1 : Int32) (x2 : Int32) : Option ((Int32 × Int32) ⊕ (Int32)) :=
  ((fX9_minutes σ).bind fun t_1 => (if t_1 ≤ x2 then
  (some (.inr (x1)))
  else
  ((fX9_moneyAt σ x2).bind fun t_4 => ((fX9_moneyAt σ x1).bind fun t_6 => (if t_6 ≤ t_4 then
  (BX9_lowest_44 σ x1 x2 x1)
  else
  (BX9_lowest_44 σ x1 x2 x2))))))
def LX9_lowest_18 (σ : sn_S) (s : Int32 × Int32) : Option ((Int32 × Int32) ⊕ (Int32)) := BX9_lowest_18 σ s.1 s.2
def fX9_lowest (σ : sn_S) : Option (Int32 × sn_S) :=
  ((fX9_asksHouse σ).bind fun t_1 => (if t_1.1 = 0 then
  (some ((-2 : Int32), t_1.2))
  else
  ((fX9_layPaid t_1.2).bind fun t_4 => ((sn_it (LX9_lowest_18 t_4) 5000 ((0 : Int32), (1 : Int32))).bind fun t_6 => (BX9_lowest_51 t_4 t_6)))))
theorem wX9_lowest_51 (C : sn_C p s m args meth c RX9 cX9_lowest 3 (some .int) D ct ad layM A) {σ : sn_S} {x1 : Int32}  {o : (Int32 × sn_S)} (hf : BX9_lowest_51 σ x1 = some o) (kr : sn_Kr p l e rmX9_lowest s m args below meth c Q D ct ad layM A cX9_lowest .ireturn (true) o.2 [.int o.1]) : sn_At p l e rmX9_lowest s m args below meth c Q D ct ad layM A 3 σ 51 [(1, .int x1)] [] := by
  intro H locs ls hw hl
  have hx := C.1
  have hb := C.2.1
  unfold BX9_lowest_51 at hf
  refine lv_iload_n hx hb dX9_lowest_51 rfl (lv_at hl 0 rfl) ?_
  cases hf
  exact kr _ _ _ _ hw rfl dX9_lowest_52
theorem wX9_lowest_44 (C : sn_C p s m args meth c RX9 cX9_lowest 3 (some .int) D ct ad layM A) {σ : sn_S} {x1 : Int32} {x2 : Int32} {t0 : Int32}  {o : (Int32 × Int32) ⊕ (Int32)} (hf : BX9_lowest_44 σ x1 x2 t0 = some o) (kc : ∀ v, o = .inl v → sn_At p l e rmX9_lowest s m args below meth c Q D ct ad layM A 3 σ 18 [(0, .ref (ad 0)), (1, .int v.1), (2, .int v.2)] []) (kx : ∀ v, o = .inr v → sn_At p l e rmX9_lowest s m args below meth c Q D ct ad layM A 3 σ 51 [(1, .int v)] []) : sn_At p l e rmX9_lowest s m args below meth c Q D ct ad layM A 3 σ 44 [(0, .ref (ad 0)), (1, .int x1), (2, .int x2)] [.int t0] := by
  intro H locs ls hw hl
  have hx := C.1
  have hb := C.2.1
  unfold BX9_lowest_44 at hf
  refine lv_istore_n (lv' := [(1, .int t0), (0, .ref (ad 0)), (2, .int x2)]) hx hb dX9_lowest_44 rfl hl (by decide) rfl (fun ls hl => ?_)
  obtain ⟨y_1, e_2, hf⟩ := sn_ltE hf
  refine lv_iinc (v := y_1) (lv' := [(2, .int y_1), (1, .int t0), (0, .ref (ad 0))]) hx hb dX9_lowest_45 hl (k := 2) rfl (by rw [e_2]; rfl) (by decide) rfl (fun ls hl => ?_)
  refine lv_goto (tgt := 18) hx hb dX9_lowest_48 (by decide) ?_
  cases hf
  exact kc _ rfl _ _ _ hw (lv_sub hl [2, 1, 0] rfl)
theorem wX9_lowest_18 (C : sn_C p s m args meth c RX9 cX9_lowest 3 (some .int) D ct ad layM A) {σ : sn_S} {x1 : Int32} {x2 : Int32}  {o : (Int32 × Int32) ⊕ (Int32)} (hf : BX9_lowest_18 σ x1 x2 = some o) (kc : ∀ v, o = .inl v → sn_At p l e rmX9_lowest s m args below meth c Q D ct ad layM A 3 σ 18 [(0, .ref (ad 0)), (1, .int v.1), (2, .int v.2)] []) (kx : ∀ v, o = .inr v → sn_At p l e rmX9_lowest s m args below meth c Q D ct ad layM A 3 σ 51 [(1, .int v)] []) : sn_At p l e rmX9_lowest s m args below meth c Q D ct ad layM A 3 σ 18 [(0, .ref (ad 0)), (1, .int x1), (2, .int x2)] [] := by
  intro H locs ls hw hl
  have hx := C.1
  have hb := C.2.1
  unfold BX9_lowest_18 at hf
  refine lv_iload_n hx hb dX9_lowest_18 rfl (lv_at hl 2 rfl) ?_
  refine lv_aload_n hx hb dX9_lowest_19 rfl (lv_at hl 0 rfl) ?_
  obtain ⟨t_1, h_2, hf⟩ := sn_bd hf
  refine sn_callVi (rest := [.int x2]) C hw (ctX9_minutes l  h_2) kl_RX9_249 layM_0 rfl rfl rfl rfl (Nat.le_of_ble_eq_true rfl) dX9_lowest_20 hl.1 (fun H locs hw => ?_)
  refine lv_icmp_ge (tgt := 51) hx hb dX9_lowest_23 (by decide) (fun c_3 => ?_) (fun c_3 => ?_)
  · have hf := sn_if c_3 hf
    cases hf
    exact kx _ rfl _ _ _ hw (lv_sub hl [1] rfl)
  · have hf := sn_el c_3 hf
    refine lv_aload_n hx hb dX9_lowest_26 rfl (lv_at hl 0 rfl) ?_
    refine lv_iload_n hx hb dX9_lowest_27 rfl (lv_at hl 2 rfl) ?_
    obtain ⟨t_4, h_5, hf⟩ := sn_bd hf
    refine sn_callVi (rest := []) C hw (ctX9_moneyAt l  h_5) kl_RX9_320 layM_0 rfl rfl rfl rfl (Nat.le_of_ble_eq_true rfl) dX9_lowest_28 hl.1 (fun H locs hw => ?_)
    refine lv_aload_n hx hb dX9_lowest_31 rfl (lv_at hl 0 rfl) ?_
    refine lv_iload_n hx hb dX9_lowest_32 rfl (lv_at hl 1 rfl) ?_
    obtain ⟨t_6, h_7, hf⟩ := sn_bd hf
    refine sn_callVi (rest := [.int t_4]) C hw (ctX9_moneyAt l  h_7) kl_RX9_320 layM_0 rfl rfl rfl rfl (Nat.le_of_ble_eq_true rfl) dX9_lowest_33 hl.1 (fun H locs hw => ?_)
    refine lv_icmp_ge (tgt := 43) hx hb dX9_lowest_36 (by decide) (fun c_8 => ?_) (fun c_8 => ?_)
    · have hf := sn_if c_8 hf
      refine lv_iload_n hx hb dX9_lowest_43 rfl (lv_at hl 1 rfl) ?_
      exact wX9_lowest_44 C  hf kc kx _ _ _ hw (lv_sub hl [0, 1, 2] rfl)
    · have hf := sn_el c_8 hf
      refine lv_iload_n hx hb dX9_lowest_39 rfl (lv_at hl 2 rfl) ?_
      refine lv_goto (tgt := 44) hx hb dX9_lowest_40 (by decide) ?_
      exact wX9_lowest_44 C  hf kc kx _ _ _ hw (lv_sub hl [0, 1, 2] rfl)
theorem wX9_lowest_L18 (C : sn_C p s m args meth c RX9 cX9_lowest 3 (some .int) D ct ad layM A) {σ : sn_S}   {z : Int32 × Int32} {t : Int32} (h : sn_it (LX9_lowest_18 σ) 5000 z = some t) (kx : ∀ v, t = v → sn_At p l e rmX9_lowest s m args below meth c Q D ct ad layM A 3 σ 51 [(1, .int v)] []) : sn_At p l e rmX9_lowest s m args below meth c Q D ct ad layM A 3 σ 18 [(0, .ref (ad 0)), (1, .int z.1), (2, .int z.2)] [] :=
  sn_loop (f := LX9_lowest_18 σ) (G := fun z => sn_At p l e rmX9_lowest s m args below meth c Q D ct ad layM A 3 σ 18 [(0, .ref (ad 0)), (1, .int z.1), (2, .int z.2)] []) (E := fun t => (∀ v, t = v → sn_At p l e rmX9_lowest s m args below meth c Q D ct ad layM A 3 σ 51 [(1, .int v)] []) ∧ True) (fun z o hf k1 k2 => wX9_lowest_18 C  hf (fun v e => k1 v e) (fun v e => (k2 _ e).1 v rfl)) 5000 z t h ⟨kx, trivial⟩
theorem wX9_lowest_in (C : sn_C p s m args meth c RX9 cX9_lowest 3 (some .int) D ct ad layM A) {σ : sn_S}  {o : (Int32 × sn_S)} (hf : fX9_lowest σ = some o) (kr : sn_Kr p l e rmX9_lowest s m args below meth c Q D ct ad layM A cX9_lowest .ireturn (true) o.2 [.int o.1]) : sn_At p l e rmX9_lowest s m args below meth c Q D ct ad layM A 3 σ 0 [(0, .ref (ad 0))] [] := by
  intro H locs ls hw hl
  have hx := C.1
  have hb := C.2.1
  unfold fX9_lowest at hf
  refine lv_aload_n hx hb dX9_lowest_0 rfl (lv_at hl 0 rfl) ?_
  obtain ⟨t_1, h_2, hf⟩ := sn_bd hf
  refine sn_callVi (rest := []) C hw (ctX9_asksHouse l  h_2) kl_RX9_272 layM_0 rfl rfl rfl rfl (Nat.le_of_ble_eq_true rfl) dX9_lowest_1 hl.1 (fun H locs hw => ?_)
  refine lv_if_ne (tgt := 10) hx hb dX9_lowest_4 (by decide) (fun c_3 => ?_) (fun c_3 => ?_)
  · have hf := sn_el c_3 hf
    refine lv_aload_n hx hb dX9_lowest_10 rfl (lv_at hl 0 rfl) ?_
    obtain ⟨t_4, h_5, hf⟩ := sn_bd hf
    refine sn_callVv (rest := []) C hw (ctX9_layPaid l  h_5) kl_RX9_317 layM_0 rfl rfl rfl rfl (Nat.le_of_ble_eq_true rfl) dX9_lowest_11 hl.1 (fun H locs hw => ?_)
    refine lv_iconst (v := 0) hx hb dX9_lowest_14 rfl ?_
    refine lv_istore_n (lv' := [(1, .int (0 : Int32)), (0, .ref (ad 0))]) hx hb dX9_lowest_15 rfl hl (by decide) rfl (fun ls hl => ?_)
    refine lv_iconst (v := 1) hx hb dX9_lowest_16 rfl ?_
    refine lv_istore_n (lv' := [(2, .int (1 : Int32)), (1, .int (0 : Int32)), (0, .ref (ad 0))]) hx hb dX9_lowest_17 rfl hl (by decide) rfl (fun ls hl => ?_)
    obtain ⟨t_6, h_7, hf⟩ := sn_bd hf
    exact wX9_lowest_L18 C  h_7 (fun v e => by cases e; exact wX9_lowest_51 C  hf kr) _ _ _ hw (lv_sub hl [2, 1, 0] rfl)
  · have hf := sn_if c_3 hf
    refine lv_bipush (v := (-2)) hx hb dX9_lowest_7 (by decide) ?_
    cases hf
    exact kr _ _ _ _ hw rfl dX9_lowest_9
theorem ctX9_lowest (l : Launch) {σ : sn_S}  {o : (Int32 × sn_S)} (hf : fX9_lowest σ = some o) : sn_M l yX9_lowest cX9_lowest 3 (some .int) rmX9_lowest layM (fun ad => [.ref (ad 0)]) σ (some (fun _ => .int o.1)) o.2 :=
  sn_met (by decide) (fun _ => Nat.le_of_ble_eq_true rfl) (fun p e s m args below meth c ls D ct ad A C hw hl => wX9_lowest_in C  hf (fun H locs ls pc hw ok hd => sn_iret C hw hd) _ _ _ hw hl)
-- X9_dear
abbrev rmX9_dear : Room := { frames := 5, cells := 0, slots := 0, locals := 115 }
def BX9_dear_61 (σ : sn_S) (x1 : Int32) : Option ((Int32 × sn_S)) :=
  (some (x1, σ))
def BX9_dear_55 (σ : sn_S) (x1 : Int32) (x2 : Int32) (x3 : Int32) : Option ((sn_S × Int32 × Int32 × Int32) ⊕ (sn_S × Int32)) :=
  (sn_lt (x3 + 1) fun y_1 => (some (.inl (σ, x1, x2, y_1))))
def BX9_dear_16 (σ : sn_S) (x1 : Int32) (x2 : Int32) (x3 : Int32) : Option ((sn_S × Int32 × Int32 × Int32) ⊕ (sn_S × Int32)) :=
  (sn_gd (sn_in (8 : Int32) 119) (if (sn_I σ 1 (8 : Int32).toNatClampNeg) ≤ x3 then
  (some (.inr (σ, x1)))
  else
  ((fX9_claimOf_ σ x3).bind fun t_3 => ((fX9_of t_3.2 x3 (4 : Int32)).bind fun t_5 => (sn_lt (t_3.1 - t_5) fun y_7 => (if x2 < y_7 then
  (BX9_dear_55 t_3.2 x3 y_7 x3)
  else
  (BX9_dear_55 t_3.2 x1 x2 x3)))))))
def LX9_dear_16  (s : sn_S × Int32 × Int32 × Int32) : Option ((sn_S × Int32 × Int32 × Int32) ⊕ (sn_S × Int32)) := BX9_dear_16 s.1 s.2.1 s.2.2.1 s.2.2.2
def fX9_dear (σ : sn_S) : Option (Int32 × sn_S) :=
  ((fX9_asksHouse σ).bind fun t_1 => (if t_1.1 = 0 then
  (some ((-2 : Int32), t_1.2))
  else
  ((sn_it (LX9_dear_16 ) 5000 (t_1.2, (-1 : Int32), (0 : Int32), (0 : Int32))).bind fun t_4 => (BX9_dear_61 t_4.1 t_4.2))))
theorem wX9_dear_61 (C : sn_C p s m args meth c RX9 cX9_dear 5 (some .int) D ct ad layM A) {σ : sn_S} {x1 : Int32}  {o : (Int32 × sn_S)} (hf : BX9_dear_61 σ x1 = some o) (kr : sn_Kr p l e rmX9_dear s m args below meth c Q D ct ad layM A cX9_dear .ireturn (true) o.2 [.int o.1]) : sn_At p l e rmX9_dear s m args below meth c Q D ct ad layM A 5 σ 61 [(1, .int x1)] [] := by
  intro H locs ls hw hl
  have hx := C.1
  have hb := C.2.1
  unfold BX9_dear_61 at hf
  refine lv_iload_n hx hb dX9_dear_61 rfl (lv_at hl 0 rfl) ?_
  cases hf
  exact kr _ _ _ _ hw rfl dX9_dear_62
theorem wX9_dear_55 (C : sn_C p s m args meth c RX9 cX9_dear 5 (some .int) D ct ad layM A) {σ : sn_S} {x1 : Int32} {x2 : Int32} {x3 : Int32}  {o : (sn_S × Int32 × Int32 × Int32) ⊕ (sn_S × Int32)} (hf : BX9_dear_55 σ x1 x2 x3 = some o) (kc : ∀ v, o = .inl v → sn_At p l e rmX9_dear s m args below meth c Q D ct ad layM A 5 v.1 16 [(0, .ref (ad 0)), (1, .int v.2.1), (2, .int v.2.2.1), (3, .int v.2.2.2)] []) (kx : ∀ v, o = .inr v → sn_At p l e rmX9_dear s m args below meth c Q D ct ad layM A 5 v.1 61 [(1, .int v.2)] []) : sn_At p l e rmX9_dear s m args below meth c Q D ct ad layM A 5 σ 55 [(0, .ref (ad 0)), (1, .int x1), (2, .int x2), (3, .int x3)] [] := by
  intro H locs ls hw hl
  have hx := C.1
  have hb := C.2.1
  unfold BX9_dear_55 at hf
  obtain ⟨y_1, e_2, hf⟩ := sn_ltE hf
  refine lv_iinc (v := y_1) (lv' := [(3, .int y_1), (0, .ref (ad 0)), (1, .int x1), (2, .int x2)]) hx hb dX9_dear_55 hl (k := 3) rfl (by rw [e_2]; rfl) (by decide) rfl (fun ls hl => ?_)
  refine lv_goto (tgt := 16) hx hb dX9_dear_58 (by decide) ?_
  cases hf
  exact kc _ rfl _ _ _ hw (lv_sub hl [1, 2, 3, 0] rfl)
theorem wX9_dear_16 (C : sn_C p s m args meth c RX9 cX9_dear 5 (some .int) D ct ad layM A) {σ : sn_S} {x1 : Int32} {x2 : Int32} {x3 : Int32}  {o : (sn_S × Int32 × Int32 × Int32) ⊕ (sn_S × Int32)} (hf : BX9_dear_16 σ x1 x2 x3 = some o) (kc : ∀ v, o = .inl v → sn_At p l e rmX9_dear s m args below meth c Q D ct ad layM A 5 v.1 16 [(0, .ref (ad 0)), (1, .int v.2.1), (2, .int v.2.2.1), (3, .int v.2.2.2)] []) (kx : ∀ v, o = .inr v → sn_At p l e rmX9_dear s m args below meth c Q D ct ad layM A 5 v.1 61 [(1, .int v.2)] []) : sn_At p l e rmX9_dear s m args below meth c Q D ct ad layM A 5 σ 16 [(0, .ref (ad 0)), (1, .int x1), (2, .int x2), (3, .int x3)] [] := by
  intro H locs ls hw hl
  have hx := C.1
  have hb := C.2.1
  unfold BX9_dear_16 at hf
  refine lv_iload_n hx hb dX9_dear_16 rfl (lv_at hl 3 rfl) ?_
  refine lv_aload_n hx hb dX9_dear_17 rfl (lv_at hl 0 rfl) ?_
  refine sn_getC (r := 1) C hw fd_RX9_9 layM_0 rfl dX9_dear_18 ?_
  refine lv_bipush (v := 8) hx hb dX9_dear_21 (by decide) ?_
  obtain ⟨g_1, hf⟩ := sn_gdE hf
  refine sn_iald C hw layM_1 g_1 dX9_dear_23 ?_
  refine lv_icmp_ge (tgt := 61) hx hb dX9_dear_24 (by decide) (fun c_2 => ?_) (fun c_2 => ?_)
  · have hf := sn_if c_2 hf
    cases hf
    exact kx _ rfl _ _ _ hw (lv_sub hl [1] rfl)
  · have hf := sn_el c_2 hf
    refine lv_aload_n hx hb dX9_dear_27 rfl (lv_at hl 0 rfl) ?_
    refine lv_iload_n hx hb dX9_dear_28 rfl (lv_at hl 3 rfl) ?_
    obtain ⟨t_3, h_4, hf⟩ := sn_bd hf
    refine sn_callVi (rest := []) C hw (ctX9_claimOf_ l  h_4) kl_RX9_326 layM_0 rfl rfl rfl rfl (Nat.le_of_ble_eq_true rfl) dX9_dear_29 hl.1 (fun H locs hw => ?_)
    refine lv_aload_n hx hb dX9_dear_32 rfl (lv_at hl 0 rfl) ?_
    refine lv_iload_n hx hb dX9_dear_33 rfl (lv_at hl 3 rfl) ?_
    refine lv_iconst (v := 4) hx hb dX9_dear_34 rfl ?_
    obtain ⟨t_5, h_6, hf⟩ := sn_bd hf
    refine sn_callVi (rest := [.int t_3.1]) C hw (ctX9_of l  h_6) kl_RX9_234 layM_0 rfl rfl rfl rfl (Nat.le_of_ble_eq_true rfl) dX9_dear_35 hl.1 (fun H locs hw => ?_)
    refine lv_isub hx hb dX9_dear_38 ?_
    obtain ⟨y_7, e_8, hf⟩ := sn_ltE hf
    refine lv_topi (fun y_7_ e_8_ => ?_)
    obtain rfl : y_7 = y_7_ := e_8.trans e_8_.symm
    refine lv_istore (lv' := [(4, .int y_7), (0, .ref (ad 0)), (1, .int x1), (2, .int x2), (3, .int x3)]) hx hb dX9_dear_39 hl (by decide) rfl (fun ls hl => ?_)
    refine lv_iload hx hb dX9_dear_41 (lv_at hl 0 rfl) ?_
    refine lv_iload_n hx hb dX9_dear_43 rfl (lv_at hl 3 rfl) ?_
    refine lv_icmp_gt (tgt := 50) hx hb dX9_dear_44 (by decide) (fun c_9 => ?_) (fun c_9 => ?_)
    · have hf := sn_if c_9 hf
      refine lv_iload hx hb dX9_dear_50 (lv_at hl 0 rfl) ?_
      refine lv_istore_n (lv' := [(2, .int y_7), (4, .int y_7), (0, .ref (ad 0)), (1, .int x1), (3, .int x3)]) hx hb dX9_dear_52 rfl hl (by decide) rfl (fun ls hl => ?_)
      refine lv_iload_n hx hb dX9_dear_53 rfl (lv_at hl 4 rfl) ?_
      refine lv_istore_n (lv' := [(1, .int x3), (2, .int y_7), (4, .int y_7), (0, .ref (ad 0)), (3, .int x3)]) hx hb dX9_dear_54 rfl hl (by decide) rfl (fun ls hl => ?_)
      exact wX9_dear_55 C  hf kc kx _ _ _ hw (lv_sub hl [3, 0, 1, 4] rfl)
    · have hf := sn_el c_9 hf
      refine lv_goto (tgt := 55) hx hb dX9_dear_47 (by decide) ?_
      exact wX9_dear_55 C  hf kc kx _ _ _ hw (lv_sub hl [1, 2, 3, 4] rfl)
theorem wX9_dear_L16 (C : sn_C p s m args meth c RX9 cX9_dear 5 (some .int) D ct ad layM A)    {z : sn_S × Int32 × Int32 × Int32} {t : sn_S × Int32} (h : sn_it (LX9_dear_16 ) 5000 z = some t) (kx : ∀ v, t = v → sn_At p l e rmX9_dear s m args below meth c Q D ct ad layM A 5 v.1 61 [(1, .int v.2)] []) : sn_At p l e rmX9_dear s m args below meth c Q D ct ad layM A 5 z.1 16 [(0, .ref (ad 0)), (1, .int z.2.1), (2, .int z.2.2.1), (3, .int z.2.2.2)] [] :=
  sn_loop (f := LX9_dear_16 ) (G := fun z => sn_At p l e rmX9_dear s m args below meth c Q D ct ad layM A 5 z.1 16 [(0, .ref (ad 0)), (1, .int z.2.1), (2, .int z.2.2.1), (3, .int z.2.2.2)] []) (E := fun t => (∀ v, t = v → sn_At p l e rmX9_dear s m args below meth c Q D ct ad layM A 5 v.1 61 [(1, .int v.2)] []) ∧ True) (fun z o hf k1 k2 => wX9_dear_16 C  hf (fun v e => k1 v e) (fun v e => (k2 _ e).1 v rfl)) 5000 z t h ⟨kx, trivial⟩
theorem wX9_dear_in (C : sn_C p s m args meth c RX9 cX9_dear 5 (some .int) D ct ad layM A) {σ : sn_S}  {o : (Int32 × sn_S)} (hf : fX9_dear σ = some o) (kr : sn_Kr p l e rmX9_dear s m args below meth c Q D ct ad layM A cX9_dear .ireturn (true) o.2 [.int o.1]) : sn_At p l e rmX9_dear s m args below meth c Q D ct ad layM A 5 σ 0 [(0, .ref (ad 0))] [] := by
  intro H locs ls hw hl
  have hx := C.1
  have hb := C.2.1
  unfold fX9_dear at hf
  refine lv_aload_n hx hb dX9_dear_0 rfl (lv_at hl 0 rfl) ?_
  obtain ⟨t_1, h_2, hf⟩ := sn_bd hf
  refine sn_callVi (rest := []) C hw (ctX9_asksHouse l  h_2) kl_RX9_272 layM_0 rfl rfl rfl rfl (Nat.le_of_ble_eq_true rfl) dX9_dear_1 hl.1 (fun H locs hw => ?_)
  refine lv_if_ne (tgt := 10) hx hb dX9_dear_4 (by decide) (fun c_3 => ?_) (fun c_3 => ?_)
  · have hf := sn_el c_3 hf
    refine lv_iconst (v := (-1)) hx hb dX9_dear_10 rfl ?_
    refine lv_istore_n (lv' := [(1, .int (-1 : Int32)), (0, .ref (ad 0))]) hx hb dX9_dear_11 rfl hl (by decide) rfl (fun ls hl => ?_)
    refine lv_iconst (v := 0) hx hb dX9_dear_12 rfl ?_
    refine lv_istore_n (lv' := [(2, .int (0 : Int32)), (1, .int (-1 : Int32)), (0, .ref (ad 0))]) hx hb dX9_dear_13 rfl hl (by decide) rfl (fun ls hl => ?_)
    refine lv_iconst (v := 0) hx hb dX9_dear_14 rfl ?_
    refine lv_istore_n (lv' := [(3, .int (0 : Int32)), (2, .int (0 : Int32)), (1, .int (-1 : Int32)), (0, .ref (ad 0))]) hx hb dX9_dear_15 rfl hl (by decide) rfl (fun ls hl => ?_)
    obtain ⟨t_4, h_5, hf⟩ := sn_bd hf
    exact wX9_dear_L16 C  h_5 (fun v e => by cases e; exact wX9_dear_61 C  hf kr) _ _ _ hw (lv_sub hl [3, 2, 1, 0] rfl)
  · have hf := sn_if c_3 hf
    refine lv_bipush (v := (-2)) hx hb dX9_dear_7 (by decide) ?_
    cases hf
    exact kr _ _ _ _ hw rfl dX9_dear_9
theorem ctX9_dear (l : Launch) {σ : sn_S}  {o : (Int32 × sn_S)} (hf : fX9_dear σ = some o) : sn_M l yX9_dear cX9_dear 5 (some .int) rmX9_dear layM (fun ad => [.ref (ad 0)]) σ (some (fun _ => .int o.1)) o.2 :=
  sn_met (by decide) (fun _ => Nat.le_of_ble_eq_true rfl) (fun p e s m args below meth c ls D ct ad A C hw hl => wX9_dear_in C  hf (fun H locs ls pc hw ok hd => sn_iret C hw hd) _ _ _ hw hl)
-- X9_reserve
abbrev rmX9_reserve : Room := { frames := 5, cells := 0, slots := 0, locals := 117 }
def BX9_reserve_46 (σ : sn_S) : Option ((Int32 × sn_S)) :=
  (if (1000 : Int32) ≤ (sn_I σ 0 21) then
  (some ((-1 : Int32), σ))
  else
  (some ((sn_I σ 0 21), σ)))
def BX9_reserve_15 (σ : sn_S) : Option ((sn_S) ⊕ (sn_S)) :=
  (if (1000 : Int32) ≤ (sn_I σ 0 21) then
  (some (.inr (σ)))
  else
  ((fX9_ruinOf σ).bind fun t_2 => (if t_2.1 = (-1 : Int32) then
  (some (.inr (t_2.2)))
  else
  (sn_lt (sn_pI t_2.2 0 21 ((sn_I t_2.2 0 21) + (1 : Int32))) fun σ_5 => (some (.inl (σ_5)))))))
def LX9_reserve_15  (s : sn_S) : Option ((sn_S) ⊕ (sn_S)) := BX9_reserve_15 s
def fX9_reserve (σ : sn_S) : Option (Int32 × sn_S) :=
  ((fX9_asksHouse σ).bind fun t_1 => (if t_1.1 = 0 then
  (some ((-2 : Int32), t_1.2))
  else
  (sn_lt (sn_pI t_1.2 0 21 (0 : Int32)) fun σ_4 => ((sn_it (LX9_reserve_15 ) 5000 (σ_4)).bind fun t_6 => (BX9_reserve_46 t_6)))))
theorem wX9_reserve_46 (C : sn_C p s m args meth c RX9 cX9_reserve 1 (some .int) D ct ad layM A) {σ : sn_S}  {o : (Int32 × sn_S)} (hf : BX9_reserve_46 σ = some o) (kr : sn_Kr p l e rmX9_reserve s m args below meth c Q D ct ad layM A cX9_reserve .ireturn (true) o.2 [.int o.1]) : sn_At p l e rmX9_reserve s m args below meth c Q D ct ad layM A 1 σ 46 [(0, .ref (ad 0))] [] := by
  intro H locs ls hw hl
  have hx := C.1
  have hb := C.2.1
  unfold BX9_reserve_46 at hf
  refine lv_aload_n hx hb dX9_reserve_46 rfl (lv_at hl 0 rfl) ?_
  refine sn_getI C hw fd_RX9_246 layM_0 rfl dX9_reserve_47 ?_
  refine lv_sipush (v := 1000) hx hb dX9_reserve_50 (by decide) ?_
  refine lv_icmp_ge (tgt := 63) hx hb dX9_reserve_53 (by decide) (fun c_1 => ?_) (fun c_1 => ?_)
  · have hf := sn_if c_1 hf
    refine lv_iconst (v := (-1)) hx hb dX9_reserve_63 rfl ?_
    cases hf
    exact kr _ _ _ _ hw rfl dX9_reserve_64
  · have hf := sn_el c_1 hf
    refine lv_aload_n hx hb dX9_reserve_56 rfl (lv_at hl 0 rfl) ?_
    refine sn_getI C hw fd_RX9_246 layM_0 rfl dX9_reserve_57 ?_
    refine lv_goto (tgt := 64) hx hb dX9_reserve_60 (by decide) ?_
    cases hf
    exact kr _ _ _ _ hw rfl dX9_reserve_64
theorem wX9_reserve_15 (C : sn_C p s m args meth c RX9 cX9_reserve 1 (some .int) D ct ad layM A) {σ : sn_S}  {o : (sn_S) ⊕ (sn_S)} (hf : BX9_reserve_15 σ = some o) (kc : ∀ v, o = .inl v → sn_At p l e rmX9_reserve s m args below meth c Q D ct ad layM A 1 v 15 [(0, .ref (ad 0))] []) (kx : ∀ v, o = .inr v → sn_At p l e rmX9_reserve s m args below meth c Q D ct ad layM A 1 v 46 [(0, .ref (ad 0))] []) : sn_At p l e rmX9_reserve s m args below meth c Q D ct ad layM A 1 σ 15 [(0, .ref (ad 0))] [] := by
  intro H locs ls hw hl
  have hx := C.1
  have hb := C.2.1
  unfold BX9_reserve_15 at hf
  refine lv_aload_n hx hb dX9_reserve_15 rfl (lv_at hl 0 rfl) ?_
  refine sn_getI C hw fd_RX9_246 layM_0 rfl dX9_reserve_16 ?_
  refine lv_sipush (v := 1000) hx hb dX9_reserve_19 (by decide) ?_
  refine lv_icmp_ge (tgt := 46) hx hb dX9_reserve_22 (by decide) (fun c_1 => ?_) (fun c_1 => ?_)
  · have hf := sn_if c_1 hf
    cases hf
    exact kx _ rfl _ _ _ hw (lv_sub hl [0] rfl)
  · have hf := sn_el c_1 hf
    refine lv_aload_n hx hb dX9_reserve_25 rfl (lv_at hl 0 rfl) ?_
    obtain ⟨t_2, h_3, hf⟩ := sn_bd hf
    refine sn_callVi (rest := []) C hw (ctX9_ruinOf l  h_3) kl_RX9_329 layM_0 rfl rfl rfl rfl (Nat.le_of_ble_eq_true rfl) dX9_reserve_26 hl.1 (fun H locs hw => ?_)
    refine lv_iconst (v := (-1)) hx hb dX9_reserve_29 rfl ?_
    refine lv_icmp_eq (tgt := 46) hx hb dX9_reserve_30 (by decide) (fun c_4 => ?_) (fun c_4 => ?_)
    · have hf := sn_if c_4 hf
      cases hf
      exact kx _ rfl _ _ _ hw (lv_sub hl [0] rfl)
    · have hf := sn_el c_4 hf
      refine lv_aload_n hx hb dX9_reserve_33 rfl (lv_at hl 0 rfl) ?_
      refine lv_dup hx hb dX9_reserve_34 rfl ?_
      refine sn_getI C hw fd_RX9_246 layM_0 rfl dX9_reserve_35 ?_
      refine lv_iconst (v := 1) hx hb dX9_reserve_38 rfl ?_
      refine lv_iadd hx hb dX9_reserve_39 ?_
      refine sn_putI C hw fp_RX9_246 layM_0 rfl dX9_reserve_40 (fun H locs hw => ?_)
      obtain ⟨σ_5, e_6, hf⟩ := sn_ltE hf
      rw [← e_6] at hw
      refine lv_goto (tgt := 15) hx hb dX9_reserve_43 (by decide) ?_
      cases hf
      exact kc _ rfl _ _ _ hw (lv_sub hl [0] rfl)
theorem wX9_reserve_L15 (C : sn_C p s m args meth c RX9 cX9_reserve 1 (some .int) D ct ad layM A)    {z : sn_S} {t : sn_S} (h : sn_it (LX9_reserve_15 ) 5000 z = some t) (kx : ∀ v, t = v → sn_At p l e rmX9_reserve s m args below meth c Q D ct ad layM A 1 v 46 [(0, .ref (ad 0))] []) : sn_At p l e rmX9_reserve s m args below meth c Q D ct ad layM A 1 z 15 [(0, .ref (ad 0))] [] :=
  sn_loop (f := LX9_reserve_15 ) (G := fun z => sn_At p l e rmX9_reserve s m args below meth c Q D ct ad layM A 1 z 15 [(0, .ref (ad 0))] []) (E := fun t => (∀ v, t = v → sn_At p l e rmX9_reserve s m args below meth c Q D ct ad layM A 1 v 46 [(0, .ref (ad 0))] []) ∧ True) (fun z o hf k1 k2 => wX9_reserve_15 C  hf (fun v e => k1 v e) (fun v e => (k2 _ e).1 v rfl)) 5000 z t h ⟨kx, trivial⟩
theorem wX9_reserve_in (C : sn_C p s m args meth c RX9 cX9_reserve 1 (some .int) D ct ad layM A) {σ : sn_S}  {o : (Int32 × sn_S)} (hf : fX9_reserve σ = some o) (kr : sn_Kr p l e rmX9_reserve s m args below meth c Q D ct ad layM A cX9_reserve .ireturn (true) o.2 [.int o.1]) : sn_At p l e rmX9_reserve s m args below meth c Q D ct ad layM A 1 σ 0 [(0, .ref (ad 0))] [] := by
  intro H locs ls hw hl
  have hx := C.1
  have hb := C.2.1
  unfold fX9_reserve at hf
  refine lv_aload_n hx hb dX9_reserve_0 rfl (lv_at hl 0 rfl) ?_
  obtain ⟨t_1, h_2, hf⟩ := sn_bd hf
  refine sn_callVi (rest := []) C hw (ctX9_asksHouse l  h_2) kl_RX9_272 layM_0 rfl rfl rfl rfl (Nat.le_of_ble_eq_true rfl) dX9_reserve_1 hl.1 (fun H locs hw => ?_)
  refine lv_if_ne (tgt := 10) hx hb dX9_reserve_4 (by decide) (fun c_3 => ?_) (fun c_3 => ?_)
  · have hf := sn_el c_3 hf
    refine lv_aload_n hx hb dX9_reserve_10 rfl (lv_at hl 0 rfl) ?_
    refine lv_iconst (v := 0) hx hb dX9_reserve_11 rfl ?_
    refine sn_putI C hw fp_RX9_246 layM_0 rfl dX9_reserve_12 (fun H locs hw => ?_)
    obtain ⟨σ_4, e_5, hf⟩ := sn_ltE hf
    rw [← e_5] at hw
    obtain ⟨t_6, h_7, hf⟩ := sn_bd hf
    exact wX9_reserve_L15 C  h_7 (fun v e => by cases e; exact wX9_reserve_46 C  hf kr) _ _ _ hw (lv_sub hl [0] rfl)
  · have hf := sn_if c_3 hf
    refine lv_bipush (v := (-2)) hx hb dX9_reserve_7 (by decide) ?_
    cases hf
    exact kr _ _ _ _ hw rfl dX9_reserve_9
theorem ctX9_reserve (l : Launch) {σ : sn_S}  {o : (Int32 × sn_S)} (hf : fX9_reserve σ = some o) : sn_M l yX9_reserve cX9_reserve 1 (some .int) rmX9_reserve layM (fun ad => [.ref (ad 0)]) σ (some (fun _ => .int o.1)) o.2 :=
  sn_met (by decide) (fun _ => Nat.le_of_ble_eq_true rfl) (fun p e s m args below meth c ls D ct ad A C hw hl => wX9_reserve_in C  hf (fun H locs ls pc hw ok hd => sn_iret C hw hd) _ _ _ hw hl)
-- X9_byLaw
abbrev rmX9_byLaw : Room := { frames := 4, cells := 0, slots := 0, locals := 96 }
def fX9_byLaw (σ : sn_S) (x1 : Int32) : Option (Int32 × sn_S) :=
  (sn_lt (sn_pI σ 0 20 x1) fun σ_1 => ((fX9_layPaid σ_1).bind fun t_3 => ((fX9_moneyAt t_3 (sn_I t_3 0 22)).bind fun t_5 => (some (t_5, t_3)))))
theorem wX9_byLaw_in (C : sn_C p s m args meth c RX9 cX9_byLaw 2 (some .int) D ct ad layM A) {σ : sn_S} {x1 : Int32}  {o : (Int32 × sn_S)} (hf : fX9_byLaw σ x1 = some o) (kr : sn_Kr p l e rmX9_byLaw s m args below meth c Q D ct ad layM A cX9_byLaw .ireturn (true) o.2 [.int o.1]) : sn_At p l e rmX9_byLaw s m args below meth c Q D ct ad layM A 2 σ 0 [(0, .ref (ad 0)), (1, .int x1)] [] := by
  intro H locs ls hw hl
  have hx := C.1
  have hb := C.2.1
  unfold fX9_byLaw at hf
  refine lv_aload_n hx hb dX9_byLaw_0 rfl (lv_at hl 0 rfl) ?_
  refine lv_iload_n hx hb dX9_byLaw_1 rfl (lv_at hl 1 rfl) ?_
  refine sn_putI C hw fp_RX9_243 layM_0 rfl dX9_byLaw_2 (fun H locs hw => ?_)
  obtain ⟨σ_1, e_2, hf⟩ := sn_ltE hf
  rw [← e_2] at hw
  refine lv_aload_n hx hb dX9_byLaw_5 rfl (lv_at hl 0 rfl) ?_
  obtain ⟨t_3, h_4, hf⟩ := sn_bd hf
  refine sn_callVv (rest := []) C hw (ctX9_layPaid l  h_4) kl_RX9_317 layM_0 rfl rfl rfl rfl (Nat.le_of_ble_eq_true rfl) dX9_byLaw_6 hl.1 (fun H locs hw => ?_)
  refine lv_aload_n hx hb dX9_byLaw_9 rfl (lv_at hl 0 rfl) ?_
  refine lv_aload_n hx hb dX9_byLaw_10 rfl (lv_at hl 0 rfl) ?_
  refine sn_getI C hw fd_RX9_251 layM_0 rfl dX9_byLaw_11 ?_
  obtain ⟨t_5, h_6, hf⟩ := sn_bd hf
  refine sn_callVi (rest := []) C hw (ctX9_moneyAt l  h_6) kl_RX9_320 layM_0 rfl rfl rfl rfl (Nat.le_of_ble_eq_true rfl) dX9_byLaw_14 hl.1 (fun H locs hw => ?_)
  cases hf
  exact kr _ _ _ _ hw rfl dX9_byLaw_17
theorem ctX9_byLaw (l : Launch) {σ : sn_S} {x1 : Int32}  {o : (Int32 × sn_S)} (hf : fX9_byLaw σ x1 = some o) : sn_M l yX9_byLaw cX9_byLaw 2 (some .int) rmX9_byLaw layM (fun ad => [.ref (ad 0), .int x1]) σ (some (fun _ => .int o.1)) o.2 :=
  sn_met (by decide) (fun _ => Nat.le_of_ble_eq_true rfl) (fun p e s m args below meth c ls D ct ad A C hw hl => wX9_byLaw_in C  hf (fun H locs ls pc hw ok hd => sn_iret C hw hd) _ _ _ hw hl)
-- X9_by
abbrev rmX9_by : Room := { frames := 5, cells := 0, slots := 0, locals := 117 }
def BX9_by_22 (σ : sn_S) : Option ((Int32 × sn_S)) :=
  (some ((-100000 : Int32), σ))
def fX9_by (σ : sn_S) (x1 : Int32) : Option (Int32 × sn_S) :=
  ((fX9_asksHouse σ).bind fun t_1 => (if t_1.1 = 0 then
  (BX9_by_22 t_1.2)
  else
  ((fX9_isLaw x1).bind fun t_4 => (if t_4 = 0 then
  (BX9_by_22 t_1.2)
  else
  ((fX9_byLaw t_1.2 x1).bind fun t_7 => (some (t_7.1, t_7.2)))))))
theorem wX9_by_22 (C : sn_C p s m args meth c RX9 cX9_by 2 (some .int) D ct ad layM A) {σ : sn_S}  {o : (Int32 × sn_S)} (hf : BX9_by_22 σ = some o) (kr : sn_Kr p l e rmX9_by s m args below meth c Q D ct ad layM A cX9_by .ireturn (true) o.2 [.int o.1]) : sn_At p l e rmX9_by s m args below meth c Q D ct ad layM A 2 σ 22 [] [] := by
  intro H locs ls hw hl
  have hx := C.1
  have hb := C.2.1
  unfold BX9_by_22 at hf
  refine lv_ldcw hx hb C.2.2.2.1 (C.2.2.2.2.1 _ kk_RX9_328) dX9_by_22 ?_
  cases hf
  exact kr _ _ _ _ hw rfl dX9_by_25
theorem wX9_by_in (C : sn_C p s m args meth c RX9 cX9_by 2 (some .int) D ct ad layM A) {σ : sn_S} {x1 : Int32}  {o : (Int32 × sn_S)} (hf : fX9_by σ x1 = some o) (kr : sn_Kr p l e rmX9_by s m args below meth c Q D ct ad layM A cX9_by .ireturn (true) o.2 [.int o.1]) : sn_At p l e rmX9_by s m args below meth c Q D ct ad layM A 2 σ 0 [(0, .ref (ad 0)), (1, .int x1)] [] := by
  intro H locs ls hw hl
  have hx := C.1
  have hb := C.2.1
  unfold fX9_by at hf
  refine lv_aload_n hx hb dX9_by_0 rfl (lv_at hl 0 rfl) ?_
  obtain ⟨t_1, h_2, hf⟩ := sn_bd hf
  refine sn_callVi (rest := []) C hw (ctX9_asksHouse l  h_2) kl_RX9_272 layM_0 rfl rfl rfl rfl (Nat.le_of_ble_eq_true rfl) dX9_by_1 hl.1 (fun H locs hw => ?_)
  refine lv_if_eq (tgt := 22) hx hb dX9_by_4 (by decide) (fun c_3 => ?_) (fun c_3 => ?_)
  · have hf := sn_if c_3 hf
    exact wX9_by_22 C  hf kr _ _ _ hw (lv_sub hl [] rfl)
  · have hf := sn_el c_3 hf
    refine lv_iload_n hx hb dX9_by_7 rfl (lv_at hl 1 rfl) ?_
    obtain ⟨t_4, h_5, hf⟩ := sn_bd hf
    refine sn_callSi (rest := []) C hw (ctX9_isLaw l  h_5) kl_RX9_335 rfl rfl rfl (Nat.le_of_ble_eq_true rfl) dX9_by_8 hl.1 (fun H locs hw => ?_)
    refine lv_if_eq (tgt := 22) hx hb dX9_by_11 (by decide) (fun c_6 => ?_) (fun c_6 => ?_)
    · have hf := sn_if c_6 hf
      exact wX9_by_22 C  hf kr _ _ _ hw (lv_sub hl [] rfl)
    · have hf := sn_el c_6 hf
      refine lv_aload_n hx hb dX9_by_14 rfl (lv_at hl 0 rfl) ?_
      refine lv_iload_n hx hb dX9_by_15 rfl (lv_at hl 1 rfl) ?_
      obtain ⟨t_7, h_8, hf⟩ := sn_bd hf
      refine sn_callVi (rest := []) C hw (ctX9_byLaw l  h_8) kl_RX9_338 layM_0 rfl rfl rfl rfl (Nat.le_of_ble_eq_true rfl) dX9_by_16 hl.1 (fun H locs hw => ?_)
      refine lv_goto (tgt := 25) hx hb dX9_by_19 (by decide) ?_
      cases hf
      exact kr _ _ _ _ hw rfl dX9_by_25
theorem ctX9_by (l : Launch) {σ : sn_S} {x1 : Int32}  {o : (Int32 × sn_S)} (hf : fX9_by σ x1 = some o) : sn_M l yX9_by cX9_by 2 (some .int) rmX9_by layM (fun ad => [.ref (ad 0), .int x1]) σ (some (fun _ => .int o.1)) o.2 :=
  sn_met (by decide) (fun _ => Nat.le_of_ble_eq_true rfl) (fun p e s m args below meth c ls D ct ad A C hw hl => wX9_by_in C  hf (fun H locs ls pc hw ok hd => sn_iret C hw hd) _ _ _ hw hl)
end
end
