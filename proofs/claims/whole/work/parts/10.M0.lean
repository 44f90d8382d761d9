section
variable {p : Program} {l : Launch} {e : Env} {s : State} {m : MethodId} {args : Array Value} {below : List Frame} {meth : Method} {c : Code} {Q : State → Prop} {D : va_G} {ct : Nat → ClassId} {ad : Nat → Nat}
-- X9_in
abbrev rmX9_in : Room := { frames := 0, cells := 0, slots := 0, locals := 0 }
def fX9_in (x0 : Int64) (x2 : Int64) (x4 : Int64) : Option Int32 :=
  (if (lg_cmp x0 x2) < 0 then
  (sn_gd (sn_b01 (0 : Int32)) (some (0 : Int32)))
  else
  (if 0 < (lg_cmp x0 x4) then
  (sn_gd (sn_b01 (0 : Int32)) (some (0 : Int32)))
  else
  (sn_gd (sn_b01 (1 : Int32)) (some (1 : Int32)))))
theorem wX9_in_in (C : sn_C p s m args meth c RX9 cX9_in 6 (some .boolean) D ct ad layM) {σ : sn_S} {x0 : Int64} {x2 : Int64} {x4 : Int64}  {o : Int32} (hf : fX9_in x0 x2 x4 = some o) (kr : sn_Kr p l e rmX9_in s m args below meth c Q D ct ad layM cX9_in .ireturn (sn_b01 o) σ [.int o]) : sn_At p l e rmX9_in s m args below meth c Q D ct ad layM 6 σ 0 [(0, .long x0), (2, .long x2), (4, .long x4)] [] := by
  intro H locs ls hw hl
  have hx := C.1
  have hb := C.2.1
  unfold fX9_in at hf
  refine lv_lload_n hx hb dX9_in_0 rfl (lv_at hl 0 rfl) ?_
  refine lv_lload_n hx hb dX9_in_1 rfl (lv_at hl 1 rfl) ?_
  refine W.lcmp hx hb dX9_in_2 ?_
  refine lv_if_lt (tgt := 17) hx hb dX9_in_3 (by decide) (fun c_1 => ?_) (fun c_1 => ?_)
  · have hf := sn_if c_1 hf
    refine lv_iconst (v := 0) hx hb dX9_in_17 rfl ?_
    obtain ⟨g_2, hf⟩ := sn_gdE hf
    cases hf
    exact kr _ _ _ _ hw g_2 dX9_in_18
  · have hf := sn_el c_1 hf
    refine lv_lload_n hx hb dX9_in_6 rfl (lv_at hl 0 rfl) ?_
    refine lv_lload hx hb dX9_in_7 (lv_at hl 2 rfl) ?_
    refine W.lcmp hx hb dX9_in_9 ?_
    refine lv_if_gt (tgt := 17) hx hb dX9_in_10 (by decide) (fun c_3 => ?_) (fun c_3 => ?_)
    · have hf := sn_if c_3 hf
      refine lv_iconst (v := 0) hx hb dX9_in_17 rfl ?_
      obtain ⟨g_4, hf⟩ := sn_gdE hf
      cases hf
      exact kr _ _ _ _ hw g_4 dX9_in_18
    · have hf := sn_el c_3 hf
      refine lv_iconst (v := 1) hx hb dX9_in_13 rfl ?_
      refine lv_goto (tgt := 18) hx hb dX9_in_14 (by decide) ?_
      obtain ⟨g_5, hf⟩ := sn_gdE hf
      cases hf
      exact kr _ _ _ _ hw g_5 dX9_in_18
theorem ctX9_in (l : Launch) {σ : sn_S} {x0 : Int64} {x2 : Int64} {x4 : Int64}  {o : Int32} (hf : fX9_in x0 x2 x4 = some o) : sn_M l yX9_in cX9_in 6 (some .boolean) rmX9_in layM (fun ad => [.long x0, .long x2, .long x4]) σ (some (fun _ => .int o)) σ :=
  sn_met (by decide) (fun _ => Nat.le_of_ble_eq_true rfl) (fun p e s m args below meth c ls D ct ad C hw hl => wX9_in_in C  hf (fun H locs ls pc hw ok hd => sn_zret C hw ok hd) _ _ _ hw hl)
-- X9_bits
abbrev rmX9_bits : Room := { frames := 0, cells := 0, slots := 0, locals := 0 }
def BX9_bits_24 (x1 : Int32) : Option (Int32) :=
  (some x1)
def BX9_bits_4 (x0 : Int32) (x1 : Int32) (x2 : Int32) : Option ((Int32 × Int32) ⊕ (Int32)) :=
  (if (30 : Int32) ≤ x2 then
  (some (.inr (x1)))
  else
  (sn_lt (x1 + ((x0 >>> (x2 &&& 31)) &&& (1 : Int32))) fun y_2 => (sn_lt (x2 + 1) fun y_4 => (some (.inl (y_2, y_4))))))
def LX9_bits_4 (x0 : Int32) (s : Int32 × Int32) : Option ((Int32 × Int32) ⊕ (Int32)) := BX9_bits_4 x0 s.1 s.2
def fX9_bits (x0 : Int32) : Option Int32 :=
  ((sn_it (LX9_bits_4 x0) 5000 ((0 : Int32), (0 : Int32))).bind fun t_1 => (BX9_bits_24 t_1))
theorem wX9_bits_24 (C : sn_C p s m args meth c RX9 cX9_bits 3 (some .int) D ct ad layM) {σ : sn_S} {x1 : Int32}  {o : Int32} (hf : BX9_bits_24 x1 = some o) (kr : sn_Kr p l e rmX9_bits s m args below meth c Q D ct ad layM cX9_bits .ireturn (true) σ [.int o]) : sn_At p l e rmX9_bits s m args below meth c Q D ct ad layM 3 σ 24 [(1, .int x1)] [] := by
  intro H locs ls hw hl
  have hx := C.1
  have hb := C.2.1
  unfold BX9_bits_24 at hf
  refine lv_iload_n hx hb dX9_bits_24 rfl (lv_at hl 0 rfl) ?_
  cases hf
  exact kr _ _ _ _ hw rfl dX9_bits_25
theorem wX9_bits_4 (C : sn_C p s m args meth c RX9 cX9_bits 3 (some .int) D ct ad layM) {σ : sn_S} {x0 : Int32} {x1 : Int32} {x2 : Int32}  {o : (Int32 × Int32) ⊕ (Int32)} (hf : BX9_bits_4 x0 x1 x2 = some o) (kc : ∀ v, o = .inl v → sn_At p l e rmX9_bits s m args below meth c Q D ct ad layM 3 σ 4 [(0, .int x0), (1, .int v.1), (2, .int v.2)] []) (kx : ∀ v, o = .inr v → sn_At p l e rmX9_bits s m args below meth c Q D ct ad layM 3 σ 24 [(1, .int v)] []) : sn_At p l e rmX9_bits s m args below meth c Q D ct ad layM 3 σ 4 [(0, .int x0), (1, .int x1), (2, .int x2)] [] := by
  intro H locs ls hw hl
  have hx := C.1
  have hb := C.2.1
  unfold BX9_bits_4 at hf
  refine lv_iload_n hx hb dX9_bits_4 rfl (lv_at hl 2 rfl) ?_
  refine lv_bipush (v := 30) hx hb dX9_bits_5 (by decide) ?_
  refine lv_icmp_ge (tgt := 24) hx hb dX9_bits_7 (by decide) (fun c_1 => ?_) (fun c_1 => ?_)
  · have hf := sn_if c_1 hf
    cases hf
    exact kx _ rfl _ _ _ hw (lv_sub hl [1] rfl)
  · have hf := sn_el c_1 hf
    refine lv_iload_n hx hb dX9_bits_10 rfl (lv_at hl 1 rfl) ?_
    refine lv_iload_n hx hb dX9_bits_11 rfl (lv_at hl 0 rfl) ?_
    refine lv_iload_n hx hb dX9_bits_12 rfl (lv_at hl 2 rfl) ?_
    refine lv_ishr hx hb dX9_bits_13 ?_
    refine lv_iconst (v := 1) hx hb dX9_bits_14 rfl ?_
    refine lv_iand hx hb dX9_bits_15 ?_
    refine lv_iadd hx hb dX9_bits_16 ?_
    obtain ⟨y_2, e_3, hf⟩ := sn_ltE hf
    refine lv_topi (fun y_2_ e_3_ => ?_)
    obtain rfl : y_2 = y_2_ := e_3.trans e_3_.symm
    refine lv_istore_n (lv' := [(1, .int y_2), (0, .int x0), (2, .int x2)]) hx hb dX9_bits_17 rfl hl (by decide) rfl (fun ls hl => ?_)
    obtain ⟨y_4, e_5, hf⟩ := sn_ltE hf
    refine lv_iinc (v := y_4) (lv' := [(2, .int y_4), (1, .int y_2), (0, .int x0)]) hx hb dX9_bits_18 hl (k := 2) rfl (by rw [e_5]; rfl) (by decide) rfl (fun ls hl => ?_)
    refine lv_goto (tgt := 4) hx hb dX9_bits_21 (by decide) ?_
    cases hf
    exact kc _ rfl _ _ _ hw (lv_sub hl [2, 1, 0] rfl)
theorem wX9_bits_L4 (C : sn_C p s m args meth c RX9 cX9_bits 3 (some .int) D ct ad layM) {σ : sn_S} {x0 : Int32}   {z : Int32 × Int32} {t : Int32} (h : sn_it (LX9_bits_4 x0) 5000 z = some t) (kx : ∀ v, t = v → sn_At p l e rmX9_bits s m args below meth c Q D ct ad layM 3 σ 24 [(1, .int v)] []) : sn_At p l e rmX9_bits s m args below meth c Q D ct ad layM 3 σ 4 [(0, .int x0), (1, .int z.1), (2, .int z.2)] [] :=
  sn_loop (f := LX9_bits_4 x0) (G := fun z => sn_At p l e rmX9_bits s m args below meth c Q D ct ad layM 3 σ 4 [(0, .int x0), (1, .int z.1), (2, .int z.2)] []) (E := fun t => (∀ v, t = v → sn_At p l e rmX9_bits s m args below meth c Q D ct ad layM 3 σ 24 [(1, .int v)] []) ∧ True) (fun z o hf k1 k2 => wX9_bits_4 C  hf (fun v e => k1 v e) (fun v e => (k2 _ e).1 v rfl)) 5000 z t h ⟨kx, trivial⟩
theorem wX9_bits_in (C : sn_C p s m args meth c RX9 cX9_bits 3 (some .int) D ct ad layM) {σ : sn_S} {x0 : Int32}  {o : Int32} (hf : fX9_bits x0 = some o) (kr : sn_Kr p l e rmX9_bits s m args below meth c Q D ct ad layM cX9_bits .ireturn (true) σ [.int o]) : sn_At p l e rmX9_bits s m args below meth c Q D ct ad layM 3 σ 0 [(0, .int x0)] [] := by
  intro H locs ls hw hl
  have hx := C.1
  have hb := C.2.1
  unfold fX9_bits at hf
  refine lv_iconst (v := 0) hx hb dX9_bits_0 rfl ?_
  refine lv_istore_n (lv' := [(1, .int (0 : Int32)), (0, .int x0)]) hx hb dX9_bits_1 rfl hl (by decide) rfl (fun ls hl => ?_)
  refine lv_iconst (v := 0) hx hb dX9_bits_2 rfl ?_
  refine lv_istore_n (lv' := [(2, .int (0 : Int32)), (1, .int (0 : Int32)), (0, .int x0)]) hx hb dX9_bits_3 rfl hl (by decide) rfl (fun ls hl => ?_)
  obtain ⟨t_1, h_2, hf⟩ := sn_bd hf
  exact wX9_bits_L4 C  h_2 (fun v e => by cases e; exact wX9_bits_24 C  hf kr) _ _ _ hw (lv_sub hl [2, 1, 0] rfl)
theorem ctX9_bits (l : Launch) {σ : sn_S} {x0 : Int32}  {o : Int32} (hf : fX9_bits x0 = some o) : sn_M l yX9_bits cX9_bits 3 (some .int) rmX9_bits layM (fun ad => [.int x0]) σ (some (fun _ => .int o)) σ :=
  sn_met (by decide) (fun _ => Nat.le_of_ble_eq_true rfl) (fun p e s m args below meth c ls D ct ad C hw hl => wX9_bits_in C  hf (fun H locs ls pc hw ok hd => sn_iret C hw hd) _ _ _ hw hl)
-- X9_bit
abbrev rmX9_bit : Room := { frames := 0, cells := 0, slots := 0, locals := 0 }
def fX9_bit (x0 : Int32) (x1 : Int32) : Option Int32 :=
  (some ((x0 >>> (x1 &&& 31)) &&& (1 : Int32)))
theorem wX9_bit_in (C : sn_C p s m args meth c RX9 cX9_bit 2 (some .int) D ct ad layM) {σ : sn_S} {x0 : Int32} {x1 : Int32}  {o : Int32} (hf : fX9_bit x0 x1 = some o) (kr : sn_Kr p l e rmX9_bit s m args below meth c Q D ct ad layM cX9_bit .ireturn (true) σ [.int o]) : sn_At p l e rmX9_bit s m args below meth c Q D ct ad layM 2 σ 0 [(0, .int x0), (1, .int x1)] [] := by
  intro H locs ls hw hl
  have hx := C.1
  have hb := C.2.1
  unfold fX9_bit at hf
  refine lv_iload_n hx hb dX9_bit_0 rfl (lv_at hl 0 rfl) ?_
  refine lv_iload_n hx hb dX9_bit_1 rfl (lv_at hl 1 rfl) ?_
  refine lv_ishr hx hb dX9_bit_2 ?_
  refine lv_iconst (v := 1) hx hb dX9_bit_3 rfl ?_
  refine lv_iand hx hb dX9_bit_4 ?_
  cases hf
  exact kr _ _ _ _ hw rfl dX9_bit_5
theorem ctX9_bit (l : Launch) {σ : sn_S} {x0 : Int32} {x1 : Int32}  {o : Int32} (hf : fX9_bit x0 x1 = some o) : sn_M l yX9_bit cX9_bit 2 (some .int) rmX9_bit layM (fun ad => [.int x0, .int x1]) σ (some (fun _ => .int o)) σ :=
  sn_met (by decide) (fun _ => Nat.le_of_ble_eq_true rfl) (fun p e s m args below meth c ls D ct ad C hw hl => wX9_bit_in C  hf (fun H locs ls pc hw ok hd => sn_iret C hw hd) _ _ _ hw hl)
-- X9_isPerson
abbrev rmX9_isPerson : Room := { frames := 1, cells := 0, slots := 0, locals := 25 }
def fX9_isPerson (σ : sn_S) (x1 : Int64) : Option Int32 :=
  (sn_gd (sn_in (5 : Int32) 119) ((fX9_in x1 (0 : Int64) (((sn_I σ 1 (5 : Int32).toNatClampNeg) - (1 : Int32)).toInt64)).bind fun t_2 => (sn_gd (sn_b01 t_2) (some t_2))))
theorem wX9_isPerson_in (C : sn_C p s m args meth c RX9 cX9_isPerson 3 (some .boolean) D ct ad layM) {σ : sn_S} {x1 : Int64}  {o : Int32} (hf : fX9_isPerson σ x1 = some o) (kr : sn_Kr p l e rmX9_isPerson s m args below meth c Q D ct ad layM cX9_isPerson .ireturn (sn_b01 o) σ [.int o]) : sn_At p l e rmX9_isPerson s m args below meth c Q D ct ad layM 3 σ 0 [(0, .ref (ad 0)), (1, .long x1)] [] := by
  intro H locs ls hw hl
  have hx := C.1
  have hb := C.2.1
  unfold fX9_isPerson at hf
  refine lv_lload_n hx hb dX9_isPerson_0 rfl (lv_at hl 1 rfl) ?_
  refine lv_lconst (v := 0) hx hb dX9_isPerson_1 rfl ?_
  refine lv_aload_n hx hb dX9_isPerson_2 rfl (lv_at hl 0 rfl) ?_
  refine sn_getC (r := 1) C hw fd_RX9_9 layM_0 rfl dX9_isPerson_3 ?_
  refine lv_iconst (v := 5) hx hb dX9_isPerson_6 rfl ?_
  obtain ⟨g_1, hf⟩ := sn_gdE hf
  refine sn_iald C hw layM_1 g_1 dX9_isPerson_7 ?_
  refine lv_iconst (v := 1) hx hb dX9_isPerson_8 rfl ?_
  refine lv_isub hx hb dX9_isPerson_9 ?_
  refine lv_i2l hx hb dX9_isPerson_10 rfl ?_
  obtain ⟨t_2, h_3, hf⟩ := sn_bd hf
  refine sn_callSi (rest := []) C hw (ctX9_in l  h_3) kl_RX9_94 rfl rfl rfl (Nat.le_of_ble_eq_true rfl) dX9_isPerson_11 hl.1 (fun H locs hw => ?_)
  obtain ⟨g_4, hf⟩ := sn_gdE hf
  cases hf
  exact kr _ _ _ _ hw g_4 dX9_isPerson_14
theorem ctX9_isPerson (l : Launch) {σ : sn_S} {x1 : Int64}  {o : Int32} (hf : fX9_isPerson σ x1 = some o) : sn_M l yX9_isPerson cX9_isPerson 3 (some .boolean) rmX9_isPerson layM (fun ad => [.ref (ad 0), .long x1]) σ (some (fun _ => .int o)) σ :=
  sn_met (by decide) (fun _ => Nat.le_of_ble_eq_true rfl) (fun p e s m args below meth c ls D ct ad C hw hl => wX9_isPerson_in C  hf (fun H locs ls pc hw ok hd => sn_zret C hw ok hd) _ _ _ hw hl)
-- X9_netsTo
abbrev rmX9_netsTo : Room := { frames := 1, cells := 0, slots := 0, locals := 21 }
def BX9_netsTo_97 (σ : sn_S) (x3 : Int32) : Option (Int32) :=
  (some x3)
def BX9_netsTo_91 (σ : sn_S) (x1 : Int32) (x2 : Int32) (x3 : Int32) (x4 : Int32) : Option ((Int32 × Int32) ⊕ (Int32)) :=
  (sn_lt (x4 + 1) fun y_1 => (some (.inl (x3, y_1))))
def BX9_netsTo_88 (σ : sn_S) (x1 : Int32) (x2 : Int32) (x3 : Int32) (x4 : Int32) : Option ((Int32 × Int32) ⊕ (Int32)) :=
  (sn_lt (x3 + 1) fun y_1 => (BX9_netsTo_91 σ x1 x2 y_1 x4))
def BX9_netsTo_72 (σ : sn_S) (x1 : Int32) (x2 : Int32) (x3 : Int32) (x4 : Int32) (x5 : Int32) (x6 : Int32) : Option ((Int32 × Int32) ⊕ (Int32)) :=
  (if x6 = x1 then
  ((fX9_bit x2 x5).bind fun t_2 => (if t_2 = (1 : Int32) then
  (BX9_netsTo_88 σ x1 x2 x3 x4)
  else
  (BX9_netsTo_91 σ x1 x2 x3 x4)))
  else
  (BX9_netsTo_91 σ x1 x2 x3 x4))
def BX9_netsTo_5 (σ : sn_S) (x1 : Int32) (x2 : Int32) (x3 : Int32) (x4 : Int32) : Option ((Int32 × Int32) ⊕ (Int32)) :=
  (sn_gd (sn_in (7 : Int32) 119) (if (sn_I σ 1 (7 : Int32).toNatClampNeg) ≤ x4 then
  (some (.inr (x3)))
  else
  (sn_gd (sn_in ((33 : Int32) + ((2 : Int32) * x4)) 119) (sn_lt (sn_I σ 1 ((33 : Int32) + ((2 : Int32) * x4)).toNatClampNeg) fun y_4 => (sn_gd (sn_in (((33 : Int32) + ((2 : Int32) * x4)) + (1 : Int32)) 119) (sn_lt (sn_I σ 1 (((33 : Int32) + ((2 : Int32) * x4)) + (1 : Int32)).toNatClampNeg) fun y_7 => (if x4 = (sn_I σ 0 19) then
  (BX9_netsTo_91 σ x1 x2 x3 x4)
  else
  (if y_4 = x1 then
  ((fX9_bit x2 y_7).bind fun t_11 => (if t_11 = (1 : Int32) then
  (BX9_netsTo_88 σ x1 x2 x3 x4)
  else
  (BX9_netsTo_72 σ x1 x2 x3 x4 y_4 y_7)))
  else
  (BX9_netsTo_72 σ x1 x2 x3 x4 y_4 y_7)))))))))
def LX9_netsTo_5 (σ : sn_S) (x1 : Int32) (x2 : Int32) (s : Int32 × Int32) : Option ((Int32 × Int32) ⊕ (Int32)) := BX9_netsTo_5 σ x1 x2 s.1 s.2
def fX9_netsTo (σ : sn_S) (x1 : Int32) (x2 : Int32) : Option Int32 :=
  ((sn_it (LX9_netsTo_5 σ x1 x2) 5000 ((0 : Int32), (0 : Int32))).bind fun t_1 => (BX9_netsTo_97 σ t_1))
theorem wX9_netsTo_97 (C : sn_C p s m args meth c RX9 cX9_netsTo 7 (some .int) D ct ad layM) {σ : sn_S} {x3 : Int32}  {o : Int32} (hf : BX9_netsTo_97 σ x3 = some o) (kr : sn_Kr p l e rmX9_netsTo s m args below meth c Q D ct ad layM cX9_netsTo .ireturn (true) σ [.int o]) : sn_At p l e rmX9_netsTo s m args below meth c Q D ct ad layM 7 σ 97 [(3, .int x3)] [] := by
  intro H locs ls hw hl
  have hx := C.1
  have hb := C.2.1
  unfold BX9_netsTo_97 at hf
  refine lv_iload_n hx hb dX9_netsTo_97 rfl (lv_at hl 0 rfl) ?_
  cases hf
  exact kr _ _ _ _ hw rfl dX9_netsTo_98
theorem wX9_netsTo_91 (C : sn_C p s m args meth c RX9 cX9_netsTo 7 (some .int) D ct ad layM) {σ : sn_S} {x1 : Int32} {x2 : Int32} {x3 : Int32} {x4 : Int32}  {o : (Int32 × Int32) ⊕ (Int32)} (hf : BX9_netsTo_91 σ x1 x2 x3 x4 = some o) (kc : ∀ v, o = .inl v → sn_At p l e rmX9_netsTo s m args below meth c Q D ct ad layM 7 σ 5 [(0, .ref (ad 0)), (1, .int x1), (2, .int x2), (3, .int v.1), (4, .int v.2)] []) (kx : ∀ v, o = .inr v → sn_At p l e rmX9_netsTo s m args below meth c Q D ct ad layM 7 σ 97 [(3, .int v)] []) : sn_At p l e rmX9_netsTo s m args below meth c Q D ct ad layM 7 σ 91 [(0, .ref (ad 0)), (1, .int x1), (2, .int x2), (3, .int x3), (4, .int x4)] [] := by
  intro H locs ls hw hl
  have hx := C.1
  have hb := C.2.1
  unfold BX9_netsTo_91 at hf
  obtain ⟨y_1, e_2, hf⟩ := sn_ltE hf
  refine lv_iinc (v := y_1) (lv' := [(4, .int y_1), (0, .ref (ad 0)), (1, .int x1), (2, .int x2), (3, .int x3)]) hx hb dX9_netsTo_91 hl (k := 4) rfl (by rw [e_2]; rfl) (by decide) rfl (fun ls hl => ?_)
  refine lv_goto (tgt := 5) hx hb dX9_netsTo_94 (by decide) ?_
  cases hf
  exact kc _ rfl _ _ _ hw (lv_sub hl [1, 2, 3, 4, 0] rfl)
theorem wX9_netsTo_88 (C : sn_C p s m args meth c RX9 cX9_netsTo 7 (some .int) D ct ad layM) {σ : sn_S} {x1 : Int32} {x2 : Int32} {x3 : Int32} {x4 : Int32}  {o : (Int32 × Int32) ⊕ (Int32)} (hf : BX9_netsTo_88 σ x1 x2 x3 x4 = some o) (kc : ∀ v, o = .inl v → sn_At p l e rmX9_netsTo s m args below meth c Q D ct ad layM 7 σ 5 [(0, .ref (ad 0)), (1, .int x1), (2, .int x2), (3, .int v.1), (4, .int v.2)] []) (kx : ∀ v, o = .inr v → sn_At p l e rmX9_netsTo s m args below meth c Q D ct ad layM 7 σ 97 [(3, .int v)] []) : sn_At p l e rmX9_netsTo s m args below meth c Q D ct ad layM 7 σ 88 [(0, .ref (ad 0)), (1, .int x1), (2, .int x2), (3, .int x3), (4, .int x4)] [] := by
  intro H locs ls hw hl
  have hx := C.1
  have hb := C.2.1
  unfold BX9_netsTo_88 at hf
  obtain ⟨y_1, e_2, hf⟩ := sn_ltE hf
  refine lv_iinc (v := y_1) (lv' := [(3, .int y_1), (0, .ref (ad 0)), (1, .int x1), (2, .int x2), (4, .int x4)]) hx hb dX9_netsTo_88 hl (k := 3) rfl (by rw [e_2]; rfl) (by decide) rfl (fun ls hl => ?_)
  exact wX9_netsTo_91 C  hf kc kx _ _ _ hw (lv_sub hl [1, 2, 3, 0, 4] rfl)
theorem wX9_netsTo_72 (C : sn_C p s m args meth c RX9 cX9_netsTo 7 (some .int) D ct ad layM) {σ : sn_S} {x1 : Int32} {x2 : Int32} {x3 : Int32} {x4 : Int32} {x5 : Int32} {x6 : Int32}  {o : (Int32 × Int32) ⊕ (Int32)} (hf : BX9_netsTo_72 σ x1 x2 x3 x4 x5 x6 = some o) (kc : ∀ v, o = .inl v → sn_At p l e rmX9_netsTo s m args below meth c Q D ct ad layM 7 σ 5 [(0, .ref (ad 0)), (1, .int x1), (2, .int x2), (3, .int v.1), (4, .int v.2)] []) (kx : ∀ v, o = .inr v → sn_At p l e rmX9_netsTo s m args below meth c Q D ct ad layM 7 σ 97 [(3, .int v)] []) : sn_At p l e rmX9_netsTo s m args below meth c Q D ct ad layM 7 σ 72 [(0, .ref (ad 0)), (1, .int x1), (2, .int x2), (3, .int x3), (4, .int x4), (5, .int x5), (6, .int x6)] [] := by
  intro H locs ls hw hl
  have hx := C.1
  have hb := C.2.1
  unfold BX9_netsTo_72 at hf
  refine lv_iload hx hb dX9_netsTo_72 (lv_at hl 6 rfl) ?_
  refine lv_iload_n hx hb dX9_netsTo_74 rfl (lv_at hl 1 rfl) ?_
  refine lv_icmp_ne (tgt := 91) hx hb dX9_netsTo_75 (by decide) (fun c_1 => ?_) (fun c_1 => ?_)
  · have hf := sn_el c_1 hf
    exact wX9_netsTo_91 C  hf kc kx _ _ _ hw (lv_sub hl [0, 1, 2, 3, 4] rfl)
  · have hf := sn_if c_1 hf
    refine lv_iload_n hx hb dX9_netsTo_78 rfl (lv_at hl 2 rfl) ?_
    refine lv_iload hx hb dX9_netsTo_79 (lv_at hl 5 rfl) ?_
    obtain ⟨t_2, h_3, hf⟩ := sn_bd hf
    refine sn_callSi (rest := []) C hw (ctX9_bit l  h_3) kl_RX9_254 rfl rfl rfl (Nat.le_of_ble_eq_true rfl) dX9_netsTo_81 hl.1 (fun H locs hw => ?_)
    refine lv_iconst (v := 1) hx hb dX9_netsTo_84 rfl ?_
    refine lv_icmp_ne (tgt := 91) hx hb dX9_netsTo_85 (by decide) (fun c_4 => ?_) (fun c_4 => ?_)
    · have hf := sn_el c_4 hf
      exact wX9_netsTo_91 C  hf kc kx _ _ _ hw (lv_sub hl [0, 1, 2, 3, 4] rfl)
    · have hf := sn_if c_4 hf
      exact wX9_netsTo_88 C  hf kc kx _ _ _ hw (lv_sub hl [0, 1, 2, 3, 4] rfl)
theorem wX9_netsTo_5 (C : sn_C p s m args meth c RX9 cX9_netsTo 7 (some .int) D ct ad layM) {σ : sn_S} {x1 : Int32} {x2 : Int32} {x3 : Int32} {x4 : Int32}  {o : (Int32 × Int32) ⊕ (Int32)} (hf : BX9_netsTo_5 σ x1 x2 x3 x4 = some o) (kc : ∀ v, o = .inl v → sn_At p l e rmX9_netsTo s m args below meth c Q D ct ad layM 7 σ 5 [(0, .ref (ad 0)), (1, .int x1), (2, .int x2), (3, .int v.1), (4, .int v.2)] []) (kx : ∀ v, o = .inr v → sn_At p l e rmX9_netsTo s m args below meth c Q D ct ad layM 7 σ 97 [(3, .int v)] []) : sn_At p l e rmX9_netsTo s m args below meth c Q D ct ad layM 7 σ 5 [(0, .ref (ad 0)), (1, .int x1), (2, .int x2), (3, .int x3), (4, .int x4)] [] := by
  intro H locs ls hw hl
  have hx := C.1
  have hb := C.2.1
  unfold BX9_netsTo_5 at hf
  refine lv_iload hx hb dX9_netsTo_5 (lv_at hl 4 rfl) ?_
  refine lv_aload_n hx hb dX9_netsTo_7 rfl (lv_at hl 0 rfl) ?_
  refine sn_getC (r := 1) C hw fd_RX9_9 layM_0 rfl dX9_netsTo_8 ?_
  refine lv_bipush (v := 7) hx hb dX9_netsTo_11 (by decide) ?_
  obtain ⟨g_1, hf⟩ := sn_gdE hf
  refine sn_iald C hw layM_1 g_1 dX9_netsTo_13 ?_
  refine lv_icmp_ge (tgt := 97) hx hb dX9_netsTo_14 (by decide) (fun c_2 => ?_) (fun c_2 => ?_)
  · have hf := sn_if c_2 hf
    cases hf
    exact kx _ rfl _ _ _ hw (lv_sub hl [3] rfl)
  · have hf := sn_el c_2 hf
    refine lv_aload_n hx hb dX9_netsTo_17 rfl (lv_at hl 0 rfl) ?_
    refine sn_getC (r := 1) C hw fd_RX9_9 layM_0 rfl dX9_netsTo_18 ?_
    refine lv_bipush (v := 33) hx hb dX9_netsTo_21 (by decide) ?_
    refine lv_iconst (v := 2) hx hb dX9_netsTo_23 rfl ?_
    refine lv_iload hx hb dX9_netsTo_24 (lv_at hl 4 rfl) ?_
    refine lv_imul hx hb dX9_netsTo_26 ?_
    refine lv_iadd hx hb dX9_netsTo_27 ?_
    obtain ⟨g_3, hf⟩ := sn_gdE hf
    refine sn_iald C hw layM_1 g_3 dX9_netsTo_28 ?_
    obtain ⟨y_4, e_5, hf⟩ := sn_ltE hf
    refine lv_topi (fun y_4_ e_5_ => ?_)
    obtain rfl : y_4 = y_4_ := e_5.trans e_5_.symm
    refine lv_istore (lv' := [(5, .int y_4), (0, .ref (ad 0)), (1, .int x1), (2, .int x2), (3, .int x3), (4, .int x4)]) hx hb dX9_netsTo_29 hl (by decide) rfl (fun ls hl => ?_)
    refine lv_aload_n hx hb dX9_netsTo_31 rfl (lv_at hl 1 rfl) ?_
    refine sn_getC (r := 1) C hw fd_RX9_9 layM_0 rfl dX9_netsTo_32 ?_
    refine lv_bipush (v := 33) hx hb dX9_netsTo_35 (by decide) ?_
    refine lv_iconst (v := 2) hx hb dX9_netsTo_37 rfl ?_
    refine lv_iload hx hb dX9_netsTo_38 (lv_at hl 5 rfl) ?_
    refine lv_imul hx hb dX9_netsTo_40 ?_
    refine lv_iadd hx hb dX9_netsTo_41 ?_
    refine lv_iconst (v := 1) hx hb dX9_netsTo_42 rfl ?_
    refine lv_iadd hx hb dX9_netsTo_43 ?_
    obtain ⟨g_6, hf⟩ := sn_gdE hf
    refine sn_iald C hw layM_1 g_6 dX9_netsTo_44 ?_
    obtain ⟨y_7, e_8, hf⟩ := sn_ltE hf
    refine lv_topi (fun y_7_ e_8_ => ?_)
    obtain rfl : y_7 = y_7_ := e_8.trans e_8_.symm
    refine lv_istore (lv' := [(6, .int y_7), (5, .int y_4), (0, .ref (ad 0)), (1, .int x1), (2, .int x2), (3, .int x3), (4, .int x4)]) hx hb dX9_netsTo_45 hl (by decide) rfl (fun ls hl => ?_)
    refine lv_iload hx hb dX9_netsTo_47 (lv_at hl 6 rfl) ?_
    refine lv_aload_n hx hb dX9_netsTo_49 rfl (lv_at hl 2 rfl) ?_
    refine sn_getI C hw fd_RX9_240 layM_0 rfl dX9_netsTo_50 ?_
    refine lv_icmp_eq (tgt := 91) hx hb dX9_netsTo_53 (by decide) (fun c_9 => ?_) (fun c_9 => ?_)
    · have hf := sn_if c_9 hf
      exact wX9_netsTo_91 C  hf kc kx _ _ _ hw (lv_sub hl [2, 3, 4, 5, 6] rfl)
    · have hf := sn_el c_9 hf
      refine lv_iload hx hb dX9_netsTo_56 (lv_at hl 1 rfl) ?_
      refine lv_iload_n hx hb dX9_netsTo_58 rfl (lv_at hl 3 rfl) ?_
      refine lv_icmp_ne (tgt := 72) hx hb dX9_netsTo_59 (by decide) (fun c_10 => ?_) (fun c_10 => ?_)
      · have hf := sn_el c_10 hf
        exact wX9_netsTo_72 C  hf kc kx _ _ _ hw (lv_sub hl [2, 3, 4, 5, 6, 1, 0] rfl)
      · have hf := sn_if c_10 hf
        refine lv_iload_n hx hb dX9_netsTo_62 rfl (lv_at hl 4 rfl) ?_
        refine lv_iload hx hb dX9_netsTo_63 (lv_at hl 0 rfl) ?_
        obtain ⟨t_11, h_12, hf⟩ := sn_bd hf
        refine sn_callSi (rest := []) C hw (ctX9_bit l  h_12) kl_RX9_254 rfl rfl rfl (Nat.le_of_ble_eq_true rfl) dX9_netsTo_65 hl.1 (fun H locs hw => ?_)
        refine lv_iconst (v := 1) hx hb dX9_netsTo_68 rfl ?_
        refine lv_icmp_eq (tgt := 88) hx hb dX9_netsTo_69 (by decide) (fun c_13 => ?_) (fun c_13 => ?_)
        · have hf := sn_if c_13 hf
          exact wX9_netsTo_88 C  hf kc kx _ _ _ hw (lv_sub hl [2, 3, 4, 5, 6] rfl)
        · have hf := sn_el c_13 hf
          exact wX9_netsTo_72 C  hf kc kx _ _ _ hw (lv_sub hl [2, 3, 4, 5, 6, 1, 0] rfl)
theorem wX9_netsTo_L5 (C : sn_C p s m args meth c RX9 cX9_netsTo 7 (some .int) D ct ad layM) {σ : sn_S} {x1 : Int32} {x2 : Int32}   {z : Int32 × Int32} {t : Int32} (h : sn_it (LX9_netsTo_5 σ x1 x2) 5000 z = some t) (kx : ∀ v, t = v → sn_At p l e rmX9_netsTo s m args below meth c Q D ct ad layM 7 σ 97 [(3, .int v)] []) : sn_At p l e rmX9_netsTo s m args below meth c Q D ct ad layM 7 σ 5 [(0, .ref (ad 0)), (1, .int x1), (2, .int x2), (3, .int z.1), (4, .int z.2)] [] :=
  sn_loop (f := LX9_netsTo_5 σ x1 x2) (G := fun z => sn_At p l e rmX9_netsTo s m args below meth c Q D ct ad layM 7 σ 5 [(0, .ref (ad 0)), (1, .int x1), (2, .int x2), (3, .int z.1), (4, .int z.2)] []) (E := fun t => (∀ v, t = v → sn_At p l e rmX9_netsTo s m args below meth c Q D ct ad layM 7 σ 97 [(3, .int v)] []) ∧ True) (fun z o hf k1 k2 => wX9_netsTo_5 C  hf (fun v e => k1 v e) (fun v e => (k2 _ e).1 v rfl)) 5000 z t h ⟨kx, trivial⟩
theorem wX9_netsTo_in (C : sn_C p s m args meth c RX9 cX9_netsTo 7 (some .int) D ct ad layM) {σ : sn_S} {x1 : Int32} {x2 : Int32}  {o : Int32} (hf : fX9_netsTo σ x1 x2 = some o) (kr : sn_Kr p l e rmX9_netsTo s m args below meth c Q D ct ad layM cX9_netsTo .ireturn (true) σ [.int o]) : sn_At p l e rmX9_netsTo s m args below meth c Q D ct ad layM 7 σ 0 [(0, .ref (ad 0)), (1, .int x1), (2, .int x2)] [] := by
  intro H locs ls hw hl
  have hx := C.1
  have hb := C.2.1
  unfold fX9_netsTo at hf
  refine lv_iconst (v := 0) hx hb dX9_netsTo_0 rfl ?_
  refine lv_istore_n (lv' := [(3, .int (0 : Int32)), (0, .ref (ad 0)), (1, .int x1), (2, .int x2)]) hx hb dX9_netsTo_1 rfl hl (by decide) rfl (fun ls hl => ?_)
  refine lv_iconst (v := 0) hx hb dX9_netsTo_2 rfl ?_
  refine lv_istore (lv' := [(4, .int (0 : Int32)), (3, .int (0 : Int32)), (0, .ref (ad 0)), (1, .int x1), (2, .int x2)]) hx hb dX9_netsTo_3 hl (by decide) rfl (fun ls hl => ?_)
  obtain ⟨t_1, h_2, hf⟩ := sn_bd hf
  exact wX9_netsTo_L5 C  h_2 (fun v e => by cases e; exact wX9_netsTo_97 C  hf kr) _ _ _ hw (lv_sub hl [2, 3, 4, 1, 0] rfl)
theorem ctX9_netsTo (l : Launch) {σ : sn_S} {x1 : Int32} {x2 : Int32}  {o : Int32} (hf : fX9_netsTo σ x1 x2 = some o) : sn_M l yX9_netsTo cX9_netsTo 7 (some .int) rmX9_netsTo layM (fun ad => [.ref (ad 0), .int x1, .int x2]) σ (some (fun _ => .int o)) σ :=
  sn_met (by decide) (fun _ => Nat.le_of_ble_eq_true rfl) (fun p e s m args below meth c ls D ct ad C hw hl => wX9_netsTo_in C  hf (fun H locs ls pc hw ok hd => sn_iret C hw hd) _ _ _ hw hl)
end
