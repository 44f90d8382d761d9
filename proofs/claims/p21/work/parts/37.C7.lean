section
variable {p : Program} {l : Launch} {e : Env} {s : State} {m : MethodId} {args : Array Value} {below : List Frame} {meth : Method} {c : Code} {Q : State → Prop} {D : va_G} {ct : Nat → ClassId} {ad : Nat → Nat} {A : Nat → Prop} {lay : List sn_E}
-- X8_claimAsIfOf
abbrev rmX8_claimAsIfOf : Room := { frames := 3, cells := 0, slots := 0, locals := 73 }
def fX8_claimAsIfOf (σ : sn_S) (x1 : Int32) (x2 : Int32) : Option Int32 :=
  (sn_gd (sn_in (2 : Int32) 11) (sn_gd (sn_in x1 6) (sn_gd (sn_in x1 6) ((fX3_claimBy σ 1 (sn_I σ (1 + 1) (2 : Int32).toNatClampNeg) x2 (sn_I σ (27 + 10) x1.toNatClampNeg) (sn_I σ (27 + 4) x1.toNatClampNeg)).bind fun t_4 => (some t_4)))))
theorem wX8_claimAsIfOf_in (C : sn_C p s m args meth c RX8 cX8_claimAsIfOf 3 (some .int) D ct ad layC A) {σ : sn_S} {x1 : Int32} {x2 : Int32}  {o : Int32} (hf : fX8_claimAsIfOf σ x1 x2 = some o) (kr : sn_Kr p l e rmX8_claimAsIfOf s m args below meth c Q D ct ad layC A cX8_claimAsIfOf .ireturn (true) σ [.int o]) : sn_At p l e rmX8_claimAsIfOf s m args below meth c Q D ct ad layC A 3 σ 0 [(0, .ref (ad 0)), (1, .int x1), (2, .int x2)] [] := by
  intro H locs ls hw hl
  have hx := C.1
  have hb := C.2.1
  unfold fX8_claimAsIfOf at hf
  refine lv_aload_n hx hb dX8_claimAsIfOf_0 rfl (lv_at hl 0 rfl) ?_
  refine sn_getC (r := 1) C hw fd_RX8_10 layC_0 rfl dX8_claimAsIfOf_1 ?_
  refine lv_aload_n hx hb dX8_claimAsIfOf_4 rfl (lv_at hl 0 rfl) ?_
  refine sn_getC (r := 1) C hw fd_RX8_10 layC_0 rfl dX8_claimAsIfOf_5 ?_
  refine sn_getC (r := (1 + 1)) C hw fd_RX8_100 (sn_look sn_isX2_1 (k := 0) rfl) rfl dX8_claimAsIfOf_8 ?_
  refine lv_iconst (v := 2) hx hb dX8_claimAsIfOf_11 rfl ?_
  obtain ⟨g_1, hf⟩ := sn_gdE hf
  refine sn_iald C hw (sn_look sn_isX2_1 (k := 1) rfl) g_1 dX8_claimAsIfOf_12 ?_
  refine lv_iload_n hx hb dX8_claimAsIfOf_13 rfl (lv_at hl 2 rfl) ?_
  refine lv_aload_n hx hb dX8_claimAsIfOf_14 rfl (lv_at hl 0 rfl) ?_
  refine sn_getC (r := 27) C hw fd_RX8_44 layC_0 rfl dX8_claimAsIfOf_15 ?_
  refine sn_getC (r := (27 + 10)) C hw fd_RX8_131 (sn_look sn_isX0_27 (k := 0) rfl) rfl dX8_claimAsIfOf_18 ?_
  refine lv_iload_n hx hb dX8_claimAsIfOf_21 rfl (lv_at hl 1 rfl) ?_
  obtain ⟨g_2, hf⟩ := sn_gdE hf
  refine sn_iald C hw (sn_look sn_isX0_27 (k := 10) rfl) g_2 dX8_claimAsIfOf_22 ?_
  refine lv_aload_n hx hb dX8_claimAsIfOf_23 rfl (lv_at hl 0 rfl) ?_
  refine sn_getC (r := 27) C hw fd_RX8_44 layC_0 rfl dX8_claimAsIfOf_24 ?_
  refine sn_getC (r := (27 + 4)) C hw fd_RX8_196 (sn_look sn_isX0_27 (k := 0) rfl) rfl dX8_claimAsIfOf_27 ?_
  refine lv_iload_n hx hb dX8_claimAsIfOf_30 rfl (lv_at hl 1 rfl) ?_
  obtain ⟨g_3, hf⟩ := sn_gdE hf
  refine sn_iald C hw (sn_look sn_isX0_27 (k := 4) rfl) g_3 dX8_claimAsIfOf_31 ?_
  obtain ⟨t_4, h_5, hf⟩ := sn_bd hf
  refine sn_callSi (rest := []) C hw (ctX3_claimBy l sn_isX2_1 h_5) kl_RX8_250 rfl rfl rfl (Nat.le_of_ble_eq_true rfl) dX8_claimAsIfOf_32 hl.1 (fun H locs hw => ?_)
  cases hf
  exact kr _ _ _ _ hw rfl dX8_claimAsIfOf_35
theorem ctX8_claimAsIfOf (l : Launch) {σ : sn_S} {x1 : Int32} {x2 : Int32}  {o : Int32} (hf : fX8_claimAsIfOf σ x1 x2 = some o) : sn_M l yX8_claimAsIfOf cX8_claimAsIfOf 3 (some .int) rmX8_claimAsIfOf layC (fun ad => [.ref (ad 0), .int x1, .int x2]) σ (some (fun _ => .int o)) σ :=
  sn_met (by decide) (fun _ => Nat.le_of_ble_eq_true rfl) (fun p e s m args below meth c ls D ct ad A C hw hl => wX8_claimAsIfOf_in C  hf (fun H locs ls pc hw ok hd => sn_iret C hw hd) _ _ _ hw hl)
-- X8_gainBy
abbrev rmX8_gainBy : Room := { frames := 4, cells := 0, slots := 0, locals := 95 }
def fX8_gainBy (σ : sn_S) (x1 : Int32) (x2 : Int32) : Option Int32 :=
  ((fX8_claimAsIfOf σ x1 x2).bind fun t_1 => ((fX2_ofPolicy σ 1 x2 (4 : Int32)).bind fun t_3 => (some (t_1 - t_3))))
theorem wX8_gainBy_in (C : sn_C p s m args meth c RX8 cX8_gainBy 3 (some .int) D ct ad layC A) {σ : sn_S} {x1 : Int32} {x2 : Int32}  {o : Int32} (hf : fX8_gainBy σ x1 x2 = some o) (kr : sn_Kr p l e rmX8_gainBy s m args below meth c Q D ct ad layC A cX8_gainBy .ireturn (true) σ [.int o]) : sn_At p l e rmX8_gainBy s m args below meth c Q D ct ad layC A 3 σ 0 [(0, .ref (ad 0)), (1, .int x1), (2, .int x2)] [] := by
  intro H locs ls hw hl
  have hx := C.1
  have hb := C.2.1
  unfold fX8_gainBy at hf
  refine lv_aload_n hx hb dX8_gainBy_0 rfl (lv_at hl 0 rfl) ?_
  refine lv_iload_n hx hb dX8_gainBy_1 rfl (lv_at hl 1 rfl) ?_
  refine lv_iload_n hx hb dX8_gainBy_2 rfl (lv_at hl 2 rfl) ?_
  obtain ⟨t_1, h_2, hf⟩ := sn_bd hf
  refine sn_callVi (rest := []) C hw (ctX8_claimAsIfOf l  h_2) kl_RX8_247 layC_0 rfl rfl rfl rfl (Nat.le_of_ble_eq_true rfl) dX8_gainBy_3 hl.1 (fun H locs hw => ?_)
  refine lv_aload_n hx hb dX8_gainBy_6 rfl (lv_at hl 0 rfl) ?_
  refine sn_getC (r := 1) C hw fd_RX8_10 layC_0 rfl dX8_gainBy_7 ?_
  refine lv_iload_n hx hb dX8_gainBy_10 rfl (lv_at hl 2 rfl) ?_
  refine lv_iconst (v := 4) hx hb dX8_gainBy_11 rfl ?_
  obtain ⟨t_3, h_4, hf⟩ := sn_bd hf
  refine sn_callVi (rest := [.int t_1]) C hw (ctX2_ofPolicy l sn_isX2_1 h_4) kl_RX8_117 (sn_look sn_isX2_1 (k := 0) rfl) rfl rfl rfl rfl (Nat.le_of_ble_eq_true rfl) dX8_gainBy_12 hl.1 (fun H locs hw => ?_)
  refine lv_isub hx hb dX8_gainBy_15 ?_
  cases hf
  exact kr _ _ _ _ hw rfl dX8_gainBy_16
theorem ctX8_gainBy (l : Launch) {σ : sn_S} {x1 : Int32} {x2 : Int32}  {o : Int32} (hf : fX8_gainBy σ x1 x2 = some o) : sn_M l yX8_gainBy cX8_gainBy 3 (some .int) rmX8_gainBy layC (fun ad => [.ref (ad 0), .int x1, .int x2]) σ (some (fun _ => .int o)) σ :=
  sn_met (by decide) (fun _ => Nat.le_of_ble_eq_true rfl) (fun p e s m args below meth c ls D ct ad A C hw hl => wX8_gainBy_in C  hf (fun H locs ls pc hw ok hd => sn_iret C hw hd) _ _ _ hw hl)
-- X8_bestOfMenu
abbrev rmX8_bestOfMenu : Room := { frames := 5, cells := 0, slots := 0, locals := 117 }
def BX8_bestOfMenu_49 (σ : sn_S) (x2 : Int32) : Option (Int32) :=
  (some x2)
def BX8_bestOfMenu_43 (σ : sn_S) (x1 : Int32) (x2 : Int32) (x3 : Int32) (x4 : Int32) : Option ((Int32 × Int32 × Int32) ⊕ (Int32)) :=
  (sn_lt (x4 + 1) fun y_1 => (some (.inl (x2, x3, y_1))))
def BX8_bestOfMenu_7 (σ : sn_S) (x1 : Int32) (x2 : Int32) (x3 : Int32) (x4 : Int32) : Option ((Int32 × Int32 × Int32) ⊕ (Int32)) :=
  (sn_gd (sn_in (8 : Int32) 11) (if (sn_I σ (1 + 1) (8 : Int32).toNatClampNeg) ≤ x4 then
  (some (.inr (x2)))
  else
  ((fX8_gainBy σ x1 x4).bind fun t_3 => (if t_3 ≤ x3 then
  (BX8_bestOfMenu_43 σ x1 x2 x3 x4)
  else
  (BX8_bestOfMenu_43 σ x1 x4 t_3 x4)))))
def LX8_bestOfMenu_7 (σ : sn_S) (x1 : Int32) (s : Int32 × Int32 × Int32) : Option ((Int32 × Int32 × Int32) ⊕ (Int32)) := BX8_bestOfMenu_7 σ x1 s.1 s.2.1 s.2.2
def fX8_bestOfMenu (σ : sn_S) (x1 : Int32) : Option Int32 :=
  ((sn_it (LX8_bestOfMenu_7 σ x1) 5000 ((-1 : Int32), (0 : Int32), (0 : Int32))).bind fun t_1 => (BX8_bestOfMenu_49 σ t_1))
theorem wX8_bestOfMenu_49 (C : sn_C p s m args meth c RX8 cX8_bestOfMenu 6 (some .int) D ct ad layC A) {σ : sn_S} {x2 : Int32}  {o : Int32} (hf : BX8_bestOfMenu_49 σ x2 = some o) (kr : sn_Kr p l e rmX8_bestOfMenu s m args below meth c Q D ct ad layC A cX8_bestOfMenu .ireturn (true) σ [.int o]) : sn_At p l e rmX8_bestOfMenu s m args below meth c Q D ct ad layC A 6 σ 49 [(2, .int x2)] [] := by
  intro H locs ls hw hl
  have hx := C.1
  have hb := C.2.1
  unfold BX8_bestOfMenu_49 at hf
  refine lv_iload_n hx hb dX8_bestOfMenu_49 rfl (lv_at hl 0 rfl) ?_
  cases hf
  exact kr _ _ _ _ hw rfl dX8_bestOfMenu_50
theorem wX8_bestOfMenu_43 (C : sn_C p s m args meth c RX8 cX8_bestOfMenu 6 (some .int) D ct ad layC A) {σ : sn_S} {x1 : Int32} {x2 : Int32} {x3 : Int32} {x4 : Int32}  {o : (Int32 × Int32 × Int32) ⊕ (Int32)} (hf : BX8_bestOfMenu_43 σ x1 x2 x3 x4 = some o) (kc : ∀ v, o = .inl v → sn_At p l e rmX8_bestOfMenu s m args below meth c Q D ct ad layC A 6 σ 7 [(0, .ref (ad 0)), (1, .int x1), (2, .int v.1), (3, .int v.2.1), (4, .int v.2.2)] []) (kx : ∀ v, o = .inr v → sn_At p l e rmX8_bestOfMenu s m args below meth c Q D ct ad layC A 6 σ 49 [(2, .int v)] []) : sn_At p l e rmX8_bestOfMenu s m args below meth c Q D ct ad layC A 6 σ 43 [(0, .ref (ad 0)), (1, .int x1), (2, .int x2), (3, .int x3), (4, .int x4)] [] := by
  intro H locs ls hw hl
  have hx := C.1
  have hb := C.2.1
  unfold BX8_bestOfMenu_43 at hf
  obtain ⟨y_1, e_2, hf⟩ := sn_ltE hf
  refine lv_iinc (v := y_1) (lv' := [(4, .int y_1), (0, .ref (ad 0)), (1, .int x1), (2, .int x2), (3, .int x3)]) hx hb dX8_bestOfMenu_43 hl (k := 4) rfl (by rw [e_2]; rfl) (by decide) rfl (fun ls hl => ?_)
  refine lv_goto (tgt := 7) hx hb dX8_bestOfMenu_46 (by decide) ?_
  cases hf
  exact kc _ rfl _ _ _ hw (lv_sub hl [1, 2, 3, 4, 0] rfl)
theorem wX8_bestOfMenu_7 (C : sn_C p s m args meth c RX8 cX8_bestOfMenu 6 (some .int) D ct ad layC A) {σ : sn_S} {x1 : Int32} {x2 : Int32} {x3 : Int32} {x4 : Int32}  {o : (Int32 × Int32 × Int32) ⊕ (Int32)} (hf : BX8_bestOfMenu_7 σ x1 x2 x3 x4 = some o) (kc : ∀ v, o = .inl v → sn_At p l e rmX8_bestOfMenu s m args below meth c Q D ct ad layC A 6 σ 7 [(0, .ref (ad 0)), (1, .int x1), (2, .int v.1), (3, .int v.2.1), (4, .int v.2.2)] []) (kx : ∀ v, o = .inr v → sn_At p l e rmX8_bestOfMenu s m args below meth c Q D ct ad layC A 6 σ 49 [(2, .int v)] []) : sn_At p l e rmX8_bestOfMenu s m args below meth c Q D ct ad layC A 6 σ 7 [(0, .ref (ad 0)), (1, .int x1), (2, .int x2), (3, .int x3), (4, .int x4)] [] := by
  intro H locs ls hw hl
  have hx := C.1
  have hb := C.2.1
  unfold BX8_bestOfMenu_7 at hf
  refine lv_iload hx hb dX8_bestOfMenu_7 (lv_at hl 4 rfl) ?_
  refine lv_aload_n hx hb dX8_bestOfMenu_9 rfl (lv_at hl 0 rfl) ?_
  refine sn_getC (r := 1) C hw fd_RX8_10 layC_0 rfl dX8_bestOfMenu_10 ?_
  refine sn_getC (r := (1 + 1)) C hw fd_RX8_100 (sn_look sn_isX2_1 (k := 0) rfl) rfl dX8_bestOfMenu_13 ?_
  refine lv_bipush (v := 8) hx hb dX8_bestOfMenu_16 (by decide) ?_
  obtain ⟨g_1, hf⟩ := sn_gdE hf
  refine sn_iald C hw (sn_look sn_isX2_1 (k := 1) rfl) g_1 dX8_bestOfMenu_18 ?_
  refine lv_icmp_ge (tgt := 49) hx hb dX8_bestOfMenu_19 (by decide) (fun c_2 => ?_) (fun c_2 => ?_)
  · have hf := sn_if c_2 hf
    cases hf
    exact kx _ rfl _ _ _ hw (lv_sub hl [2] rfl)
  · have hf := sn_el c_2 hf
    refine lv_aload_n hx hb dX8_bestOfMenu_22 rfl (lv_at hl 0 rfl) ?_
    refine lv_iload_n hx hb dX8_bestOfMenu_23 rfl (lv_at hl 1 rfl) ?_
    refine lv_iload hx hb dX8_bestOfMenu_24 (lv_at hl 4 rfl) ?_
    obtain ⟨t_3, h_4, hf⟩ := sn_bd hf
    refine sn_callVi (rest := []) C hw (ctX8_gainBy l  h_4) kl_RX8_241 layC_0 rfl rfl rfl rfl (Nat.le_of_ble_eq_true rfl) dX8_bestOfMenu_26 hl.1 (fun H locs hw => ?_)
    refine lv_istore (lv' := [(5, .int t_3), (0, .ref (ad 0)), (1, .int x1), (2, .int x2), (3, .int x3), (4, .int x4)]) hx hb dX8_bestOfMenu_29 hl (by decide) rfl (fun ls hl => ?_)
    refine lv_iload hx hb dX8_bestOfMenu_31 (lv_at hl 0 rfl) ?_
    refine lv_iload_n hx hb dX8_bestOfMenu_33 rfl (lv_at hl 4 rfl) ?_
    refine lv_icmp_le (tgt := 43) hx hb dX8_bestOfMenu_34 (by decide) (fun c_5 => ?_) (fun c_5 => ?_)
    · have hf := sn_if c_5 hf
      exact wX8_bestOfMenu_43 C  hf kc kx _ _ _ hw (lv_sub hl [1, 2, 3, 4, 5] rfl)
    · have hf := sn_el c_5 hf
      refine lv_iload hx hb dX8_bestOfMenu_37 (lv_at hl 0 rfl) ?_
      refine lv_istore_n (lv' := [(3, .int t_3), (5, .int t_3), (0, .ref (ad 0)), (1, .int x1), (2, .int x2), (4, .int x4)]) hx hb dX8_bestOfMenu_39 rfl hl (by decide) rfl (fun ls hl => ?_)
      refine lv_iload hx hb dX8_bestOfMenu_40 (lv_at hl 5 rfl) ?_
      refine lv_istore_n (lv' := [(2, .int x4), (3, .int t_3), (5, .int t_3), (0, .ref (ad 0)), (1, .int x1), (4, .int x4)]) hx hb dX8_bestOfMenu_42 rfl hl (by decide) rfl (fun ls hl => ?_)
      exact wX8_bestOfMenu_43 C  hf kc kx _ _ _ hw (lv_sub hl [3, 4, 0, 1, 5] rfl)
theorem wX8_bestOfMenu_L7 (C : sn_C p s m args meth c RX8 cX8_bestOfMenu 6 (some .int) D ct ad layC A) {σ : sn_S} {x1 : Int32}   {z : Int32 × Int32 × Int32} {t : Int32} (h : sn_it (LX8_bestOfMenu_7 σ x1) 5000 z = some t) (kx : ∀ v, t = v → sn_At p l e rmX8_bestOfMenu s m args below meth c Q D ct ad layC A 6 σ 49 [(2, .int v)] []) : sn_At p l e rmX8_bestOfMenu s m args below meth c Q D ct ad layC A 6 σ 7 [(0, .ref (ad 0)), (1, .int x1), (2, .int z.1), (3, .int z.2.1), (4, .int z.2.2)] [] :=
  sn_loop (f := LX8_bestOfMenu_7 σ x1) (G := fun z => sn_At p l e rmX8_bestOfMenu s m args below meth c Q D ct ad layC A 6 σ 7 [(0, .ref (ad 0)), (1, .int x1), (2, .int z.1), (3, .int z.2.1), (4, .int z.2.2)] []) (E := fun t => (∀ v, t = v → sn_At p l e rmX8_bestOfMenu s m args below meth c Q D ct ad layC A 6 σ 49 [(2, .int v)] []) ∧ True) (fun z o hf k1 k2 => wX8_bestOfMenu_7 C  hf (fun v e => k1 v e) (fun v e => (k2 _ e).1 v rfl)) 5000 z t h ⟨kx, trivial⟩
theorem wX8_bestOfMenu_in (C : sn_C p s m args meth c RX8 cX8_bestOfMenu 6 (some .int) D ct ad layC A) {σ : sn_S} {x1 : Int32}  {o : Int32} (hf : fX8_bestOfMenu σ x1 = some o) (kr : sn_Kr p l e rmX8_bestOfMenu s m args below meth c Q D ct ad layC A cX8_bestOfMenu .ireturn (true) σ [.int o]) : sn_At p l e rmX8_bestOfMenu s m args below meth c Q D ct ad layC A 6 σ 0 [(0, .ref (ad 0)), (1, .int x1)] [] := by
  intro H locs ls hw hl
  have hx := C.1
  have hb := C.2.1
  unfold fX8_bestOfMenu at hf
  refine lv_iconst (v := (-1)) hx hb dX8_bestOfMenu_0 rfl ?_
  refine lv_istore_n (lv' := [(2, .int (-1 : Int32)), (0, .ref (ad 0)), (1, .int x1)]) hx hb dX8_bestOfMenu_1 rfl hl (by decide) rfl (fun ls hl => ?_)
  refine lv_iconst (v := 0) hx hb dX8_bestOfMenu_2 rfl ?_
  refine lv_istore_n (lv' := [(3, .int (0 : Int32)), (2, .int (-1 : Int32)), (0, .ref (ad 0)), (1, .int x1)]) hx hb dX8_bestOfMenu_3 rfl hl (by decide) rfl (fun ls hl => ?_)
  refine lv_iconst (v := 0) hx hb dX8_bestOfMenu_4 rfl ?_
  refine lv_istore (lv' := [(4, .int (0 : Int32)), (3, .int (0 : Int32)), (2, .int (-1 : Int32)), (0, .ref (ad 0)), (1, .int x1)]) hx hb dX8_bestOfMenu_5 hl (by decide) rfl (fun ls hl => ?_)
  obtain ⟨t_1, h_2, hf⟩ := sn_bd hf
  exact wX8_bestOfMenu_L7 C  h_2 (fun v e => by cases e; exact wX8_bestOfMenu_49 C  hf kr) _ _ _ hw (lv_sub hl [3, 4, 2, 1, 0] rfl)
theorem ctX8_bestOfMenu (l : Launch) {σ : sn_S} {x1 : Int32}  {o : Int32} (hf : fX8_bestOfMenu σ x1 = some o) : sn_M l yX8_bestOfMenu cX8_bestOfMenu 6 (some .int) rmX8_bestOfMenu layC (fun ad => [.ref (ad 0), .int x1]) σ (some (fun _ => .int o)) σ :=
  sn_met (by decide) (fun _ => Nat.le_of_ble_eq_true rfl) (fun p e s m args below meth c ls D ct ad A C hw hl => wX8_bestOfMenu_in C  hf (fun H locs ls pc hw ok hd => sn_iret C hw hd) _ _ _ hw hl)
-- X8_takes
abbrev rmX8_takes : Room := { frames := 6, cells := 0, slots := 0, locals := 142 }
def fX8_takes (σ : sn_S) (x1 : Int32) : Option Int32 :=
  ((fX8_isPerson σ x1).bind fun t_1 => (if t_1 = 0 then
  (some (-2 : Int32))
  else
  ((fX8_bestOfMenu σ x1).bind fun t_4 => (some t_4))))
theorem wX8_takes_in (C : sn_C p s m args meth c RX8 cX8_takes 2 (some .int) D ct ad layC A) {σ : sn_S} {x1 : Int32}  {o : Int32} (hf : fX8_takes σ x1 = some o) (kr : sn_Kr p l e rmX8_takes s m args below meth c Q D ct ad layC A cX8_takes .ireturn (true) σ [.int o]) : sn_At p l e rmX8_takes s m args below meth c Q D ct ad layC A 2 σ 0 [(0, .ref (ad 0)), (1, .int x1)] [] := by
  intro H locs ls hw hl
  have hx := C.1
  have hb := C.2.1
  unfold fX8_takes at hf
  refine lv_aload_n hx hb dX8_takes_0 rfl (lv_at hl 0 rfl) ?_
  refine lv_iload_n hx hb dX8_takes_1 rfl (lv_at hl 1 rfl) ?_
  obtain ⟨t_1, h_2, hf⟩ := sn_bd hf
  refine sn_callVi (rest := []) C hw (ctX8_isPerson l  h_2) kl_RX8_107 layC_0 rfl rfl rfl rfl (Nat.le_of_ble_eq_true rfl) dX8_takes_2 hl.1 (fun H locs hw => ?_)
  refine lv_if_eq (tgt := 16) hx hb dX8_takes_5 (by decide) (fun c_3 => ?_) (fun c_3 => ?_)
  · have hf := sn_if c_3 hf
    refine lv_bipush (v := (-2)) hx hb dX8_takes_16 (by decide) ?_
    cases hf
    exact kr _ _ _ _ hw rfl dX8_takes_18
  · have hf := sn_el c_3 hf
    refine lv_aload_n hx hb dX8_takes_8 rfl (lv_at hl 0 rfl) ?_
    refine lv_iload_n hx hb dX8_takes_9 rfl (lv_at hl 1 rfl) ?_
    obtain ⟨t_4, h_5, hf⟩ := sn_bd hf
    refine sn_callVi (rest := []) C hw (ctX8_bestOfMenu l  h_5) kl_RX8_238 layC_0 rfl rfl rfl rfl (Nat.le_of_ble_eq_true rfl) dX8_takes_10 hl.1 (fun H locs hw => ?_)
    refine lv_goto (tgt := 18) hx hb dX8_takes_13 (by decide) ?_
    cases hf
    exact kr _ _ _ _ hw rfl dX8_takes_18
theorem ctX8_takes (l : Launch) {σ : sn_S} {x1 : Int32}  {o : Int32} (hf : fX8_takes σ x1 = some o) : sn_M l yX8_takes cX8_takes 2 (some .int) rmX8_takes layC (fun ad => [.ref (ad 0), .int x1]) σ (some (fun _ => .int o)) σ :=
  sn_met (by decide) (fun _ => Nat.le_of_ble_eq_true rfl) (fun p e s m args below meth c ls D ct ad A C hw hl => wX8_takes_in C  hf (fun H locs ls pc hw ok hd => sn_iret C hw hd) _ _ _ hw hl)
-- X8_gains
abbrev rmX8_gains : Room := { frames := 6, cells := 0, slots := 0, locals := 142 }
def fX8_gains (σ : sn_S) (x1 : Int32) : Option Int32 :=
  ((fX8_isPerson σ x1).bind fun t_1 => (if t_1 = 0 then
  (some (-2 : Int32))
  else
  ((fX8_bestOfMenu σ x1).bind fun t_4 => (if t_4 = (-1 : Int32) then
  (some (0 : Int32))
  else
  ((fX8_gainBy σ x1 t_4).bind fun t_7 => (some t_7))))))
theorem wX8_gains_in (C : sn_C p s m args meth c RX8 cX8_gains 3 (some .int) D ct ad layC A) {σ : sn_S} {x1 : Int32}  {o : Int32} (hf : fX8_gains σ x1 = some o) (kr : sn_Kr p l e rmX8_gains s m args below meth c Q D ct ad layC A cX8_gains .ireturn (true) σ [.int o]) : sn_At p l e rmX8_gains s m args below meth c Q D ct ad layC A 3 σ 0 [(0, .ref (ad 0)), (1, .int x1)] [] := by
  intro H locs ls hw hl
  have hx := C.1
  have hb := C.2.1
  unfold fX8_gains at hf
  refine lv_aload_n hx hb dX8_gains_0 rfl (lv_at hl 0 rfl) ?_
  refine lv_iload_n hx hb dX8_gains_1 rfl (lv_at hl 1 rfl) ?_
  obtain ⟨t_1, h_2, hf⟩ := sn_bd hf
  refine sn_callVi (rest := []) C hw (ctX8_isPerson l  h_2) kl_RX8_107 layC_0 rfl rfl rfl rfl (Nat.le_of_ble_eq_true rfl) dX8_gains_2 hl.1 (fun H locs hw => ?_)
  refine lv_if_ne (tgt := 11) hx hb dX8_gains_5 (by decide) (fun c_3 => ?_) (fun c_3 => ?_)
  · have hf := sn_el c_3 hf
    refine lv_aload_n hx hb dX8_gains_11 rfl (lv_at hl 0 rfl) ?_
    refine lv_iload_n hx hb dX8_gains_12 rfl (lv_at hl 1 rfl) ?_
    obtain ⟨t_4, h_5, hf⟩ := sn_bd hf
    refine sn_callVi (rest := []) C hw (ctX8_bestOfMenu l  h_5) kl_RX8_238 layC_0 rfl rfl rfl rfl (Nat.le_of_ble_eq_true rfl) dX8_gains_13 hl.1 (fun H locs hw => ?_)
    refine lv_istore_n (lv' := [(2, .int t_4), (0, .ref (ad 0)), (1, .int x1)]) hx hb dX8_gains_16 rfl hl (by decide) rfl (fun ls hl => ?_)
    refine lv_iload_n hx hb dX8_gains_17 rfl (lv_at hl 0 rfl) ?_
    refine lv_iconst (v := (-1)) hx hb dX8_gains_18 rfl ?_
    refine lv_icmp_ne (tgt := 26) hx hb dX8_gains_19 (by decide) (fun c_6 => ?_) (fun c_6 => ?_)
    · have hf := sn_el c_6 hf
      refine lv_aload_n hx hb dX8_gains_26 rfl (lv_at hl 1 rfl) ?_
      refine lv_iload_n hx hb dX8_gains_27 rfl (lv_at hl 2 rfl) ?_
      refine lv_iload_n hx hb dX8_gains_28 rfl (lv_at hl 0 rfl) ?_
      obtain ⟨t_7, h_8, hf⟩ := sn_bd hf
      refine sn_callVi (rest := []) C hw (ctX8_gainBy l  h_8) kl_RX8_241 layC_0 rfl rfl rfl rfl (Nat.le_of_ble_eq_true rfl) dX8_gains_29 hl.1 (fun H locs hw => ?_)
      cases hf
      exact kr _ _ _ _ hw rfl dX8_gains_32
    · have hf := sn_if c_6 hf
      refine lv_iconst (v := 0) hx hb dX8_gains_22 rfl ?_
      refine lv_goto (tgt := 32) hx hb dX8_gains_23 (by decide) ?_
      cases hf
      exact kr _ _ _ _ hw rfl dX8_gains_32
  · have hf := sn_if c_3 hf
    refine lv_bipush (v := (-2)) hx hb dX8_gains_8 (by decide) ?_
    cases hf
    exact kr _ _ _ _ hw rfl dX8_gains_10
theorem ctX8_gains (l : Launch) {σ : sn_S} {x1 : Int32}  {o : Int32} (hf : fX8_gains σ x1 = some o) : sn_M l yX8_gains cX8_gains 3 (some .int) rmX8_gains layC (fun ad => [.ref (ad 0), .int x1]) σ (some (fun _ => .int o)) σ :=
  sn_met (by decide) (fun _ => Nat.le_of_ble_eq_true rfl) (fun p e s m args below meth c ls D ct ad A C hw hl => wX8_gains_in C  hf (fun H locs ls pc hw ok hd => sn_iret C hw hd) _ _ _ hw hl)
-- X8_priceFor
abbrev rmX8_priceFor : Room := { frames := 5, cells := 0, slots := 0, locals := 117 }
def BX8_priceFor_66 (σ : sn_S) (x1 : Int32) (x2 : Int32) (x3 : Int32) : Option (Int32) :=
  ((fX8_claimAsIfOf σ x1 x2).bind fun t_1 => (sn_lt (if (0 : Int32) < (t_1 - x3) then (t_1 - x3) else (0 : Int32)) fun y_3 => (some y_3)))
def BX8_priceFor_60 (σ : sn_S) (x1 : Int32) (x2 : Int32) (x3 : Int32) (x4 : Int32) : Option ((Int32 × Int32) ⊕ (Int32)) :=
  (sn_lt (x4 + 1) fun y_1 => (some (.inl (x3, y_1))))
def BX8_priceFor_5 (σ : sn_S) (x1 : Int32) (x2 : Int32) (x3 : Int32) (x4 : Int32) : Option ((Int32 × Int32) ⊕ (Int32)) :=
  (sn_gd (sn_in (8 : Int32) 11) (if (sn_I σ (1 + 1) (8 : Int32).toNatClampNeg) ≤ x4 then
  (some (.inr (x3)))
  else
  ((fX8_gainBy σ x1 x4).bind fun t_3 => (if x2 ≤ x4 then
  (if x4 ≤ x2 then
  (BX8_priceFor_60 σ x1 x2 x3 x4)
  else
  (sn_lt (if x3 < (t_3 - (1 : Int32)) then (t_3 - (1 : Int32)) else x3) fun y_7 => (BX8_priceFor_60 σ x1 x2 y_7 x4)))
  else
  (sn_lt (if x3 < t_3 then t_3 else x3) fun y_9 => (BX8_priceFor_60 σ x1 x2 y_9 x4))))))
def LX8_priceFor_5 (σ : sn_S) (x1 : Int32) (x2 : Int32) (s : Int32 × Int32) : Option ((Int32 × Int32) ⊕ (Int32)) := BX8_priceFor_5 σ x1 x2 s.1 s.2
def fX8_priceFor (σ : sn_S) (x1 : Int32) (x2 : Int32) : Option Int32 :=
  ((sn_it (LX8_priceFor_5 σ x1 x2) 5000 ((0 : Int32), (0 : Int32))).bind fun t_1 => (BX8_priceFor_66 σ x1 x2 t_1))
theorem wX8_priceFor_66 (C : sn_C p s m args meth c RX8 cX8_priceFor 6 (some .int) D ct ad layC A) {σ : sn_S} {x1 : Int32} {x2 : Int32} {x3 : Int32}  {o : Int32} (hf : BX8_priceFor_66 σ x1 x2 x3 = some o) (kr : sn_Kr p l e rmX8_priceFor s m args below meth c Q D ct ad layC A cX8_priceFor .ireturn (true) σ [.int o]) : sn_At p l e rmX8_priceFor s m args below meth c Q D ct ad layC A 6 σ 66 [(0, .ref (ad 0)), (1, .int x1), (2, .int x2), (3, .int x3)] [] := by
  intro H locs ls hw hl
  have hx := C.1
  have hb := C.2.1
  unfold BX8_priceFor_66 at hf
  refine lv_iconst (v := 0) hx hb dX8_priceFor_66 rfl ?_
  refine lv_aload_n hx hb dX8_priceFor_67 rfl (lv_at hl 0 rfl) ?_
  refine lv_iload_n hx hb dX8_priceFor_68 rfl (lv_at hl 1 rfl) ?_
  refine lv_iload_n hx hb dX8_priceFor_69 rfl (lv_at hl 2 rfl) ?_
  obtain ⟨t_1, h_2, hf⟩ := sn_bd hf
  refine sn_callVi (rest := [.int (0 : Int32)]) C hw (ctX8_claimAsIfOf l  h_2) kl_RX8_247 layC_0 rfl rfl rfl rfl (Nat.le_of_ble_eq_true rfl) dX8_priceFor_70 hl.1 (fun H locs hw => ?_)
  refine lv_iload_n hx hb dX8_priceFor_73 rfl (lv_at hl 3 rfl) ?_
  refine lv_isub hx hb dX8_priceFor_74 ?_
  refine va_mmax hx hb (C.2.2.1.trans hl.1.symm) C.2.2.2.1 (C.2.2.2.2.1 _ km_RX8_154) (C.2.2.2.2.1 _ kst_maxI) (C.2.2.2.2.1 _ ki_Math) (C.2.2.2.2.1 _ kc_maxI) (Nat.le_of_ble_eq_true rfl) (Nat.le_of_ble_eq_true rfl) (Nat.zero_le _) (Nat.zero_le _) dX8_priceFor_75 ?_
  obtain ⟨y_3, e_4, hf⟩ := sn_ltE hf
  refine lv_topi (fun y_3_ e_4_ => ?_)
  obtain rfl : y_3 = y_3_ := e_4.trans e_4_.symm
  cases hf
  exact kr _ _ _ _ hw rfl dX8_priceFor_78
theorem wX8_priceFor_60 (C : sn_C p s m args meth c RX8 cX8_priceFor 6 (some .int) D ct ad layC A) {σ : sn_S} {x1 : Int32} {x2 : Int32} {x3 : Int32} {x4 : Int32}  {o : (Int32 × Int32) ⊕ (Int32)} (hf : BX8_priceFor_60 σ x1 x2 x3 x4 = some o) (kc : ∀ v, o = .inl v → sn_At p l e rmX8_priceFor s m args below meth c Q D ct ad layC A 6 σ 5 [(0, .ref (ad 0)), (1, .int x1), (2, .int x2), (3, .int v.1), (4, .int v.2)] []) (kx : ∀ v, o = .inr v → sn_At p l e rmX8_priceFor s m args below meth c Q D ct ad layC A 6 σ 66 [(0, .ref (ad 0)), (1, .int x1), (2, .int x2), (3, .int v)] []) : sn_At p l e rmX8_priceFor s m args below meth c Q D ct ad layC A 6 σ 60 [(0, .ref (ad 0)), (1, .int x1), (2, .int x2), (3, .int x3), (4, .int x4)] [] := by
  intro H locs ls hw hl
  have hx := C.1
  have hb := C.2.1
  unfold BX8_priceFor_60 at hf
  obtain ⟨y_1, e_2, hf⟩ := sn_ltE hf
  refine lv_iinc (v := y_1) (lv' := [(4, .int y_1), (0, .ref (ad 0)), (1, .int x1), (2, .int x2), (3, .int x3)]) hx hb dX8_priceFor_60 hl (k := 4) rfl (by rw [e_2]; rfl) (by decide) rfl (fun ls hl => ?_)
  refine lv_goto (tgt := 5) hx hb dX8_priceFor_63 (by decide) ?_
  cases hf
  exact kc _ rfl _ _ _ hw (lv_sub hl [1, 2, 3, 4, 0] rfl)
theorem wX8_priceFor_5 (C : sn_C p s m args meth c RX8 cX8_priceFor 6 (some .int) D ct ad layC A) {σ : sn_S} {x1 : Int32} {x2 : Int32} {x3 : Int32} {x4 : Int32}  {o : (Int32 × Int32) ⊕ (Int32)} (hf : BX8_priceFor_5 σ x1 x2 x3 x4 = some o) (kc : ∀ v, o = .inl v → sn_At p l e rmX8_priceFor s m args below meth c Q D ct ad layC A 6 σ 5 [(0, .ref (ad 0)), (1, .int x1), (2, .int x2), (3, .int v.1), (4, .int v.2)] []) (kx : ∀ v, o = .inr v → sn_At p l e rmX8_priceFor s m args below meth c Q D ct ad layC A 6 σ 66 [(0, .ref (ad 0)), (1, .int x1), (2, .int x2), (3, .int v)] []) : sn_At p l e rmX8_priceFor s m args below meth c Q D ct ad layC A 6 σ 5 [(0, .ref (ad 0)), (1, .int x1), (2, .int x2), (3, .int x3), (4, .int x4)] [] := by
  intro H locs ls hw hl
  have hx := C.1
  have hb := C.2.1
  unfold BX8_priceFor_5 at hf
  refine lv_iload hx hb dX8_priceFor_5 (lv_at hl 4 rfl) ?_
  refine lv_aload_n hx hb dX8_priceFor_7 rfl (lv_at hl 0 rfl) ?_
  refine sn_getC (r := 1) C hw fd_RX8_10 layC_0 rfl dX8_priceFor_8 ?_
  refine sn_getC (r := (1 + 1)) C hw fd_RX8_100 (sn_look sn_isX2_1 (k := 0) rfl) rfl dX8_priceFor_11 ?_
  refine lv_bipush (v := 8) hx hb dX8_priceFor_14 (by decide) ?_
  obtain ⟨g_1, hf⟩ := sn_gdE hf
  refine sn_iald C hw (sn_look sn_isX2_1 (k := 1) rfl) g_1 dX8_priceFor_16 ?_
  refine lv_icmp_ge (tgt := 66) hx hb dX8_priceFor_17 (by decide) (fun c_2 => ?_) (fun c_2 => ?_)
  · have hf := sn_if c_2 hf
    cases hf
    exact kx _ rfl _ _ _ hw (lv_sub hl [0, 1, 2, 3] rfl)
  · have hf := sn_el c_2 hf
    refine lv_aload_n hx hb dX8_priceFor_20 rfl (lv_at hl 0 rfl) ?_
    refine lv_iload_n hx hb dX8_priceFor_21 rfl (lv_at hl 1 rfl) ?_
    refine lv_iload hx hb dX8_priceFor_22 (lv_at hl 4 rfl) ?_
    obtain ⟨t_3, h_4, hf⟩ := sn_bd hf
    refine sn_callVi (rest := []) C hw (ctX8_gainBy l  h_4) kl_RX8_241 layC_0 rfl rfl rfl rfl (Nat.le_of_ble_eq_true rfl) dX8_priceFor_24 hl.1 (fun H locs hw => ?_)
    refine lv_istore (lv' := [(5, .int t_3), (0, .ref (ad 0)), (1, .int x1), (2, .int x2), (3, .int x3), (4, .int x4)]) hx hb dX8_priceFor_27 hl (by decide) rfl (fun ls hl => ?_)
    refine lv_iload hx hb dX8_priceFor_29 (lv_at hl 5 rfl) ?_
    refine lv_iload_n hx hb dX8_priceFor_31 rfl (lv_at hl 3 rfl) ?_
    refine lv_icmp_ge (tgt := 45) hx hb dX8_priceFor_32 (by decide) (fun c_5 => ?_) (fun c_5 => ?_)
    · have hf := sn_if c_5 hf
      refine lv_iload hx hb dX8_priceFor_45 (lv_at hl 5 rfl) ?_
      refine lv_iload_n hx hb dX8_priceFor_47 rfl (lv_at hl 3 rfl) ?_
      refine lv_icmp_le (tgt := 60) hx hb dX8_priceFor_48 (by decide) (fun c_6 => ?_) (fun c_6 => ?_)
      · have hf := sn_if c_6 hf
        exact wX8_priceFor_60 C  hf kc kx _ _ _ hw (lv_sub hl [1, 2, 3, 4, 5] rfl)
      · have hf := sn_el c_6 hf
        refine lv_iload_n hx hb dX8_priceFor_51 rfl (lv_at hl 4 rfl) ?_
        refine lv_iload hx hb dX8_priceFor_52 (lv_at hl 0 rfl) ?_
        refine lv_iconst (v := 1) hx hb dX8_priceFor_54 rfl ?_
        refine lv_isub hx hb dX8_priceFor_55 ?_
        refine va_mmax hx hb (C.2.2.1.trans hl.1.symm) C.2.2.2.1 (C.2.2.2.2.1 _ km_RX8_154) (C.2.2.2.2.1 _ kst_maxI) (C.2.2.2.2.1 _ ki_Math) (C.2.2.2.2.1 _ kc_maxI) (Nat.le_of_ble_eq_true rfl) (Nat.le_of_ble_eq_true rfl) (Nat.zero_le _) (Nat.zero_le _) dX8_priceFor_56 ?_
        obtain ⟨y_7, e_8, hf⟩ := sn_ltE hf
        refine lv_topi (fun y_7_ e_8_ => ?_)
        obtain rfl : y_7 = y_7_ := e_8.trans e_8_.symm
        refine lv_istore_n (lv' := [(3, .int y_7), (5, .int t_3), (0, .ref (ad 0)), (1, .int x1), (2, .int x2), (4, .int x4)]) hx hb dX8_priceFor_59 rfl hl (by decide) rfl (fun ls hl => ?_)
        exact wX8_priceFor_60 C  hf kc kx _ _ _ hw (lv_sub hl [2, 3, 4, 0, 5] rfl)
    · have hf := sn_el c_5 hf
      refine lv_iload_n hx hb dX8_priceFor_35 rfl (lv_at hl 4 rfl) ?_
      refine lv_iload hx hb dX8_priceFor_36 (lv_at hl 0 rfl) ?_
      refine va_mmax hx hb (C.2.2.1.trans hl.1.symm) C.2.2.2.1 (C.2.2.2.2.1 _ km_RX8_154) (C.2.2.2.2.1 _ kst_maxI) (C.2.2.2.2.1 _ ki_Math) (C.2.2.2.2.1 _ kc_maxI) (Nat.le_of_ble_eq_true rfl) (Nat.le_of_ble_eq_true rfl) (Nat.zero_le _) (Nat.zero_le _) dX8_priceFor_38 ?_
      obtain ⟨y_9, e_10, hf⟩ := sn_ltE hf
      refine lv_topi (fun y_9_ e_10_ => ?_)
      obtain rfl : y_9 = y_9_ := e_10.trans e_10_.symm
      refine lv_istore_n (lv' := [(3, .int y_9), (5, .int t_3), (0, .ref (ad 0)), (1, .int x1), (2, .int x2), (4, .int x4)]) hx hb dX8_priceFor_41 rfl hl (by decide) rfl (fun ls hl => ?_)
      refine lv_goto (tgt := 60) hx hb dX8_priceFor_42 (by decide) ?_
      exact wX8_priceFor_60 C  hf kc kx _ _ _ hw (lv_sub hl [2, 3, 4, 0, 5] rfl)
theorem wX8_priceFor_L5 (C : sn_C p s m args meth c RX8 cX8_priceFor 6 (some .int) D ct ad layC A) {σ : sn_S} {x1 : Int32} {x2 : Int32}   {z : Int32 × Int32} {t : Int32} (h : sn_it (LX8_priceFor_5 σ x1 x2) 5000 z = some t) (kx : ∀ v, t = v → sn_At p l e rmX8_priceFor s m args below meth c Q D ct ad layC A 6 σ 66 [(0, .ref (ad 0)), (1, .int x1), (2, .int x2), (3, .int v)] []) : sn_At p l e rmX8_priceFor s m args below meth c Q D ct ad layC A 6 σ 5 [(0, .ref (ad 0)), (1, .int x1), (2, .int x2), (3, .int z.1), (4, .int z.2)] [] :=
  sn_loop (f := LX8_priceFor_5 σ x1 x2) (G := fun z => sn_At p l e rmX8_priceFor s m args below meth c Q D ct ad layC A 6 σ 5 [(0, .ref (ad 0)), (1, .int x1), (2, .int x2), (3, .int z.1), (4, .int z.2)] []) (E := fun t => (∀ v, t = v → sn_At p l e rmX8_priceFor s m args below meth c Q D ct ad layC A 6 σ 66 [(0, .ref (ad 0)), (1, .int x1), (2, .int x2), (3, .int v)] []) ∧ True) (fun z o hf k1 k2 => wX8_priceFor_5 C  hf (fun v e => k1 v e) (fun v e => (k2 _ e).1 v rfl)) 5000 z t h ⟨kx, trivial⟩
theorem wX8_priceFor_in (C : sn_C p s m args meth c RX8 cX8_priceFor 6 (some .int) D ct ad layC A) {σ : sn_S} {x1 : Int32} {x2 : Int32}  {o : Int32} (hf : fX8_priceFor σ x1 x2 = some o) (kr : sn_Kr p l e rmX8_priceFor s m args below meth c Q D ct ad layC A cX8_priceFor .ireturn (true) σ [.int o]) : sn_At p l e rmX8_priceFor s m args below meth c Q D ct ad layC A 6 σ 0 [(0, .ref (ad 0)), (1, .int x1), (2, .int x2)] [] := by
  intro H locs ls hw hl
  have hx := C.1
  have hb := C.2.1
  unfold fX8_priceFor at hf
  refine lv_iconst (v := 0) hx hb dX8_priceFor_0 rfl ?_
  refine lv_istore_n (lv' := [(3, .int (0 : Int32)), (0, .ref (ad 0)), (1, .int x1), (2, .int x2)]) hx hb dX8_priceFor_1 rfl hl (by decide) rfl (fun ls hl => ?_)
  refine lv_iconst (v := 0) hx hb dX8_priceFor_2 rfl ?_
  refine lv_istore (lv' := [(4, .int (0 : Int32)), (3, .int (0 : Int32)), (0, .ref (ad 0)), (1, .int x1), (2, .int x2)]) hx hb dX8_priceFor_3 hl (by decide) rfl (fun ls hl => ?_)
  obtain ⟨t_1, h_2, hf⟩ := sn_bd hf
  exact wX8_priceFor_L5 C  h_2 (fun v e => by cases e; exact wX8_priceFor_66 C  hf kr) _ _ _ hw (lv_sub hl [2, 3, 4, 1, 0] rfl)
theorem ctX8_priceFor (l : Launch) {σ : sn_S} {x1 : Int32} {x2 : Int32}  {o : Int32} (hf : fX8_priceFor σ x1 x2 = some o) : sn_M l yX8_priceFor cX8_priceFor 6 (some .int) rmX8_priceFor layC (fun ad => [.ref (ad 0), .int x1, .int x2]) σ (some (fun _ => .int o)) σ :=
  sn_met (by decide) (fun _ => Nat.le_of_ble_eq_true rfl) (fun p e s m args below meth c ls D ct ad A C hw hl => wX8_priceFor_in C  hf (fun H locs ls pc hw ok hd => sn_iret C hw hd) _ _ _ hw hl)
-- X8_price
abbrev rmX8_price : Room := { frames := 6, cells := 0, slots := 0, locals := 142 }
def BX8_price_43 (σ : sn_S) (x2 : Int32) : Option (Int32) :=
  (some x2)
def BX8_price_15 (σ : sn_S) (x1 : Int32) (x2 : Int32) (x3 : Int32) : Option ((Int32 × Int32) ⊕ (Int32)) :=
  (if (sn_I σ 27 1) ≤ x3 then
  (some (.inr (x2)))
  else
  ((fX8_priceFor σ x3 x1).bind fun t_2 => (sn_lt (if x2 < t_2 then t_2 else x2) fun y_4 => (sn_lt (x3 + 1) fun y_6 => (some (.inl (y_4, y_6)))))))
def LX8_price_15 (σ : sn_S) (x1 : Int32) (s : Int32 × Int32) : Option ((Int32 × Int32) ⊕ (Int32)) := BX8_price_15 σ x1 s.1 s.2
def fX8_price (σ : sn_S) (x1 : Int32) : Option Int32 :=
  ((fX8_isPolicy σ x1).bind fun t_1 => (if t_1 = 0 then
  (some (-2 : Int32))
  else
  ((sn_it (LX8_price_15 σ x1) 5000 ((0 : Int32), (0 : Int32))).bind fun t_4 => (BX8_price_43 σ t_4))))
theorem wX8_price_43 (C : sn_C p s m args meth c RX8 cX8_price 4 (some .int) D ct ad layC A) {σ : sn_S} {x2 : Int32}  {o : Int32} (hf : BX8_price_43 σ x2 = some o) (kr : sn_Kr p l e rmX8_price s m args below meth c Q D ct ad layC A cX8_price .ireturn (true) σ [.int o]) : sn_At p l e rmX8_price s m args below meth c Q D ct ad layC A 4 σ 43 [(2, .int x2)] [] := by
  intro H locs ls hw hl
  have hx := C.1
  have hb := C.2.1
  unfold BX8_price_43 at hf
  refine lv_iload_n hx hb dX8_price_43 rfl (lv_at hl 0 rfl) ?_
  cases hf
  exact kr _ _ _ _ hw rfl dX8_price_44
theorem wX8_price_15 (C : sn_C p s m args meth c RX8 cX8_price 4 (some .int) D ct ad layC A) {σ : sn_S} {x1 : Int32} {x2 : Int32} {x3 : Int32}  {o : (Int32 × Int32) ⊕ (Int32)} (hf : BX8_price_15 σ x1 x2 x3 = some o) (kc : ∀ v, o = .inl v → sn_At p l e rmX8_price s m args below meth c Q D ct ad layC A 4 σ 15 [(0, .ref (ad 0)), (1, .int x1), (2, .int v.1), (3, .int v.2)] []) (kx : ∀ v, o = .inr v → sn_At p l e rmX8_price s m args below meth c Q D ct ad layC A 4 σ 43 [(2, .int v)] []) : sn_At p l e rmX8_price s m args below meth c Q D ct ad layC A 4 σ 15 [(0, .ref (ad 0)), (1, .int x1), (2, .int x2), (3, .int x3)] [] := by
  intro H locs ls hw hl
  have hx := C.1
  have hb := C.2.1
  unfold BX8_price_15 at hf
  refine lv_iload_n hx hb dX8_price_15 rfl (lv_at hl 3 rfl) ?_
  refine lv_aload_n hx hb dX8_price_16 rfl (lv_at hl 0 rfl) ?_
  refine sn_getC (r := 27) C hw fd_RX8_44 layC_0 rfl dX8_price_17 ?_
  refine sn_getI C hw fd_RX8_162 (sn_look sn_isX0_27 (k := 0) rfl) rfl dX8_price_20 ?_
  refine lv_icmp_ge (tgt := 43) hx hb dX8_price_23 (by decide) (fun c_1 => ?_) (fun c_1 => ?_)
  · have hf := sn_if c_1 hf
    cases hf
    exact kx _ rfl _ _ _ hw (lv_sub hl [2] rfl)
  · have hf := sn_el c_1 hf
    refine lv_iload_n hx hb dX8_price_26 rfl (lv_at hl 2 rfl) ?_
    refine lv_aload_n hx hb dX8_price_27 rfl (lv_at hl 0 rfl) ?_
    refine lv_iload_n hx hb dX8_price_28 rfl (lv_at hl 3 rfl) ?_
    refine lv_iload_n hx hb dX8_price_29 rfl (lv_at hl 1 rfl) ?_
    obtain ⟨t_2, h_3, hf⟩ := sn_bd hf
    refine sn_callVi (rest := [.int x2]) C hw (ctX8_priceFor l  h_3) kl_RX8_244 layC_0 rfl rfl rfl rfl (Nat.le_of_ble_eq_true rfl) dX8_price_30 hl.1 (fun H locs hw => ?_)
    refine va_mmax hx hb (C.2.2.1.trans hl.1.symm) C.2.2.2.1 (C.2.2.2.2.1 _ km_RX8_154) (C.2.2.2.2.1 _ kst_maxI) (C.2.2.2.2.1 _ ki_Math) (C.2.2.2.2.1 _ kc_maxI) (Nat.le_of_ble_eq_true rfl) (Nat.le_of_ble_eq_true rfl) (Nat.zero_le _) (Nat.zero_le _) dX8_price_33 ?_
    obtain ⟨y_4, e_5, hf⟩ := sn_ltE hf
    refine lv_topi (fun y_4_ e_5_ => ?_)
    obtain rfl : y_4 = y_4_ := e_5.trans e_5_.symm
    refine lv_istore_n (lv' := [(2, .int y_4), (0, .ref (ad 0)), (1, .int x1), (3, .int x3)]) hx hb dX8_price_36 rfl hl (by decide) rfl (fun ls hl => ?_)
    obtain ⟨y_6, e_7, hf⟩ := sn_ltE hf
    refine lv_iinc (v := y_6) (lv' := [(3, .int y_6), (2, .int y_4), (0, .ref (ad 0)), (1, .int x1)]) hx hb dX8_price_37 hl (k := 3) rfl (by rw [e_7]; rfl) (by decide) rfl (fun ls hl => ?_)
    refine lv_goto (tgt := 15) hx hb dX8_price_40 (by decide) ?_
    cases hf
    exact kc _ rfl _ _ _ hw (lv_sub hl [2, 3, 1, 0] rfl)
theorem wX8_price_L15 (C : sn_C p s m args meth c RX8 cX8_price 4 (some .int) D ct ad layC A) {σ : sn_S} {x1 : Int32}   {z : Int32 × Int32} {t : Int32} (h : sn_it (LX8_price_15 σ x1) 5000 z = some t) (kx : ∀ v, t = v → sn_At p l e rmX8_price s m args below meth c Q D ct ad layC A 4 σ 43 [(2, .int v)] []) : sn_At p l e rmX8_price s m args below meth c Q D ct ad layC A 4 σ 15 [(0, .ref (ad 0)), (1, .int x1), (2, .int z.1), (3, .int z.2)] [] :=
  sn_loop (f := LX8_price_15 σ x1) (G := fun z => sn_At p l e rmX8_price s m args below meth c Q D ct ad layC A 4 σ 15 [(0, .ref (ad 0)), (1, .int x1), (2, .int z.1), (3, .int z.2)] []) (E := fun t => (∀ v, t = v → sn_At p l e rmX8_price s m args below meth c Q D ct ad layC A 4 σ 43 [(2, .int v)] []) ∧ True) (fun z o hf k1 k2 => wX8_price_15 C  hf (fun v e => k1 v e) (fun v e => (k2 _ e).1 v rfl)) 5000 z t h ⟨kx, trivial⟩
theorem wX8_price_in (C : sn_C p s m args meth c RX8 cX8_price 4 (some .int) D ct ad layC A) {σ : sn_S} {x1 : Int32}  {o : Int32} (hf : fX8_price σ x1 = some o) (kr : sn_Kr p l e rmX8_price s m args below meth c Q D ct ad layC A cX8_price .ireturn (true) σ [.int o]) : sn_At p l e rmX8_price s m args below meth c Q D ct ad layC A 4 σ 0 [(0, .ref (ad 0)), (1, .int x1)] [] := by
  intro H locs ls hw hl
  have hx := C.1
  have hb := C.2.1
  unfold fX8_price at hf
  refine lv_aload_n hx hb dX8_price_0 rfl (lv_at hl 0 rfl) ?_
  refine lv_iload_n hx hb dX8_price_1 rfl (lv_at hl 1 rfl) ?_
  obtain ⟨t_1, h_2, hf⟩ := sn_bd hf
  refine sn_callVi (rest := []) C hw (ctX8_isPolicy l  h_2) kl_RX8_114 layC_0 rfl rfl rfl rfl (Nat.le_of_ble_eq_true rfl) dX8_price_2 hl.1 (fun H locs hw => ?_)
  refine lv_if_ne (tgt := 11) hx hb dX8_price_5 (by decide) (fun c_3 => ?_) (fun c_3 => ?_)
  · have hf := sn_el c_3 hf
    refine lv_iconst (v := 0) hx hb dX8_price_11 rfl ?_
    refine lv_istore_n (lv' := [(2, .int (0 : Int32)), (0, .ref (ad 0)), (1, .int x1)]) hx hb dX8_price_12 rfl hl (by decide) rfl (fun ls hl => ?_)
    refine lv_iconst (v := 0) hx hb dX8_price_13 rfl ?_
    refine lv_istore_n (lv' := [(3, .int (0 : Int32)), (2, .int (0 : Int32)), (0, .ref (ad 0)), (1, .int x1)]) hx hb dX8_price_14 rfl hl (by decide) rfl (fun ls hl => ?_)
    obtain ⟨t_4, h_5, hf⟩ := sn_bd hf
    exact wX8_price_L15 C  h_5 (fun v e => by cases e; exact wX8_price_43 C  hf kr) _ _ _ hw (lv_sub hl [2, 3, 1, 0] rfl)
  · have hf := sn_if c_3 hf
    refine lv_bipush (v := (-2)) hx hb dX8_price_8 (by decide) ?_
    cases hf
    exact kr _ _ _ _ hw rfl dX8_price_10
theorem ctX8_price (l : Launch) {σ : sn_S} {x1 : Int32}  {o : Int32} (hf : fX8_price σ x1 = some o) : sn_M l yX8_price cX8_price 4 (some .int) rmX8_price layC (fun ad => [.ref (ad 0), .int x1]) σ (some (fun _ => .int o)) σ :=
  sn_met (by decide) (fun _ => Nat.le_of_ble_eq_true rfl) (fun p e s m args below meth c ls D ct ad A C hw hl => wX8_price_in C  hf (fun H locs ls pc hw ok hd => sn_iret C hw hd) _ _ _ hw hl)
-- X8_hold
abbrev rmX8_hold : Room := { frames := 4, cells := 0, slots := 0, locals := 100 }
def fX8_hold (σ : sn_S) (x1 : Int32) : Option (Int32 × sn_S) :=
  ((fX8_isPolicy σ x1).bind fun t_1 => (if t_1 = 0 then
  (some ((-2 : Int32), σ))
  else
  ((fX1_reckon σ 1 27 x1).bind fun t_4 => ((fX1_fewest t_4).bind fun t_6 => (some (t_6, t_4))))))
theorem wX8_hold_in (C : sn_C p s m args meth c RX8 cX8_hold 2 (some .int) D ct ad layC A) {σ : sn_S} {x1 : Int32}  {o : (Int32 × sn_S)} (hf : fX8_hold σ x1 = some o) (kr : sn_Kr p l e rmX8_hold s m args below meth c Q D ct ad layC A cX8_hold .ireturn (true) o.2 [.int o.1]) : sn_At p l e rmX8_hold s m args below meth c Q D ct ad layC A 2 σ 0 [(0, .ref (ad 0)), (1, .int x1)] [] := by
  intro H locs ls hw hl
  have hx := C.1
  have hb := C.2.1
  unfold fX8_hold at hf
  refine lv_aload_n hx hb dX8_hold_0 rfl (lv_at hl 0 rfl) ?_
  refine lv_iload_n hx hb dX8_hold_1 rfl (lv_at hl 1 rfl) ?_
  obtain ⟨t_1, h_2, hf⟩ := sn_bd hf
  refine sn_callVi (rest := []) C hw (ctX8_isPolicy l  h_2) kl_RX8_114 layC_0 rfl rfl rfl rfl (Nat.le_of_ble_eq_true rfl) dX8_hold_2 hl.1 (fun H locs hw => ?_)
  refine lv_if_ne (tgt := 11) hx hb dX8_hold_5 (by decide) (fun c_3 => ?_) (fun c_3 => ?_)
  · have hf := sn_el c_3 hf
    refine lv_aload_n hx hb dX8_hold_11 rfl (lv_at hl 0 rfl) ?_
    refine sn_getC (r := 52) C hw fd_RX8_61 layC_0 rfl dX8_hold_12 ?_
    refine lv_aload_n hx hb dX8_hold_15 rfl (lv_at hl 0 rfl) ?_
    refine sn_getC (r := 1) C hw fd_RX8_10 layC_0 rfl dX8_hold_16 ?_
    refine lv_aload_n hx hb dX8_hold_19 rfl (lv_at hl 0 rfl) ?_
    refine sn_getC (r := 27) C hw fd_RX8_44 layC_0 rfl dX8_hold_20 ?_
    refine lv_iload_n hx hb dX8_hold_23 rfl (lv_at hl 1 rfl) ?_
    obtain ⟨t_4, h_5, hf⟩ := sn_bd hf
    refine sn_callVv (rest := []) C hw (ctX1_reckon l sn_isX2_1 sn_isX0_27 h_5) kl_RX8_254 layC_52 rfl rfl rfl rfl (Nat.le_of_ble_eq_true rfl) dX8_hold_24 hl.1 (fun H locs hw => ?_)
    refine lv_aload_n hx hb dX8_hold_27 rfl (lv_at hl 0 rfl) ?_
    refine sn_getC (r := 52) C hw fd_RX8_61 layC_0 rfl dX8_hold_28 ?_
    obtain ⟨t_6, h_7, hf⟩ := sn_bd hf
    refine sn_callVi (rest := []) C hw (ctX1_fewest l  h_7) kl_RX8_255 layC_52 rfl rfl rfl rfl (Nat.le_of_ble_eq_true rfl) dX8_hold_31 hl.1 (fun H locs hw => ?_)
    cases hf
    exact kr _ _ _ _ hw rfl dX8_hold_34
  · have hf := sn_if c_3 hf
    refine lv_bipush (v := (-2)) hx hb dX8_hold_8 (by decide) ?_
    cases hf
    exact kr _ _ _ _ hw rfl dX8_hold_10
theorem ctX8_hold (l : Launch) {σ : sn_S} {x1 : Int32}  {o : (Int32 × sn_S)} (hf : fX8_hold σ x1 = some o) : sn_M l yX8_hold cX8_hold 2 (some .int) rmX8_hold layC (fun ad => [.ref (ad 0), .int x1]) σ (some (fun _ => .int o.1)) o.2 :=
  sn_met (by decide) (fun _ => Nat.le_of_ble_eq_true rfl) (fun p e s m args below meth c ls D ct ad A C hw hl => wX8_hold_in C  hf (fun H locs ls pc hw ok hd => sn_iret C hw hd) _ _ _ hw hl)
-- X8_holds
abbrev rmX8_holds : Room := { frames := 4, cells := 0, slots := 0, locals := 100 }
def fX8_holds (σ : sn_S) (x1 : Int32) : Option (Int32 × sn_S) :=
  ((fX8_isPolicy σ x1).bind fun t_1 => (if t_1 = 0 then
  (some ((-2 : Int32), σ))
  else
  ((fX1_reckon σ 1 27 x1).bind fun t_4 => ((fX1_minutesHeld t_4).bind fun t_6 => (some (t_6, t_4))))))
theorem wX8_holds_in (C : sn_C p s m args meth c RX8 cX8_holds 2 (some .int) D ct ad layC A) {σ : sn_S} {x1 : Int32}  {o : (Int32 × sn_S)} (hf : fX8_holds σ x1 = some o) (kr : sn_Kr p l e rmX8_holds s m args below meth c Q D ct ad layC A cX8_holds .ireturn (true) o.2 [.int o.1]) : sn_At p l e rmX8_holds s m args below meth c Q D ct ad layC A 2 σ 0 [(0, .ref (ad 0)), (1, .int x1)] [] := by
  intro H locs ls hw hl
  have hx := C.1
  have hb := C.2.1
  unfold fX8_holds at hf
  refine lv_aload_n hx hb dX8_holds_0 rfl (lv_at hl 0 rfl) ?_
  refine lv_iload_n hx hb dX8_holds_1 rfl (lv_at hl 1 rfl) ?_
  obtain ⟨t_1, h_2, hf⟩ := sn_bd hf
  refine sn_callVi (rest := []) C hw (ctX8_isPolicy l  h_2) kl_RX8_114 layC_0 rfl rfl rfl rfl (Nat.le_of_ble_eq_true rfl) dX8_holds_2 hl.1 (fun H locs hw => ?_)
  refine lv_if_ne (tgt := 11) hx hb dX8_holds_5 (by decide) (fun c_3 => ?_) (fun c_3 => ?_)
  · have hf := sn_el c_3 hf
    refine lv_aload_n hx hb dX8_holds_11 rfl (lv_at hl 0 rfl) ?_
    refine sn_getC (r := 52) C hw fd_RX8_61 layC_0 rfl dX8_holds_12 ?_
    refine lv_aload_n hx hb dX8_holds_15 rfl (lv_at hl 0 rfl) ?_
    refine sn_getC (r := 1) C hw fd_RX8_10 layC_0 rfl dX8_holds_16 ?_
    refine lv_aload_n hx hb dX8_holds_19 rfl (lv_at hl 0 rfl) ?_
    refine sn_getC (r := 27) C hw fd_RX8_44 layC_0 rfl dX8_holds_20 ?_
    refine lv_iload_n hx hb dX8_holds_23 rfl (lv_at hl 1 rfl) ?_
    obtain ⟨t_4, h_5, hf⟩ := sn_bd hf
    refine sn_callVv (rest := []) C hw (ctX1_reckon l sn_isX2_1 sn_isX0_27 h_5) kl_RX8_254 layC_52 rfl rfl rfl rfl (Nat.le_of_ble_eq_true rfl) dX8_holds_24 hl.1 (fun H locs hw => ?_)
    refine lv_aload_n hx hb dX8_holds_27 rfl (lv_at hl 0 rfl) ?_
    refine sn_getC (r := 52) C hw fd_RX8_61 layC_0 rfl dX8_holds_28 ?_
    obtain ⟨t_6, h_7, hf⟩ := sn_bd hf
    refine sn_callVi (rest := []) C hw (ctX1_minutesHeld l  h_7) kl_RX8_258 layC_52 rfl rfl rfl rfl (Nat.le_of_ble_eq_true rfl) dX8_holds_31 hl.1 (fun H locs hw => ?_)
    cases hf
    exact kr _ _ _ _ hw rfl dX8_holds_34
  · have hf := sn_if c_3 hf
    refine lv_bipush (v := (-2)) hx hb dX8_holds_8 (by decide) ?_
    cases hf
    exact kr _ _ _ _ hw rfl dX8_holds_10
theorem ctX8_holds (l : Launch) {σ : sn_S} {x1 : Int32}  {o : (Int32 × sn_S)} (hf : fX8_holds σ x1 = some o) : sn_M l yX8_holds cX8_holds 2 (some .int) rmX8_holds layC (fun ad => [.ref (ad 0), .int x1]) σ (some (fun _ => .int o.1)) o.2 :=
  sn_met (by decide) (fun _ => Nat.le_of_ble_eq_true rfl) (fun p e s m args below meth c ls D ct ad A C hw hl => wX8_holds_in C  hf (fun H locs ls pc hw ok hd => sn_iret C hw hd) _ _ _ hw hl)
-- X8_minutesOfFraud
abbrev rmX8_minutesOfFraud : Room := { frames := 4, cells := 0, slots := 0, locals := 95 }
def BX8_minutesOfFraud_170 (σ : sn_S) (x4 : Int32) : Option ((Int32 × sn_S)) :=
  (some (x4, σ))
def BX8_minutesOfFraud_133 (σ : sn_S) (x1 : Int32) (x2 : Int32) (x3 : Int32) (x4 : Int32) (x5 : Int32) : Option ((sn_S × Int32 × Int32) ⊕ (sn_S × Int32)) :=
  (sn_gd (sn_in x2 6) (sn_gd (sn_in x2 6) (sn_lt (sn_pI σ (38 + 5) x2.toNatClampNeg (sn_I σ (27 + 5) x2.toNatClampNeg)) fun σ_3 => ((fX0_live σ_3 38 x5 (x5 + (1 : Int32))).bind fun t_5 => (sn_lt (x5 + 1) fun y_7 => (some (.inl (t_5, x4, y_7))))))))
def BX8_minutesOfFraud_34 (σ : sn_S) (x1 : Int32) (x2 : Int32) (x3 : Int32) (x4 : Int32) (x5 : Int32) : Option ((sn_S × Int32 × Int32) ⊕ (sn_S × Int32)) :=
  (if (sn_I σ 27 0) ≤ x5 then
  (some (.inr (σ, x4)))
  else
  (sn_gd (sn_in x2 6) (sn_gd (sn_in x2 6) (sn_lt (sn_pI σ (38 + 5) x2.toNatClampNeg ((sn_I σ (27 + 5) x2.toNatClampNeg) ||| ((1 : Int32) <<< (x5 &&& 31)))) fun σ_4 => ((fX0_live σ_4 38 x5 (sn_I σ_4 27 0)).bind fun t_6 => (sn_gd (sn_in (2 : Int32) 11) (sn_gd (sn_in x2 6) (sn_gd (sn_in x2 6) ((fX3_claimBy t_6 1 (sn_I t_6 (1 + 1) (2 : Int32).toNatClampNeg) x1 (sn_I t_6 (38 + 10) x2.toNatClampNeg) (sn_I t_6 (38 + 4) x2.toNatClampNeg)).bind fun t_11 => (if t_11 ≤ x3 then
  (BX8_minutesOfFraud_133 t_6 x1 x2 x3 x4 x5)
  else
  (sn_lt (x4 ||| ((1 : Int32) <<< (x5 &&& 31))) fun y_14 => (BX8_minutesOfFraud_133 t_6 x1 x2 x3 y_14 x5))))))))))))
def LX8_minutesOfFraud_34 (x1 : Int32) (x2 : Int32) (x3 : Int32) (s : sn_S × Int32 × Int32) : Option ((sn_S × Int32 × Int32) ⊕ (sn_S × Int32)) := BX8_minutesOfFraud_34 s.1 x1 x2 x3 s.2.1 s.2.2
def fX8_minutesOfFraud (σ : sn_S) (x1 : Int32) : Option (Int32 × sn_S) :=
  ((fX2_ofPolicy σ 1 x1 (0 : Int32)).bind fun t_1 => ((fX8_claimAsIfOf σ t_1 x1).bind fun t_3 => ((fX0_copyFrom σ 38 27).bind fun t_5 => ((sn_it (LX8_minutesOfFraud_34 x1 t_1 t_3) 5000 (t_5, (0 : Int32), (0 : Int32))).bind fun t_7 => (BX8_minutesOfFraud_170 t_7.1 t_7.2)))))
theorem wX8_minutesOfFraud_170 (C : sn_C p s m args meth c RX8 cX8_minutesOfFraud 6 (some .int) D ct ad layC A) {σ : sn_S} {x4 : Int32}  {o : (Int32 × sn_S)} (hf : BX8_minutesOfFraud_170 σ x4 = some o) (kr : sn_Kr p l e rmX8_minutesOfFraud s m args below meth c Q D ct ad layC A cX8_minutesOfFraud .ireturn (true) o.2 [.int o.1]) : sn_At p l e rmX8_minutesOfFraud s m args below meth c Q D ct ad layC A 6 σ 170 [(4, .int x4)] [] := by
  intro H locs ls hw hl
  have hx := C.1
  have hb := C.2.1
  unfold BX8_minutesOfFraud_170 at hf
  refine lv_iload hx hb dX8_minutesOfFraud_170 (lv_at hl 0 rfl) ?_
  cases hf
  exact kr _ _ _ _ hw rfl dX8_minutesOfFraud_172
theorem wX8_minutesOfFraud_133 (C : sn_C p s m args meth c RX8 cX8_minutesOfFraud 6 (some .int) D ct ad layC A) {σ : sn_S} {x1 : Int32} {x2 : Int32} {x3 : Int32} {x4 : Int32} {x5 : Int32}  {o : (sn_S × Int32 × Int32) ⊕ (sn_S × Int32)} (hf : BX8_minutesOfFraud_133 σ x1 x2 x3 x4 x5 = some o) (kc : ∀ v, o = .inl v → sn_At p l e rmX8_minutesOfFraud s m args below meth c Q D ct ad layC A 6 v.1 34 [(0, .ref (ad 0)), (1, .int x1), (2, .int x2), (3, .int x3), (4, .int v.2.1), (5, .int v.2.2)] []) (kx : ∀ v, o = .inr v → sn_At p l e rmX8_minutesOfFraud s m args below meth c Q D ct ad layC A 6 v.1 170 [(4, .int v.2)] []) : sn_At p l e rmX8_minutesOfFraud s m args below meth c Q D ct ad layC A 6 σ 133 [(0, .ref (ad 0)), (1, .int x1), (2, .int x2), (3, .int x3), (4, .int x4), (5, .int x5)] [] := by
  intro H locs ls hw hl
  have hx := C.1
  have hb := C.2.1
  unfold BX8_minutesOfFraud_133 at hf
  refine lv_aload_n hx hb dX8_minutesOfFraud_133 rfl (lv_at hl 0 rfl) ?_
  refine sn_getC (r := 38) C hw fd_RX8_48 layC_0 rfl dX8_minutesOfFraud_134 ?_
  refine sn_getC (r := (38 + 5)) C hw fd_RX8_264 (sn_look sn_isX0_38 (k := 0) rfl) rfl dX8_minutesOfFraud_137 ?_
  refine lv_iload_n hx hb dX8_minutesOfFraud_140 rfl (lv_at hl 2 rfl) ?_
  refine lv_aload_n hx hb dX8_minutesOfFraud_141 rfl (lv_at hl 0 rfl) ?_
  refine sn_getC (r := 27) C hw fd_RX8_44 layC_0 rfl dX8_minutesOfFraud_142 ?_
  refine sn_getC (r := (27 + 5)) C hw fd_RX8_264 (sn_look sn_isX0_27 (k := 0) rfl) rfl dX8_minutesOfFraud_145 ?_
  refine lv_iload_n hx hb dX8_minutesOfFraud_148 rfl (lv_at hl 2 rfl) ?_
  obtain ⟨g_1, hf⟩ := sn_gdE hf
  refine sn_iald C hw (sn_look sn_isX0_27 (k := 5) rfl) g_1 dX8_minutesOfFraud_149 ?_
  obtain ⟨g_2, hf⟩ := sn_gdE hf
  refine sn_iast C hw (sn_look sn_isX0_38 (k := 5) rfl) g_2 dX8_minutesOfFraud_150 (fun H locs hw => ?_)
  obtain ⟨σ_3, e_4, hf⟩ := sn_ltE hf
  rw [← e_4] at hw
  refine lv_aload_n hx hb dX8_minutesOfFraud_151 rfl (lv_at hl 0 rfl) ?_
  refine sn_getC (r := 38) C hw fd_RX8_48 layC_0 rfl dX8_minutesOfFraud_152 ?_
  refine lv_iload hx hb dX8_minutesOfFraud_155 (lv_at hl 5 rfl) ?_
  refine lv_iload hx hb dX8_minutesOfFraud_157 (lv_at hl 5 rfl) ?_
  refine lv_iconst (v := 1) hx hb dX8_minutesOfFraud_159 rfl ?_
  refine lv_iadd hx hb dX8_minutesOfFraud_160 ?_
  obtain ⟨t_5, h_6, hf⟩ := sn_bd hf
  refine sn_callVv (rest := []) C hw (ctX0_live l sn_isX0_38 h_6) kl_RX8_267 (sn_look sn_isX0_38 (k := 0) rfl) rfl rfl rfl rfl (Nat.le_of_ble_eq_true rfl) dX8_minutesOfFraud_161 hl.1 (fun H locs hw => ?_)
  obtain ⟨y_7, e_8, hf⟩ := sn_ltE hf
  refine lv_iinc (v := y_7) (lv' := [(5, .int y_7), (0, .ref (ad 0)), (1, .int x1), (2, .int x2), (3, .int x3), (4, .int x4)]) hx hb dX8_minutesOfFraud_164 hl (k := 5) rfl (by rw [e_8]; rfl) (by decide) rfl (fun ls hl => ?_)
  refine lv_goto (tgt := 34) hx hb dX8_minutesOfFraud_167 (by decide) ?_
  cases hf
  exact kc _ rfl _ _ _ hw (lv_sub hl [1, 2, 3, 4, 5, 0] rfl)
theorem wX8_minutesOfFraud_34 (C : sn_C p s m args meth c RX8 cX8_minutesOfFraud 6 (some .int) D ct ad layC A) {σ : sn_S} {x1 : Int32} {x2 : Int32} {x3 : Int32} {x4 : Int32} {x5 : Int32}  {o : (sn_S × Int32 × Int32) ⊕ (sn_S × Int32)} (hf : BX8_minutesOfFraud_34 σ x1 x2 x3 x4 x5 = some o) (kc : ∀ v, o = .inl v → sn_At p l e rmX8_minutesOfFraud s m args below meth c Q D ct ad layC A 6 v.1 34 [(0, .ref (ad 0)), (1, .int x1), (2, .int x2), (3, .int x3), (4, .int v.2.1), (5, .int v.2.2)] []) (kx : ∀ v, o = .inr v → sn_At p l e rmX8_minutesOfFraud s m args below meth c Q D ct ad layC A 6 v.1 170 [(4, .int v.2)] []) : sn_At p l e rmX8_minutesOfFraud s m args below meth c Q D ct ad layC A 6 σ 34 [(0, .ref (ad 0)), (1, .int x1), (2, .int x2), (3, .int x3), (4, .int x4), (5, .int x5)] [] := by
  intro H locs ls hw hl
  have hx := C.1
  have hb := C.2.1
  unfold BX8_minutesOfFraud_34 at hf
  refine lv_iload hx hb dX8_minutesOfFraud_34 (lv_at hl 5 rfl) ?_
  refine lv_aload_n hx hb dX8_minutesOfFraud_36 rfl (lv_at hl 0 rfl) ?_
  refine sn_getC (r := 27) C hw fd_RX8_44 layC_0 rfl dX8_minutesOfFraud_37 ?_
  refine sn_getI C hw fd_RX8_151 (sn_look sn_isX0_27 (k := 0) rfl) rfl dX8_minutesOfFraud_40 ?_
  refine lv_icmp_ge (tgt := 170) hx hb dX8_minutesOfFraud_43 (by decide) (fun c_1 => ?_) (fun c_1 => ?_)
  · have hf := sn_if c_1 hf
    cases hf
    exact kx _ rfl _ _ _ hw (lv_sub hl [4] rfl)
  · have hf := sn_el c_1 hf
    refine lv_aload_n hx hb dX8_minutesOfFraud_46 rfl (lv_at hl 0 rfl) ?_
    refine sn_getC (r := 38) C hw fd_RX8_48 layC_0 rfl dX8_minutesOfFraud_47 ?_
    refine sn_getC (r := (38 + 5)) C hw fd_RX8_264 (sn_look sn_isX0_38 (k := 0) rfl) rfl dX8_minutesOfFraud_50 ?_
    refine lv_iload_n hx hb dX8_minutesOfFraud_53 rfl (lv_at hl 2 rfl) ?_
    refine lv_aload_n hx hb dX8_minutesOfFraud_54 rfl (lv_at hl 0 rfl) ?_
    refine sn_getC (r := 27) C hw fd_RX8_44 layC_0 rfl dX8_minutesOfFraud_55 ?_
    refine sn_getC (r := (27 + 5)) C hw fd_RX8_264 (sn_look sn_isX0_27 (k := 0) rfl) rfl dX8_minutesOfFraud_58 ?_
    refine lv_iload_n hx hb dX8_minutesOfFraud_61 rfl (lv_at hl 2 rfl) ?_
    obtain ⟨g_2, hf⟩ := sn_gdE hf
    refine sn_iald C hw (sn_look sn_isX0_27 (k := 5) rfl) g_2 dX8_minutesOfFraud_62 ?_
    refine lv_iconst (v := 1) hx hb dX8_minutesOfFraud_63 rfl ?_
    refine lv_iload hx hb dX8_minutesOfFraud_64 (lv_at hl 5 rfl) ?_
    refine lv_ishl hx hb dX8_minutesOfFraud_66 ?_
    refine lv_ior hx hb dX8_minutesOfFraud_67 ?_
    obtain ⟨g_3, hf⟩ := sn_gdE hf
    refine sn_iast C hw (sn_look sn_isX0_38 (k := 5) rfl) g_3 dX8_minutesOfFraud_68 (fun H locs hw => ?_)
    obtain ⟨σ_4, e_5, hf⟩ := sn_ltE hf
    rw [← e_5] at hw
    refine lv_aload_n hx hb dX8_minutesOfFraud_69 rfl (lv_at hl 0 rfl) ?_
    refine sn_getC (r := 38) C hw fd_RX8_48 layC_0 rfl dX8_minutesOfFraud_70 ?_
    refine lv_iload hx hb dX8_minutesOfFraud_73 (lv_at hl 5 rfl) ?_
    refine lv_aload_n hx hb dX8_minutesOfFraud_75 rfl (lv_at hl 0 rfl) ?_
    refine sn_getC (r := 27) C hw fd_RX8_44 layC_0 rfl dX8_minutesOfFraud_76 ?_
    refine sn_getI C hw fd_RX8_151 (sn_look sn_isX0_27 (k := 0) rfl) rfl dX8_minutesOfFraud_79 ?_
    obtain ⟨t_6, h_7, hf⟩ := sn_bd hf
    refine sn_callVv (rest := []) C hw (ctX0_live l sn_isX0_38 h_7) kl_RX8_267 (sn_look sn_isX0_38 (k := 0) rfl) rfl rfl rfl rfl (Nat.le_of_ble_eq_true rfl) dX8_minutesOfFraud_82 hl.1 (fun H locs hw => ?_)
    refine lv_aload_n hx hb dX8_minutesOfFraud_85 rfl (lv_at hl 0 rfl) ?_
    refine sn_getC (r := 1) C hw fd_RX8_10 layC_0 rfl dX8_minutesOfFraud_86 ?_
    refine lv_aload_n hx hb dX8_minutesOfFraud_89 rfl (lv_at hl 0 rfl) ?_
    refine sn_getC (r := 1) C hw fd_RX8_10 layC_0 rfl dX8_minutesOfFraud_90 ?_
    refine sn_getC (r := (1 + 1)) C hw fd_RX8_100 (sn_look sn_isX2_1 (k := 0) rfl) rfl dX8_minutesOfFraud_93 ?_
    refine lv_iconst (v := 2) hx hb dX8_minutesOfFraud_96 rfl ?_
    obtain ⟨g_8, hf⟩ := sn_gdE hf
    refine sn_iald C hw (sn_look sn_isX2_1 (k := 1) rfl) g_8 dX8_minutesOfFraud_97 ?_
    refine lv_iload_n hx hb dX8_minutesOfFraud_98 rfl (lv_at hl 1 rfl) ?_
    refine lv_aload_n hx hb dX8_minutesOfFraud_99 rfl (lv_at hl 0 rfl) ?_
    refine sn_getC (r := 38) C hw fd_RX8_48 layC_0 rfl dX8_minutesOfFraud_100 ?_
    refine sn_getC (r := (38 + 10)) C hw fd_RX8_131 (sn_look sn_isX0_38 (k := 0) rfl) rfl dX8_minutesOfFraud_103 ?_
    refine lv_iload_n hx hb dX8_minutesOfFraud_106 rfl (lv_at hl 2 rfl) ?_
    obtain ⟨g_9, hf⟩ := sn_gdE hf
    refine sn_iald C hw (sn_look sn_isX0_38 (k := 10) rfl) g_9 dX8_minutesOfFraud_107 ?_
    refine lv_aload_n hx hb dX8_minutesOfFraud_108 rfl (lv_at hl 0 rfl) ?_
    refine sn_getC (r := 38) C hw fd_RX8_48 layC_0 rfl dX8_minutesOfFraud_109 ?_
    refine sn_getC (r := (38 + 4)) C hw fd_RX8_196 (sn_look sn_isX0_38 (k := 0) rfl) rfl dX8_minutesOfFraud_112 ?_
    refine lv_iload_n hx hb dX8_minutesOfFraud_115 rfl (lv_at hl 2 rfl) ?_
    obtain ⟨g_10, hf⟩ := sn_gdE hf
    refine sn_iald C hw (sn_look sn_isX0_38 (k := 4) rfl) g_10 dX8_minutesOfFraud_116 ?_
    obtain ⟨t_11, h_12, hf⟩ := sn_bd hf
    refine sn_callSi (rest := []) C hw (ctX3_claimBy l sn_isX2_1 h_12) kl_RX8_250 rfl rfl rfl (Nat.le_of_ble_eq_true rfl) dX8_minutesOfFraud_117 hl.1 (fun H locs hw => ?_)
    refine lv_iload_n hx hb dX8_minutesOfFraud_120 rfl (lv_at hl 3 rfl) ?_
    refine lv_icmp_le (tgt := 133) hx hb dX8_minutesOfFraud_121 (by decide) (fun c_13 => ?_) (fun c_13 => ?_)
    · have hf := sn_if c_13 hf
      exact wX8_minutesOfFraud_133 C  hf kc kx _ _ _ hw (lv_sub hl [0, 1, 2, 3, 4, 5] rfl)
    · have hf := sn_el c_13 hf
      refine lv_iload hx hb dX8_minutesOfFraud_124 (lv_at hl 4 rfl) ?_
      refine lv_iconst (v := 1) hx hb dX8_minutesOfFraud_126 rfl ?_
      refine lv_iload hx hb dX8_minutesOfFraud_127 (lv_at hl 5 rfl) ?_
      refine lv_ishl hx hb dX8_minutesOfFraud_129 ?_
      refine lv_ior hx hb dX8_minutesOfFraud_130 ?_
      obtain ⟨y_14, e_15, hf⟩ := sn_ltE hf
      refine lv_topi (fun y_14_ e_15_ => ?_)
      obtain rfl : y_14 = y_14_ := e_15.trans e_15_.symm
      refine lv_istore (lv' := [(4, .int y_14), (0, .ref (ad 0)), (1, .int x1), (2, .int x2), (3, .int x3), (5, .int x5)]) hx hb dX8_minutesOfFraud_131 hl (by decide) rfl (fun ls hl => ?_)
      exact wX8_minutesOfFraud_133 C  hf kc kx _ _ _ hw (lv_sub hl [1, 2, 3, 4, 0, 5] rfl)
theorem wX8_minutesOfFraud_L34 (C : sn_C p s m args meth c RX8 cX8_minutesOfFraud 6 (some .int) D ct ad layC A) {x1 : Int32} {x2 : Int32} {x3 : Int32}   {z : sn_S × Int32 × Int32} {t : sn_S × Int32} (h : sn_it (LX8_minutesOfFraud_34 x1 x2 x3) 5000 z = some t) (kx : ∀ v, t = v → sn_At p l e rmX8_minutesOfFraud s m args below meth c Q D ct ad layC A 6 v.1 170 [(4, .int v.2)] []) : sn_At p l e rmX8_minutesOfFraud s m args below meth c Q D ct ad layC A 6 z.1 34 [(0, .ref (ad 0)), (1, .int x1), (2, .int x2), (3, .int x3), (4, .int z.2.1), (5, .int z.2.2)] [] :=
  sn_loop (f := LX8_minutesOfFraud_34 x1 x2 x3) (G := fun z => sn_At p l e rmX8_minutesOfFraud s m args below meth c Q D ct ad layC A 6 z.1 34 [(0, .ref (ad 0)), (1, .int x1), (2, .int x2), (3, .int x3), (4, .int z.2.1), (5, .int z.2.2)] []) (E := fun t => (∀ v, t = v → sn_At p l e rmX8_minutesOfFraud s m args below meth c Q D ct ad layC A 6 v.1 170 [(4, .int v.2)] []) ∧ True) (fun z o hf k1 k2 => wX8_minutesOfFraud_34 C  hf (fun v e => k1 v e) (fun v e => (k2 _ e).1 v rfl)) 5000 z t h ⟨kx, trivial⟩
theorem wX8_minutesOfFraud_in (C : sn_C p s m args meth c RX8 cX8_minutesOfFraud 6 (some .int) D ct ad layC A) {σ : sn_S} {x1 : Int32}  {o : (Int32 × sn_S)} (hf : fX8_minutesOfFraud σ x1 = some o) (kr : sn_Kr p l e rmX8_minutesOfFraud s m args below meth c Q D ct ad layC A cX8_minutesOfFraud .ireturn (true) o.2 [.int o.1]) : sn_At p l e rmX8_minutesOfFraud s m args below meth c Q D ct ad layC A 6 σ 0 [(0, .ref (ad 0)), (1, .int x1)] [] := by
  intro H locs ls hw hl
  have hx := C.1
  have hb := C.2.1
  unfold fX8_minutesOfFraud at hf
  refine lv_aload_n hx hb dX8_minutesOfFraud_0 rfl (lv_at hl 0 rfl) ?_
  refine sn_getC (r := 1) C hw fd_RX8_10 layC_0 rfl dX8_minutesOfFraud_1 ?_
  refine lv_iload_n hx hb dX8_minutesOfFraud_4 rfl (lv_at hl 1 rfl) ?_
  refine lv_iconst (v := 0) hx hb dX8_minutesOfFraud_5 rfl ?_
  obtain ⟨t_1, h_2, hf⟩ := sn_bd hf
  refine sn_callVi (rest := []) C hw (ctX2_ofPolicy l sn_isX2_1 h_2) kl_RX8_117 (sn_look sn_isX2_1 (k := 0) rfl) rfl rfl rfl rfl (Nat.le_of_ble_eq_true rfl) dX8_minutesOfFraud_6 hl.1 (fun H locs hw => ?_)
  refine lv_istore_n (lv' := [(2, .int t_1), (0, .ref (ad 0)), (1, .int x1)]) hx hb dX8_minutesOfFraud_9 rfl hl (by decide) rfl (fun ls hl => ?_)
  refine lv_aload_n hx hb dX8_minutesOfFraud_10 rfl (lv_at hl 1 rfl) ?_
  refine lv_iload_n hx hb dX8_minutesOfFraud_11 rfl (lv_at hl 0 rfl) ?_
  refine lv_iload_n hx hb dX8_minutesOfFraud_12 rfl (lv_at hl 2 rfl) ?_
  obtain ⟨t_3, h_4, hf⟩ := sn_bd hf
  refine sn_callVi (rest := []) C hw (ctX8_claimAsIfOf l  h_4) kl_RX8_247 layC_0 rfl rfl rfl rfl (Nat.le_of_ble_eq_true rfl) dX8_minutesOfFraud_13 hl.1 (fun H locs hw => ?_)
  refine lv_istore_n (lv' := [(3, .int t_3), (2, .int t_1), (0, .ref (ad 0)), (1, .int x1)]) hx hb dX8_minutesOfFraud_16 rfl hl (by decide) rfl (fun ls hl => ?_)
  refine lv_iconst (v := 0) hx hb dX8_minutesOfFraud_17 rfl ?_
  refine lv_istore (lv' := [(4, .int (0 : Int32)), (3, .int t_3), (2, .int t_1), (0, .ref (ad 0)), (1, .int x1)]) hx hb dX8_minutesOfFraud_18 hl (by decide) rfl (fun ls hl => ?_)
  refine lv_aload_n hx hb dX8_minutesOfFraud_20 rfl (lv_at hl 3 rfl) ?_
  refine sn_getC (r := 38) C hw fd_RX8_48 layC_0 rfl dX8_minutesOfFraud_21 ?_
  refine lv_aload_n hx hb dX8_minutesOfFraud_24 rfl (lv_at hl 3 rfl) ?_
  refine sn_getC (r := 27) C hw fd_RX8_44 layC_0 rfl dX8_minutesOfFraud_25 ?_
  obtain ⟨t_5, h_6, hf⟩ := sn_bd hf
  refine sn_callVv (rest := []) C hw (ctX0_copyFrom l sn_isX0_38 sn_isX0_27 h_6) kl_RX8_183 (sn_look sn_isX0_38 (k := 0) rfl) rfl rfl rfl rfl (Nat.le_of_ble_eq_true rfl) dX8_minutesOfFraud_28 hl.1 (fun H locs hw => ?_)
  refine lv_iconst (v := 0) hx hb dX8_minutesOfFraud_31 rfl ?_
  refine lv_istore (lv' := [(5, .int (0 : Int32)), (4, .int (0 : Int32)), (3, .int t_3), (2, .int t_1), (0, .ref (ad 0)), (1, .int x1)]) hx hb dX8_minutesOfFraud_32 hl (by decide) rfl (fun ls hl => ?_)
  obtain ⟨t_7, h_8, hf⟩ := sn_bd hf
  exact wX8_minutesOfFraud_L34 C  h_8 (fun v e => by cases e; exact wX8_minutesOfFraud_170 C  hf kr) _ _ _ hw (lv_sub hl [4, 5, 3, 2, 1, 0] rfl)
theorem ctX8_minutesOfFraud (l : Launch) {σ : sn_S} {x1 : Int32}  {o : (Int32 × sn_S)} (hf : fX8_minutesOfFraud σ x1 = some o) : sn_M l yX8_minutesOfFraud cX8_minutesOfFraud 6 (some .int) rmX8_minutesOfFraud layC (fun ad => [.ref (ad 0), .int x1]) σ (some (fun _ => .int o.1)) o.2 :=
  sn_met (by decide) (fun _ => Nat.le_of_ble_eq_true rfl) (fun p e s m args below meth c ls D ct ad A C hw hl => wX8_minutesOfFraud_in C  hf (fun H locs ls pc hw ok hd => sn_iret C hw hd) _ _ _ hw hl)
-- X8_snuff
abbrev rmX8_snuff : Room := { frames := 5, cells := 0, slots := 0, locals := 120 }
def fX8_snuff (σ : sn_S) (x1 : Int32) : Option (Int32 × sn_S) :=
  ((fX8_isPolicy σ x1).bind fun t_1 => (if t_1 = 0 then
  (some ((-2 : Int32), σ))
  else
  ((fX8_minutesOfFraud σ x1).bind fun t_4 => ((fX8_lowestBit t_4.1).bind fun t_6 => (some (t_6, t_4.2))))))
theorem wX8_snuff_in (C : sn_C p s m args meth c RX8 cX8_snuff 2 (some .int) D ct ad layC A) {σ : sn_S} {x1 : Int32}  {o : (Int32 × sn_S)} (hf : fX8_snuff σ x1 = some o) (kr : sn_Kr p l e rmX8_snuff s m args below meth c Q D ct ad layC A cX8_snuff .ireturn (true) o.2 [.int o.1]) : sn_At p l e rmX8_snuff s m args below meth c Q D ct ad layC A 2 σ 0 [(0, .ref (ad 0)), (1, .int x1)] [] := by
  intro H locs ls hw hl
  have hx := C.1
  have hb := C.2.1
  unfold fX8_snuff at hf
  refine lv_aload_n hx hb dX8_snuff_0 rfl (lv_at hl 0 rfl) ?_
  refine lv_iload_n hx hb dX8_snuff_1 rfl (lv_at hl 1 rfl) ?_
  obtain ⟨t_1, h_2, hf⟩ := sn_bd hf
  refine sn_callVi (rest := []) C hw (ctX8_isPolicy l  h_2) kl_RX8_114 layC_0 rfl rfl rfl rfl (Nat.le_of_ble_eq_true rfl) dX8_snuff_2 hl.1 (fun H locs hw => ?_)
  refine lv_if_eq (tgt := 19) hx hb dX8_snuff_5 (by decide) (fun c_3 => ?_) (fun c_3 => ?_)
  · have hf := sn_if c_3 hf
    refine lv_bipush (v := (-2)) hx hb dX8_snuff_19 (by decide) ?_
    cases hf
    exact kr _ _ _ _ hw rfl dX8_snuff_21
  · have hf := sn_el c_3 hf
    refine lv_aload_n hx hb dX8_snuff_8 rfl (lv_at hl 0 rfl) ?_
    refine lv_iload_n hx hb dX8_snuff_9 rfl (lv_at hl 1 rfl) ?_
    obtain ⟨t_4, h_5, hf⟩ := sn_bd hf
    refine sn_callVi (rest := []) C hw (ctX8_minutesOfFraud l  h_5) kl_RX8_261 layC_0 rfl rfl rfl rfl (Nat.le_of_ble_eq_true rfl) dX8_snuff_10 hl.1 (fun H locs hw => ?_)
    obtain ⟨t_6, h_7, hf⟩ := sn_bd hf
    refine sn_callSi (rest := []) C hw (ctX8_lowestBit l  h_7) kl_RX8_134 rfl rfl rfl (Nat.le_of_ble_eq_true rfl) dX8_snuff_13 hl.1 (fun H locs hw => ?_)
    refine lv_goto (tgt := 21) hx hb dX8_snuff_16 (by decide) ?_
    cases hf
    exact kr _ _ _ _ hw rfl dX8_snuff_21
theorem ctX8_snuff (l : Launch) {σ : sn_S} {x1 : Int32}  {o : (Int32 × sn_S)} (hf : fX8_snuff σ x1 = some o) : sn_M l yX8_snuff cX8_snuff 2 (some .int) rmX8_snuff layC (fun ad => [.ref (ad 0), .int x1]) σ (some (fun _ => .int o.1)) o.2 :=
  sn_met (by decide) (fun _ => Nat.le_of_ble_eq_true rfl) (fun p e s m args below meth c ls D ct ad A C hw hl => wX8_snuff_in C  hf (fun H locs ls pc hw ok hd => sn_iret C hw hd) _ _ _ hw hl)
-- X8_frauds
abbrev rmX8_frauds : Room := { frames := 5, cells := 0, slots := 0, locals := 120 }
def fX8_frauds (σ : sn_S) (x1 : Int32) : Option (Int32 × sn_S) :=
  ((fX8_isPolicy σ x1).bind fun t_1 => (if t_1 = 0 then
  (some ((-2 : Int32), σ))
  else
  ((fX8_minutesOfFraud σ x1).bind fun t_4 => (some (t_4.1, t_4.2)))))
theorem wX8_frauds_in (C : sn_C p s m args meth c RX8 cX8_frauds 2 (some .int) D ct ad layC A) {σ : sn_S} {x1 : Int32}  {o : (Int32 × sn_S)} (hf : fX8_frauds σ x1 = some o) (kr : sn_Kr p l e rmX8_frauds s m args below meth c Q D ct ad layC A cX8_frauds .ireturn (true) o.2 [.int o.1]) : sn_At p l e rmX8_frauds s m args below meth c Q D ct ad layC A 2 σ 0 [(0, .ref (ad 0)), (1, .int x1)] [] := by
  intro H locs ls hw hl
  have hx := C.1
  have hb := C.2.1
  unfold fX8_frauds at hf
  refine lv_aload_n hx hb dX8_frauds_0 rfl (lv_at hl 0 rfl) ?_
  refine lv_iload_n hx hb dX8_frauds_1 rfl (lv_at hl 1 rfl) ?_
  obtain ⟨t_1, h_2, hf⟩ := sn_bd hf
  refine sn_callVi (rest := []) C hw (ctX8_isPolicy l  h_2) kl_RX8_114 layC_0 rfl rfl rfl rfl (Nat.le_of_ble_eq_true rfl) dX8_frauds_2 hl.1 (fun H locs hw => ?_)
  refine lv_if_eq (tgt := 16) hx hb dX8_frauds_5 (by decide) (fun c_3 => ?_) (fun c_3 => ?_)
  · have hf := sn_if c_3 hf
    refine lv_bipush (v := (-2)) hx hb dX8_frauds_16 (by decide) ?_
    cases hf
    exact kr _ _ _ _ hw rfl dX8_frauds_18
  · have hf := sn_el c_3 hf
    refine lv_aload_n hx hb dX8_frauds_8 rfl (lv_at hl 0 rfl) ?_
    refine lv_iload_n hx hb dX8_frauds_9 rfl (lv_at hl 1 rfl) ?_
    obtain ⟨t_4, h_5, hf⟩ := sn_bd hf
    refine sn_callVi (rest := []) C hw (ctX8_minutesOfFraud l  h_5) kl_RX8_261 layC_0 rfl rfl rfl rfl (Nat.le_of_ble_eq_true rfl) dX8_frauds_10 hl.1 (fun H locs hw => ?_)
    refine lv_goto (tgt := 18) hx hb dX8_frauds_13 (by decide) ?_
    cases hf
    exact kr _ _ _ _ hw rfl dX8_frauds_18
theorem ctX8_frauds (l : Launch) {σ : sn_S} {x1 : Int32}  {o : (Int32 × sn_S)} (hf : fX8_frauds σ x1 = some o) : sn_M l yX8_frauds cX8_frauds 2 (some .int) rmX8_frauds layC (fun ad => [.ref (ad 0), .int x1]) σ (some (fun _ => .int o.1)) o.2 :=
  sn_met (by decide) (fun _ => Nat.le_of_ble_eq_true rfl) (fun p e s m args below meth c ls D ct ad A C hw hl => wX8_frauds_in C  hf (fun H locs ls pc hw ok hd => sn_iret C hw hd) _ _ _ hw hl)
-- X8_seek
abbrev rmX8_seek : Room := { frames := 5, cells := 0, slots := 0, locals := 117 }
def BX8_seek_166 (σ : sn_S) : Option ((Int32 × sn_S)) :=
  ((fX7_seekIn σ 27 38).bind fun t_1 => (some ((0 : Int32), t_1)))
def BX8_seek_57 (σ : sn_S) (x1 : Int32) (x2 : Int32) : Option ((sn_S × Int32) ⊕ ((sn_S) ⊕ (Int32 × sn_S))) :=
  (sn_gd (sn_in x1 4) (if (sn_I σ 26 x1.toNatClampNeg) ≤ (x2 + (1 : Int32)) then
  (some (.inr (.inl (σ))))
  else
  (sn_gd (sn_in x1 4) (sn_gd (sn_in x2 60) (sn_lt (sn_L σ (sn_at sn_rs20 x1) x2.toNatClampNeg) fun y_5 => (sn_gd (sn_in x1 4) (sn_gd (sn_in (x2 + (1 : Int32)) 60) (sn_lt (sn_L σ (sn_at sn_rs20 x1) (x2 + (1 : Int32)).toNatClampNeg) fun y_9 => (if (lg_cmp y_5 (0 : Int64)) < 0 then
  (some (.inr (.inr ((-2 : Int32), σ))))
  else
  (if 0 ≤ (lg_cmp y_5 ((sn_I σ 27 1).toInt64)) then
  (some (.inr (.inr ((-2 : Int32), σ))))
  else
  (if (lg_cmp y_9 (0 : Int64)) < 0 then
  (some (.inr (.inr ((-2 : Int32), σ))))
  else
  (if (lg_cmp y_9 ((sn_I σ 27 0).toInt64)) < 0 then
  (sn_gd (sn_in y_5.toInt32 6) (sn_gd (sn_in y_5.toInt32 6) (sn_lt (sn_pI σ 55 y_5.toInt32.toNatClampNeg ((sn_I σ 55 y_5.toInt32.toNatClampNeg) ||| ((1 : Int32) <<< (y_9.toInt32 &&& 31)))) fun σ_17 => (sn_lt (x2 + 2) fun y_19 => (some (.inl (σ_17, y_19)))))))
  else
  (some (.inr (.inr ((-2 : Int32), σ))))))))))))))))
def LX8_seek_57 (x1 : Int32) (s : sn_S × Int32) : Option ((sn_S × Int32) ⊕ ((sn_S) ⊕ (Int32 × sn_S))) := BX8_seek_57 s.1 x1 s.2
def fX8_seek (σ : sn_S) (x1 : Int32) : Option (Int32 × sn_S) :=
  ((fX6_isSlot x1).bind fun t_1 => (if t_1 = 0 then
  (some ((-2 : Int32), σ))
  else
  ((fX8_isHouse σ).bind fun t_4 => (if t_4 = 0 then
  (some ((-2 : Int32), σ))
  else
  ((fX6_has σ x1).bind fun t_7 => (if t_7 = 0 then
  (some ((-6 : Int32), σ))
  else
  (sn_gd (sn_in x1 4) (if ((sn_I σ 26 x1.toNatClampNeg) - (sn_I σ 26 x1.toNatClampNeg) / (2 : Int32) * (2 : Int32)) = 0 then
  ((fX7_forget σ).bind fun t_12 => ((sn_it (LX8_seek_57 x1) 5000 (t_12, (0 : Int32))).bind fun t_14 => Sum.elim (fun v_16 => (BX8_seek_166 v_16)) (fun r_17 => (some r_17)) t_14))
  else
  (some ((-2 : Int32), σ))))))))))
theorem wX8_seek_166 (C : sn_C p s m args meth c RX8 cX8_seek 7 (some .int) D ct ad layC A) {σ : sn_S}  {o : (Int32 × sn_S)} (hf : BX8_seek_166 σ = some o) (kr : sn_Kr p l e rmX8_seek s m args below meth c Q D ct ad layC A cX8_seek .ireturn (true) o.2 [.int o.1]) : sn_At p l e rmX8_seek s m args below meth c Q D ct ad layC A 7 σ 166 [(0, .ref (ad 0))] [] := by
  intro H locs ls hw hl
  have hx := C.1
  have hb := C.2.1
  unfold BX8_seek_166 at hf
  refine lv_aload_n hx hb dX8_seek_166 rfl (lv_at hl 0 rfl) ?_
  refine sn_getC (r := 54) C hw fd_RX8_68 layC_0 rfl dX8_seek_167 ?_
  refine lv_aload_n hx hb dX8_seek_170 rfl (lv_at hl 0 rfl) ?_
  refine sn_getC (r := 27) C hw fd_RX8_44 layC_0 rfl dX8_seek_171 ?_
  refine lv_aload_n hx hb dX8_seek_174 rfl (lv_at hl 0 rfl) ?_
  refine sn_getC (r := 38) C hw fd_RX8_48 layC_0 rfl dX8_seek_175 ?_
  obtain ⟨t_1, h_2, hf⟩ := sn_bd hf
  refine sn_callVv (rest := []) C hw (ctX7_seekIn l sn_isX0_27 sn_isX0_38 h_2) kl_RX8_306 layC_54 rfl rfl rfl rfl (Nat.le_of_ble_eq_true rfl) dX8_seek_178 hl.1 (fun H locs hw => ?_)
  refine lv_iconst (v := 0) hx hb dX8_seek_181 rfl ?_
  cases hf
  exact kr _ _ _ _ hw rfl dX8_seek_182
theorem wX8_seek_57 (C : sn_C p s m args meth c RX8 cX8_seek 7 (some .int) D ct ad layC A) {σ : sn_S} {x1 : Int32} {x2 : Int32}  {o : (sn_S × Int32) ⊕ ((sn_S) ⊕ (Int32 × sn_S))} (hf : BX8_seek_57 σ x1 x2 = some o) (kc : ∀ v, o = .inl v → sn_At p l e rmX8_seek s m args below meth c Q D ct ad layC A 7 v.1 57 [(0, .ref (ad 0)), (1, .int x1), (2, .int v.2)] []) (kx : ∀ v, o = .inr (.inl v) → sn_At p l e rmX8_seek s m args below meth c Q D ct ad layC A 7 v 166 [(0, .ref (ad 0))] []) (kr : ∀ r, o = .inr (.inr r) → sn_Kr p l e rmX8_seek s m args below meth c Q D ct ad layC A cX8_seek .ireturn (true) r.2 [.int r.1]) : sn_At p l e rmX8_seek s m args below meth c Q D ct ad layC A 7 σ 57 [(0, .ref (ad 0)), (1, .int x1), (2, .int x2)] [] := by
  intro H locs ls hw hl
  have hx := C.1
  have hb := C.2.1
  unfold BX8_seek_57 at hf
  refine lv_iload_n hx hb dX8_seek_57 rfl (lv_at hl 2 rfl) ?_
  refine lv_iconst (v := 1) hx hb dX8_seek_58 rfl ?_
  refine lv_iadd hx hb dX8_seek_59 ?_
  refine lv_aload_n hx hb dX8_seek_60 rfl (lv_at hl 0 rfl) ?_
  refine sn_getC (r := 19) C hw fd_RX8_37 layC_0 rfl dX8_seek_61 ?_
  refine sn_getC (r := 26) C hw fd_RX8_293 layC_19 rfl dX8_seek_64 ?_
  refine lv_iload_n hx hb dX8_seek_67 rfl (lv_at hl 1 rfl) ?_
  obtain ⟨g_1, hf⟩ := sn_gdE hf
  refine sn_iald C hw layC_26 g_1 dX8_seek_68 ?_
  refine lv_icmp_ge (tgt := 166) hx hb dX8_seek_69 (by decide) (fun c_2 => ?_) (fun c_2 => ?_)
  · have hf := sn_if c_2 hf
    cases hf
    exact kx _ rfl _ _ _ hw (lv_sub hl [0] rfl)
  · have hf := sn_el c_2 hf
    refine lv_aload_n hx hb dX8_seek_72 rfl (lv_at hl 0 rfl) ?_
    refine sn_getC (r := 19) C hw fd_RX8_37 layC_0 rfl dX8_seek_73 ?_
    refine sn_getC (r := 20) C hw fd_RX8_299 layC_19 rfl dX8_seek_76 ?_
    refine lv_iload_n hx hb dX8_seek_79 rfl (lv_at hl 1 rfl) ?_
    obtain ⟨g_3, hf⟩ := sn_gdE hf
    refine sn_aldA C hw layC_20 rfl g_3 dX8_seek_80 ?_
    refine lv_iload_n hx hb dX8_seek_81 rfl (lv_at hl 2 rfl) ?_
    obtain ⟨g_4, hf⟩ := sn_gdE hf
    refine sn_lald C hw (sn_rs_row g_3) g_4 dX8_seek_82 ?_
    obtain ⟨y_5, e_6, hf⟩ := sn_ltE hf
    refine lv_topl (fun y_5_ e_6_ => ?_)
    obtain rfl : y_5 = y_5_ := e_6.trans e_6_.symm
    refine lv_lstore_n (lv' := [(3, .long y_5), (0, .ref (ad 0)), (1, .int x1), (2, .int x2)]) hx hb dX8_seek_83 rfl hl (by decide) rfl (fun ls hl => ?_)
    refine lv_aload_n hx hb dX8_seek_84 rfl (lv_at hl 1 rfl) ?_
    refine sn_getC (r := 19) C hw fd_RX8_37 layC_0 rfl dX8_seek_85 ?_
    refine sn_getC (r := 20) C hw fd_RX8_299 layC_19 rfl dX8_seek_88 ?_
    refine lv_iload_n hx hb dX8_seek_91 rfl (lv_at hl 2 rfl) ?_
    obtain ⟨g_7, hf⟩ := sn_gdE hf
    refine sn_aldA C hw layC_20 rfl g_7 dX8_seek_92 ?_
    refine lv_iload_n hx hb dX8_seek_93 rfl (lv_at hl 3 rfl) ?_
    refine lv_iconst (v := 1) hx hb dX8_seek_94 rfl ?_
    refine lv_iadd hx hb dX8_seek_95 ?_
    obtain ⟨g_8, hf⟩ := sn_gdE hf
    refine sn_lald C hw (sn_rs_row g_7) g_8 dX8_seek_96 ?_
    obtain ⟨y_9, e_10, hf⟩ := sn_ltE hf
    refine lv_topl (fun y_9_ e_10_ => ?_)
    obtain rfl : y_9 = y_9_ := e_10.trans e_10_.symm
    refine lv_lstore (lv' := [(5, .long y_9), (3, .long y_5), (0, .ref (ad 0)), (1, .int x1), (2, .int x2)]) hx hb dX8_seek_97 hl (by decide) rfl (fun ls hl => ?_)
    refine lv_lload_n hx hb dX8_seek_99 rfl (lv_at hl 1 rfl) ?_
    refine lv_lconst (v := 0) hx hb dX8_seek_100 rfl ?_
    refine W.lcmp hx hb dX8_seek_101 ?_
    refine lv_if_lt (tgt := 139) hx hb dX8_seek_102 (by decide) (fun c_11 => ?_) (fun c_11 => ?_)
    · have hf := sn_if c_11 hf
      refine lv_bipush (v := (-2)) hx hb dX8_seek_139 (by decide) ?_
      cases hf
      exact kr _ rfl _ _ _ _ hw rfl dX8_seek_141
    · have hf := sn_el c_11 hf
      refine lv_lload_n hx hb dX8_seek_105 rfl (lv_at hl 1 rfl) ?_
      refine lv_aload_n hx hb dX8_seek_106 rfl (lv_at hl 2 rfl) ?_
      refine sn_getC (r := 27) C hw fd_RX8_44 layC_0 rfl dX8_seek_107 ?_
      refine sn_getI C hw fd_RX8_162 (sn_look sn_isX0_27 (k := 0) rfl) rfl dX8_seek_110 ?_
      refine lv_i2l hx hb dX8_seek_113 rfl ?_
      refine W.lcmp hx hb dX8_seek_114 ?_
      refine lv_if_ge (tgt := 139) hx hb dX8_seek_115 (by decide) (fun c_12 => ?_) (fun c_12 => ?_)
      · have hf := sn_if c_12 hf
        refine lv_bipush (v := (-2)) hx hb dX8_seek_139 (by decide) ?_
        cases hf
        exact kr _ rfl _ _ _ _ hw rfl dX8_seek_141
      · have hf := sn_el c_12 hf
        refine lv_lload hx hb dX8_seek_118 (lv_at hl 0 rfl) ?_
        refine lv_lconst (v := 0) hx hb dX8_seek_120 rfl ?_
        refine W.lcmp hx hb dX8_seek_121 ?_
        refine lv_if_lt (tgt := 139) hx hb dX8_seek_122 (by decide) (fun c_13 => ?_) (fun c_13 => ?_)
        · have hf := sn_if c_13 hf
          refine lv_bipush (v := (-2)) hx hb dX8_seek_139 (by decide) ?_
          cases hf
          exact kr _ rfl _ _ _ _ hw rfl dX8_seek_141
        · have hf := sn_el c_13 hf
          refine lv_lload hx hb dX8_seek_125 (lv_at hl 0 rfl) ?_
          refine lv_aload_n hx hb dX8_seek_127 rfl (lv_at hl 2 rfl) ?_
          refine sn_getC (r := 27) C hw fd_RX8_44 layC_0 rfl dX8_seek_128 ?_
          refine sn_getI C hw fd_RX8_151 (sn_look sn_isX0_27 (k := 0) rfl) rfl dX8_seek_131 ?_
          refine lv_i2l hx hb dX8_seek_134 rfl ?_
          refine W.lcmp hx hb dX8_seek_135 ?_
          refine lv_if_lt (tgt := 142) hx hb dX8_seek_136 (by decide) (fun c_14 => ?_) (fun c_14 => ?_)
          · have hf := sn_if c_14 hf
            refine lv_aload_n hx hb dX8_seek_142 rfl (lv_at hl 2 rfl) ?_
            refine sn_getC (r := 54) C hw fd_RX8_68 layC_0 rfl dX8_seek_143 ?_
            refine sn_getC (r := 55) C hw fd_RX8_303 layC_54 rfl dX8_seek_146 ?_
            refine lv_lload_n hx hb dX8_seek_149 rfl (lv_at hl 1 rfl) ?_
            refine lv_l2i hx hb dX8_seek_150 rfl ?_
            refine lv_dup2_11 hx hb dX8_seek_151 rfl rfl ?_
            obtain ⟨g_15, hf⟩ := sn_gdE hf
            refine sn_iald C hw layC_55 g_15 dX8_seek_152 ?_
            refine lv_iconst (v := 1) hx hb dX8_seek_153 rfl ?_
            refine lv_lload hx hb dX8_seek_154 (lv_at hl 0 rfl) ?_
            refine lv_l2i hx hb dX8_seek_156 rfl ?_
            refine lv_ishl hx hb dX8_seek_157 ?_
            refine lv_ior hx hb dX8_seek_158 ?_
            obtain ⟨g_16, hf⟩ := sn_gdE hf
            refine sn_iast C hw layC_55 g_16 dX8_seek_159 (fun H locs hw => ?_)
            obtain ⟨σ_17, e_18, hf⟩ := sn_ltE hf
            rw [← e_18] at hw
            obtain ⟨y_19, e_20, hf⟩ := sn_ltE hf
            refine lv_iinc (v := y_19) (lv' := [(2, .int y_19), (5, .long y_9), (3, .long y_5), (0, .ref (ad 0)), (1, .int x1)]) hx hb dX8_seek_160 hl (k := 4) rfl (by rw [e_20]; rfl) (by decide) rfl (fun ls hl => ?_)
            refine lv_goto (tgt := 57) hx hb dX8_seek_163 (by decide) ?_
            cases hf
            exact kc _ rfl _ _ _ hw (lv_sub hl [3, 4, 0] rfl)
          · have hf := sn_el c_14 hf
            refine lv_bipush (v := (-2)) hx hb dX8_seek_139 (by decide) ?_
            cases hf
            exact kr _ rfl _ _ _ _ hw rfl dX8_seek_141
theorem wX8_seek_L57 (C : sn_C p s m args meth c RX8 cX8_seek 7 (some .int) D ct ad layC A) {x1 : Int32}   {z : sn_S × Int32} {t : (sn_S) ⊕ (Int32 × sn_S)} (h : sn_it (LX8_seek_57 x1) 5000 z = some t) (kx : ∀ v, t = .inl v → sn_At p l e rmX8_seek s m args below meth c Q D ct ad layC A 7 v 166 [(0, .ref (ad 0))] []) (kr : ∀ r, t = .inr r → sn_Kr p l e rmX8_seek s m args below meth c Q D ct ad layC A cX8_seek .ireturn (true) r.2 [.int r.1]) : sn_At p l e rmX8_seek s m args below meth c Q D ct ad layC A 7 z.1 57 [(0, .ref (ad 0)), (1, .int x1), (2, .int z.2)] [] :=
  sn_loop (f := LX8_seek_57 x1) (G := fun z => sn_At p l e rmX8_seek s m args below meth c Q D ct ad layC A 7 z.1 57 [(0, .ref (ad 0)), (1, .int x1), (2, .int z.2)] []) (E := fun t => (∀ v, t = .inl v → sn_At p l e rmX8_seek s m args below meth c Q D ct ad layC A 7 v 166 [(0, .ref (ad 0))] []) ∧ (∀ r, t = .inr r → sn_Kr p l e rmX8_seek s m args below meth c Q D ct ad layC A cX8_seek .ireturn (true) r.2 [.int r.1])) (fun z o hf k1 k2 => wX8_seek_57 C  hf (fun v e => k1 v e) (fun v e => (k2 _ e).1 v rfl) (fun r e => (k2 _ e).2 r rfl)) 5000 z t h ⟨kx, kr⟩
theorem wX8_seek_in (C : sn_C p s m args meth c RX8 cX8_seek 7 (some .int) D ct ad layC A) {σ : sn_S} {x1 : Int32}  {o : (Int32 × sn_S)} (hf : fX8_seek σ x1 = some o) (kr : sn_Kr p l e rmX8_seek s m args below meth c Q D ct ad layC A cX8_seek .ireturn (true) o.2 [.int o.1]) : sn_At p l e rmX8_seek s m args below meth c Q D ct ad layC A 7 σ 0 [(0, .ref (ad 0)), (1, .int x1)] [] := by
  intro H locs ls hw hl
  have hx := C.1
  have hb := C.2.1
  unfold fX8_seek at hf
  refine lv_iload_n hx hb dX8_seek_0 rfl (lv_at hl 1 rfl) ?_
  obtain ⟨t_1, h_2, hf⟩ := sn_bd hf
  refine sn_callSi (rest := []) C hw (ctX6_isSlot l  h_2) kl_RX8_287 rfl rfl rfl (Nat.le_of_ble_eq_true rfl) dX8_seek_1 hl.1 (fun H locs hw => ?_)
  refine lv_if_eq (tgt := 14) hx hb dX8_seek_4 (by decide) (fun c_3 => ?_) (fun c_3 => ?_)
  · have hf := sn_if c_3 hf
    refine lv_bipush (v := (-2)) hx hb dX8_seek_14 (by decide) ?_
    cases hf
    exact kr _ _ _ _ hw rfl dX8_seek_16
  · have hf := sn_el c_3 hf
    refine lv_aload_n hx hb dX8_seek_7 rfl (lv_at hl 0 rfl) ?_
    obtain ⟨t_4, h_5, hf⟩ := sn_bd hf
    refine sn_callVi (rest := []) C hw (ctX8_isHouse l  h_5) kl_RX8_137 layC_0 rfl rfl rfl rfl (Nat.le_of_ble_eq_true rfl) dX8_seek_8 hl.1 (fun H locs hw => ?_)
    refine lv_if_ne (tgt := 17) hx hb dX8_seek_11 (by decide) (fun c_6 => ?_) (fun c_6 => ?_)
    · have hf := sn_el c_6 hf
      refine lv_aload_n hx hb dX8_seek_17 rfl (lv_at hl 0 rfl) ?_
      refine sn_getC (r := 19) C hw fd_RX8_37 layC_0 rfl dX8_seek_18 ?_
      refine lv_iload_n hx hb dX8_seek_21 rfl (lv_at hl 1 rfl) ?_
      obtain ⟨t_7, h_8, hf⟩ := sn_bd hf
      refine sn_callVi (rest := []) C hw (ctX6_has l  h_8) kl_RX8_290 layC_19 rfl rfl rfl rfl (Nat.le_of_ble_eq_true rfl) dX8_seek_22 hl.1 (fun H locs hw => ?_)
      refine lv_if_ne (tgt := 31) hx hb dX8_seek_25 (by decide) (fun c_9 => ?_) (fun c_9 => ?_)
      · have hf := sn_el c_9 hf
        refine lv_aload_n hx hb dX8_seek_31 rfl (lv_at hl 0 rfl) ?_
        refine sn_getC (r := 19) C hw fd_RX8_37 layC_0 rfl dX8_seek_32 ?_
        refine sn_getC (r := 26) C hw fd_RX8_293 layC_19 rfl dX8_seek_35 ?_
        refine lv_iload_n hx hb dX8_seek_38 rfl (lv_at hl 1 rfl) ?_
        obtain ⟨g_10, hf⟩ := sn_gdE hf
        refine sn_iald C hw layC_26 g_10 dX8_seek_39 ?_
        refine lv_iconst (v := 2) hx hb dX8_seek_40 rfl ?_
        refine lv_irem hx hb dX8_seek_41 (by decide) ?_
        refine lv_if_eq (tgt := 48) hx hb dX8_seek_42 (by decide) (fun c_11 => ?_) (fun c_11 => ?_)
        · have hf := sn_if c_11 hf
          refine lv_aload_n hx hb dX8_seek_48 rfl (lv_at hl 0 rfl) ?_
          refine sn_getC (r := 54) C hw fd_RX8_68 layC_0 rfl dX8_seek_49 ?_
          obtain ⟨t_12, h_13, hf⟩ := sn_bd hf
          refine sn_callVv (rest := []) C hw (ctX7_forget l  h_13) kl_RX8_296 layC_54 rfl rfl rfl rfl (Nat.le_of_ble_eq_true rfl) dX8_seek_52 hl.1 (fun H locs hw => ?_)
          refine lv_iconst (v := 0) hx hb dX8_seek_55 rfl ?_
          refine lv_istore_n (lv' := [(2, .int (0 : Int32)), (0, .ref (ad 0)), (1, .int x1)]) hx hb dX8_seek_56 rfl hl (by decide) rfl (fun ls hl => ?_)
          obtain ⟨t_14, h_15, hf⟩ := sn_bd hf
          rcases t_14 with v_16 | r_17
          · rw [Sum.elim_inl] at hf
            exact wX8_seek_L57 C  h_15 (fun v e => by cases e; exact wX8_seek_166 C  hf kr) (fun r e => by cases e) _ _ _ hw (lv_sub hl [1, 2, 0] rfl)
          · rw [Sum.elim_inr] at hf
            cases hf
            exact wX8_seek_L57 C  h_15 (fun v e => by cases e) (fun r e => by cases e; exact kr) _ _ _ hw (lv_sub hl [1, 2, 0] rfl)
        · have hf := sn_el c_11 hf
          refine lv_bipush (v := (-2)) hx hb dX8_seek_45 (by decide) ?_
          cases hf
          exact kr _ _ _ _ hw rfl dX8_seek_47
      · have hf := sn_if c_9 hf
        refine lv_bipush (v := (-6)) hx hb dX8_seek_28 (by decide) ?_
        cases hf
        exact kr _ _ _ _ hw rfl dX8_seek_30
    · have hf := sn_if c_6 hf
      refine lv_bipush (v := (-2)) hx hb dX8_seek_14 (by decide) ?_
      cases hf
      exact kr _ _ _ _ hw rfl dX8_seek_16
theorem ctX8_seek (l : Launch) {σ : sn_S} {x1 : Int32}  {o : (Int32 × sn_S)} (hf : fX8_seek σ x1 = some o) : sn_M l yX8_seek cX8_seek 7 (some .int) rmX8_seek layC (fun ad => [.ref (ad 0), .int x1]) σ (some (fun _ => .int o.1)) o.2 :=
  sn_met (by decide) (fun _ => Nat.le_of_ble_eq_true rfl) (fun p e s m args below meth c ls D ct ad A C hw hl => wX8_seek_in C  hf (fun H locs ls pc hw ok hd => sn_iret C hw hd) _ _ _ hw hl)
-- X8_which
abbrev rmX8_which : Room := { frames := 6, cells := 0, slots := 0, locals := 143 }
def fX8_which (σ : sn_S) (x1 : Int32) : Option (Int32 × sn_S) :=
  ((fX8_seek σ x1).bind fun t_1 => (if t_1.1 = 0 then
  (some ((sn_I t_1.2 54 1), t_1.2))
  else
  (some (t_1.1, t_1.2))))
theorem wX8_which_in (C : sn_C p s m args meth c RX8 cX8_which 3 (some .int) D ct ad layC A) {σ : sn_S} {x1 : Int32}  {o : (Int32 × sn_S)} (hf : fX8_which σ x1 = some o) (kr : sn_Kr p l e rmX8_which s m args below meth c Q D ct ad layC A cX8_which .ireturn (true) o.2 [.int o.1]) : sn_At p l e rmX8_which s m args below meth c Q D ct ad layC A 3 σ 0 [(0, .ref (ad 0)), (1, .int x1)] [] := by
  intro H locs ls hw hl
  have hx := C.1
  have hb := C.2.1
  unfold fX8_which at hf
  refine lv_aload_n hx hb dX8_which_0 rfl (lv_at hl 0 rfl) ?_
  refine lv_iload_n hx hb dX8_which_1 rfl (lv_at hl 1 rfl) ?_
  obtain ⟨t_1, h_2, hf⟩ := sn_bd hf
  refine sn_callVi (rest := []) C hw (ctX8_seek l  h_2) kl_RX8_271 layC_0 rfl rfl rfl rfl (Nat.le_of_ble_eq_true rfl) dX8_which_2 hl.1 (fun H locs hw => ?_)
  refine lv_istore_n (lv' := [(2, .int t_1.1), (0, .ref (ad 0)), (1, .int x1)]) hx hb dX8_which_5 rfl hl (by decide) rfl (fun ls hl => ?_)
  refine lv_iload_n hx hb dX8_which_6 rfl (lv_at hl 0 rfl) ?_
  refine lv_if_eq (tgt := 14) hx hb dX8_which_7 (by decide) (fun c_3 => ?_) (fun c_3 => ?_)
  · have hf := sn_if c_3 hf
    refine lv_aload_n hx hb dX8_which_14 rfl (lv_at hl 1 rfl) ?_
    refine sn_getC (r := 54) C hw fd_RX8_68 layC_0 rfl dX8_which_15 ?_
    refine sn_getI C hw fd_RX8_274 layC_54 rfl dX8_which_18 ?_
    cases hf
    exact kr _ _ _ _ hw rfl dX8_which_21
  · have hf := sn_el c_3 hf
    refine lv_iload_n hx hb dX8_which_10 rfl (lv_at hl 0 rfl) ?_
    refine lv_goto (tgt := 21) hx hb dX8_which_11 (by decide) ?_
    cases hf
    exact kr _ _ _ _ hw rfl dX8_which_21
theorem ctX8_which (l : Launch) {σ : sn_S} {x1 : Int32}  {o : (Int32 × sn_S)} (hf : fX8_which σ x1 = some o) : sn_M l yX8_which cX8_which 3 (some .int) rmX8_which layC (fun ad => [.ref (ad 0), .int x1]) σ (some (fun _ => .int o.1)) o.2 :=
  sn_met (by decide) (fun _ => Nat.le_of_ble_eq_true rfl) (fun p e s m args below meth c ls D ct ad A C hw hl => wX8_which_in C  hf (fun H locs ls pc hw ok hd => sn_iret C hw hd) _ _ _ hw hl)
-- X8_when
abbrev rmX8_when : Room := { frames := 6, cells := 0, slots := 0, locals := 143 }
def fX8_when (σ : sn_S) (x1 : Int32) : Option (Int32 × sn_S) :=
  ((fX8_seek σ x1).bind fun t_1 => (if t_1.1 = 0 then
  (some ((sn_I t_1.2 54 2), t_1.2))
  else
  (some (t_1.1, t_1.2))))
theorem wX8_when_in (C : sn_C p s m args meth c RX8 cX8_when 3 (some .int) D ct ad layC A) {σ : sn_S} {x1 : Int32}  {o : (Int32 × sn_S)} (hf : fX8_when σ x1 = some o) (kr : sn_Kr p l e rmX8_when s m args below meth c Q D ct ad layC A cX8_when .ireturn (true) o.2 [.int o.1]) : sn_At p l e rmX8_when s m args below meth c Q D ct ad layC A 3 σ 0 [(0, .ref (ad 0)), (1, .int x1)] [] := by
  intro H locs ls hw hl
  have hx := C.1
  have hb := C.2.1
  unfold fX8_when at hf
  refine lv_aload_n hx hb dX8_when_0 rfl (lv_at hl 0 rfl) ?_
  refine lv_iload_n hx hb dX8_when_1 rfl (lv_at hl 1 rfl) ?_
  obtain ⟨t_1, h_2, hf⟩ := sn_bd hf
  refine sn_callVi (rest := []) C hw (ctX8_seek l  h_2) kl_RX8_271 layC_0 rfl rfl rfl rfl (Nat.le_of_ble_eq_true rfl) dX8_when_2 hl.1 (fun H locs hw => ?_)
  refine lv_istore_n (lv' := [(2, .int t_1.1), (0, .ref (ad 0)), (1, .int x1)]) hx hb dX8_when_5 rfl hl (by decide) rfl (fun ls hl => ?_)
  refine lv_iload_n hx hb dX8_when_6 rfl (lv_at hl 0 rfl) ?_
  refine lv_if_eq (tgt := 14) hx hb dX8_when_7 (by decide) (fun c_3 => ?_) (fun c_3 => ?_)
  · have hf := sn_if c_3 hf
    refine lv_aload_n hx hb dX8_when_14 rfl (lv_at hl 1 rfl) ?_
    refine sn_getC (r := 54) C hw fd_RX8_68 layC_0 rfl dX8_when_15 ?_
    refine sn_getI C hw fd_RX8_277 layC_54 rfl dX8_when_18 ?_
    cases hf
    exact kr _ _ _ _ hw rfl dX8_when_21
  · have hf := sn_el c_3 hf
    refine lv_iload_n hx hb dX8_when_10 rfl (lv_at hl 0 rfl) ?_
    refine lv_goto (tgt := 21) hx hb dX8_when_11 (by decide) ?_
    cases hf
    exact kr _ _ _ _ hw rfl dX8_when_21
theorem ctX8_when (l : Launch) {σ : sn_S} {x1 : Int32}  {o : (Int32 × sn_S)} (hf : fX8_when σ x1 = some o) : sn_M l yX8_when cX8_when 3 (some .int) rmX8_when layC (fun ad => [.ref (ad 0), .int x1]) σ (some (fun _ => .int o.1)) o.2 :=
  sn_met (by decide) (fun _ => Nat.le_of_ble_eq_true rfl) (fun p e s m args below meth c ls D ct ad A C hw hl => wX8_when_in C  hf (fun H locs ls pc hw ok hd => sn_iret C hw hd) _ _ _ hw hl)
-- X8_gust
abbrev rmX8_gust : Room := { frames := 6, cells := 0, slots := 0, locals := 143 }
def fX8_gust (σ : sn_S) (x1 : Int32) : Option (Int32 × sn_S) :=
  ((fX8_seek σ x1).bind fun t_1 => (if t_1.1 = 0 then
  (some ((sn_I t_1.2 54 3), t_1.2))
  else
  (some (t_1.1, t_1.2))))
theorem wX8_gust_in (C : sn_C p s m args meth c RX8 cX8_gust 3 (some .int) D ct ad layC A) {σ : sn_S} {x1 : Int32}  {o : (Int32 × sn_S)} (hf : fX8_gust σ x1 = some o) (kr : sn_Kr p l e rmX8_gust s m args below meth c Q D ct ad layC A cX8_gust .ireturn (true) o.2 [.int o.1]) : sn_At p l e rmX8_gust s m args below meth c Q D ct ad layC A 3 σ 0 [(0, .ref (ad 0)), (1, .int x1)] [] := by
  intro H locs ls hw hl
  have hx := C.1
  have hb := C.2.1
  unfold fX8_gust at hf
  refine lv_aload_n hx hb dX8_gust_0 rfl (lv_at hl 0 rfl) ?_
  refine lv_iload_n hx hb dX8_gust_1 rfl (lv_at hl 1 rfl) ?_
  obtain ⟨t_1, h_2, hf⟩ := sn_bd hf
  refine sn_callVi (rest := []) C hw (ctX8_seek l  h_2) kl_RX8_271 layC_0 rfl rfl rfl rfl (Nat.le_of_ble_eq_true rfl) dX8_gust_2 hl.1 (fun H locs hw => ?_)
  refine lv_istore_n (lv' := [(2, .int t_1.1), (0, .ref (ad 0)), (1, .int x1)]) hx hb dX8_gust_5 rfl hl (by decide) rfl (fun ls hl => ?_)
  refine lv_iload_n hx hb dX8_gust_6 rfl (lv_at hl 0 rfl) ?_
  refine lv_if_eq (tgt := 14) hx hb dX8_gust_7 (by decide) (fun c_3 => ?_) (fun c_3 => ?_)
  · have hf := sn_if c_3 hf
    refine lv_aload_n hx hb dX8_gust_14 rfl (lv_at hl 1 rfl) ?_
    refine sn_getC (r := 54) C hw fd_RX8_68 layC_0 rfl dX8_gust_15 ?_
    refine sn_getI C hw fd_RX8_278 layC_54 rfl dX8_gust_18 ?_
    cases hf
    exact kr _ _ _ _ hw rfl dX8_gust_21
  · have hf := sn_el c_3 hf
    refine lv_iload_n hx hb dX8_gust_10 rfl (lv_at hl 0 rfl) ?_
    refine lv_goto (tgt := 21) hx hb dX8_gust_11 (by decide) ?_
    cases hf
    exact kr _ _ _ _ hw rfl dX8_gust_21
theorem ctX8_gust (l : Launch) {σ : sn_S} {x1 : Int32}  {o : (Int32 × sn_S)} (hf : fX8_gust σ x1 = some o) : sn_M l yX8_gust cX8_gust 3 (some .int) rmX8_gust layC (fun ad => [.ref (ad 0), .int x1]) σ (some (fun _ => .int o.1)) o.2 :=
  sn_met (by decide) (fun _ => Nat.le_of_ble_eq_true rfl) (fun p e s m args below meth c ls D ct ad A C hw hl => wX8_gust_in C  hf (fun H locs ls pc hw ok hd => sn_iret C hw hd) _ _ _ hw hl)
-- X8_ask
abbrev rmX8_ask : Room := { frames := 6, cells := 0, slots := 0, locals := 143 }
def fX8_ask (σ : sn_S) (x1 : Int32) : Option (Int32 × sn_S) :=
  ((fX8_seek σ x1).bind fun t_1 => (if t_1.1 = 0 then
  ((fX7_whomToAsk t_1.2 (sn_I t_1.2 27 1)).bind fun t_4 => (some (t_4, t_1.2)))
  else
  (some (t_1.1, t_1.2))))
theorem wX8_ask_in (C : sn_C p s m args meth c RX8 cX8_ask 3 (some .int) D ct ad layC A) {σ : sn_S} {x1 : Int32}  {o : (Int32 × sn_S)} (hf : fX8_ask σ x1 = some o) (kr : sn_Kr p l e rmX8_ask s m args below meth c Q D ct ad layC A cX8_ask .ireturn (true) o.2 [.int o.1]) : sn_At p l e rmX8_ask s m args below meth c Q D ct ad layC A 3 σ 0 [(0, .ref (ad 0)), (1, .int x1)] [] := by
  intro H locs ls hw hl
  have hx := C.1
  have hb := C.2.1
  unfold fX8_ask at hf
  refine lv_aload_n hx hb dX8_ask_0 rfl (lv_at hl 0 rfl) ?_
  refine lv_iload_n hx hb dX8_ask_1 rfl (lv_at hl 1 rfl) ?_
  obtain ⟨t_1, h_2, hf⟩ := sn_bd hf
  refine sn_callVi (rest := []) C hw (ctX8_seek l  h_2) kl_RX8_271 layC_0 rfl rfl rfl rfl (Nat.le_of_ble_eq_true rfl) dX8_ask_2 hl.1 (fun H locs hw => ?_)
  refine lv_istore_n (lv' := [(2, .int t_1.1), (0, .ref (ad 0)), (1, .int x1)]) hx hb dX8_ask_5 rfl hl (by decide) rfl (fun ls hl => ?_)
  refine lv_iload_n hx hb dX8_ask_6 rfl (lv_at hl 0 rfl) ?_
  refine lv_if_eq (tgt := 14) hx hb dX8_ask_7 (by decide) (fun c_3 => ?_) (fun c_3 => ?_)
  · have hf := sn_if c_3 hf
    refine lv_aload_n hx hb dX8_ask_14 rfl (lv_at hl 1 rfl) ?_
    refine sn_getC (r := 54) C hw fd_RX8_68 layC_0 rfl dX8_ask_15 ?_
    refine lv_aload_n hx hb dX8_ask_18 rfl (lv_at hl 1 rfl) ?_
    refine sn_getC (r := 27) C hw fd_RX8_44 layC_0 rfl dX8_ask_19 ?_
    refine sn_getI C hw fd_RX8_162 (sn_look sn_isX0_27 (k := 0) rfl) rfl dX8_ask_22 ?_
    obtain ⟨t_4, h_5, hf⟩ := sn_bd hf
    refine sn_callVi (rest := []) C hw (ctX7_whomToAsk l  h_5) kl_RX8_281 layC_54 rfl rfl rfl rfl (Nat.le_of_ble_eq_true rfl) dX8_ask_25 hl.1 (fun H locs hw => ?_)
    cases hf
    exact kr _ _ _ _ hw rfl dX8_ask_28
  · have hf := sn_el c_3 hf
    refine lv_iload_n hx hb dX8_ask_10 rfl (lv_at hl 0 rfl) ?_
    refine lv_goto (tgt := 28) hx hb dX8_ask_11 (by decide) ?_
    cases hf
    exact kr _ _ _ _ hw rfl dX8_ask_28
theorem ctX8_ask (l : Launch) {σ : sn_S} {x1 : Int32}  {o : (Int32 × sn_S)} (hf : fX8_ask σ x1 = some o) : sn_M l yX8_ask cX8_ask 3 (some .int) rmX8_ask layC (fun ad => [.ref (ad 0), .int x1]) σ (some (fun _ => .int o.1)) o.2 :=
  sn_met (by decide) (fun _ => Nat.le_of_ble_eq_true rfl) (fun p e s m args below meth c ls D ct ad A C hw hl => wX8_ask_in C  hf (fun H locs ls pc hw ok hd => sn_iret C hw hd) _ _ _ hw hl)
-- X8_leaves
abbrev rmX8_leaves : Room := { frames := 6, cells := 0, slots := 0, locals := 143 }
def fX8_leaves (σ : sn_S) (x1 : Int32) : Option (Int32 × sn_S) :=
  ((fX8_seek σ x1).bind fun t_1 => (if t_1.1 = 0 then
  ((fX7_whomToAsk t_1.2 (sn_I t_1.2 27 1)).bind fun t_4 => (if t_4 = (-1 : Int32) then
  (some ((sn_I t_1.2 54 1), t_1.2))
  else
  ((fX7_atWorst t_1.2 t_4).bind fun t_7 => (some (t_7, t_1.2)))))
  else
  (some (t_1.1, t_1.2))))
theorem wX8_leaves_in (C : sn_C p s m args meth c RX8 cX8_leaves 4 (some .int) D ct ad layC A) {σ : sn_S} {x1 : Int32}  {o : (Int32 × sn_S)} (hf : fX8_leaves σ x1 = some o) (kr : sn_Kr p l e rmX8_leaves s m args below meth c Q D ct ad layC A cX8_leaves .ireturn (true) o.2 [.int o.1]) : sn_At p l e rmX8_leaves s m args below meth c Q D ct ad layC A 4 σ 0 [(0, .ref (ad 0)), (1, .int x1)] [] := by
  intro H locs ls hw hl
  have hx := C.1
  have hb := C.2.1
  unfold fX8_leaves at hf
  refine lv_aload_n hx hb dX8_leaves_0 rfl (lv_at hl 0 rfl) ?_
  refine lv_iload_n hx hb dX8_leaves_1 rfl (lv_at hl 1 rfl) ?_
  obtain ⟨t_1, h_2, hf⟩ := sn_bd hf
  refine sn_callVi (rest := []) C hw (ctX8_seek l  h_2) kl_RX8_271 layC_0 rfl rfl rfl rfl (Nat.le_of_ble_eq_true rfl) dX8_leaves_2 hl.1 (fun H locs hw => ?_)
  refine lv_istore_n (lv' := [(2, .int t_1.1), (0, .ref (ad 0)), (1, .int x1)]) hx hb dX8_leaves_5 rfl hl (by decide) rfl (fun ls hl => ?_)
  refine lv_iload_n hx hb dX8_leaves_6 rfl (lv_at hl 0 rfl) ?_
  refine lv_if_eq (tgt := 12) hx hb dX8_leaves_7 (by decide) (fun c_3 => ?_) (fun c_3 => ?_)
  · have hf := sn_if c_3 hf
    refine lv_aload_n hx hb dX8_leaves_12 rfl (lv_at hl 1 rfl) ?_
    refine sn_getC (r := 54) C hw fd_RX8_68 layC_0 rfl dX8_leaves_13 ?_
    refine lv_aload_n hx hb dX8_leaves_16 rfl (lv_at hl 1 rfl) ?_
    refine sn_getC (r := 27) C hw fd_RX8_44 layC_0 rfl dX8_leaves_17 ?_
    refine sn_getI C hw fd_RX8_162 (sn_look sn_isX0_27 (k := 0) rfl) rfl dX8_leaves_20 ?_
    obtain ⟨t_4, h_5, hf⟩ := sn_bd hf
    refine sn_callVi (rest := []) C hw (ctX7_whomToAsk l  h_5) kl_RX8_281 layC_54 rfl rfl rfl rfl (Nat.le_of_ble_eq_true rfl) dX8_leaves_23 hl.1 (fun H locs hw => ?_)
    refine lv_istore_n (lv' := [(3, .int t_4), (2, .int t_1.1), (0, .ref (ad 0)), (1, .int x1)]) hx hb dX8_leaves_26 rfl hl (by decide) rfl (fun ls hl => ?_)
    refine lv_iload_n hx hb dX8_leaves_27 rfl (lv_at hl 0 rfl) ?_
    refine lv_iconst (v := (-1)) hx hb dX8_leaves_28 rfl ?_
    refine lv_icmp_ne (tgt := 42) hx hb dX8_leaves_29 (by decide) (fun c_6 => ?_) (fun c_6 => ?_)
    · have hf := sn_el c_6 hf
      refine lv_aload_n hx hb dX8_leaves_42 rfl (lv_at hl 2 rfl) ?_
      refine sn_getC (r := 54) C hw fd_RX8_68 layC_0 rfl dX8_leaves_43 ?_
      refine lv_iload_n hx hb dX8_leaves_46 rfl (lv_at hl 0 rfl) ?_
      obtain ⟨t_7, h_8, hf⟩ := sn_bd hf
      refine sn_callVi (rest := []) C hw (ctX7_atWorst l  h_8) kl_RX8_284 layC_54 rfl rfl rfl rfl (Nat.le_of_ble_eq_true rfl) dX8_leaves_47 hl.1 (fun H locs hw => ?_)
      cases hf
      exact kr _ _ _ _ hw rfl dX8_leaves_50
    · have hf := sn_if c_6 hf
      refine lv_aload_n hx hb dX8_leaves_32 rfl (lv_at hl 2 rfl) ?_
      refine sn_getC (r := 54) C hw fd_RX8_68 layC_0 rfl dX8_leaves_33 ?_
      refine sn_getI C hw fd_RX8_274 layC_54 rfl dX8_leaves_36 ?_
      refine lv_goto (tgt := 50) hx hb dX8_leaves_39 (by decide) ?_
      cases hf
      exact kr _ _ _ _ hw rfl dX8_leaves_50
  · have hf := sn_el c_3 hf
    refine lv_iload_n hx hb dX8_leaves_10 rfl (lv_at hl 0 rfl) ?_
    cases hf
    exact kr _ _ _ _ hw rfl dX8_leaves_11
theorem ctX8_leaves (l : Launch) {σ : sn_S} {x1 : Int32}  {o : (Int32 × sn_S)} (hf : fX8_leaves σ x1 = some o) : sn_M l yX8_leaves cX8_leaves 4 (some .int) rmX8_leaves layC (fun ad => [.ref (ad 0), .int x1]) σ (some (fun _ => .int o.1)) o.2 :=
  sn_met (by decide) (fun _ => Nat.le_of_ble_eq_true rfl) (fun p e s m args below meth c ls D ct ad A C hw hl => wX8_leaves_in C  hf (fun H locs ls pc hw ok hd => sn_iret C hw hd) _ _ _ hw hl)
-- X8_lossOf
abbrev rmX8_lossOf : Room := { frames := 5, cells := 0, slots := 0, locals := 113 }
def BX8_lossOf_85 (σ : sn_S) (x1 : Int32) (t0 : Int32) : Option ((Int32 × sn_S)) :=
  (sn_gd (sn_in x1 6) ((fJ6_bitCount_0f7a4 (sn_I σ (38 + 10) x1.toNatClampNeg)).bind fun t_2 => (some ((((3 : Int32) * t_2) + t0), σ))))
def BX8_lossOf_60 (σ : sn_S) (x1 : Int32) (x3 : Int32) : Option ((Int32 × sn_S)) :=
  ((fX0_liveWhole σ 38).bind fun t_1 => (if x3 = (1 : Int32) then
  (BX8_lossOf_85 t_1 x1 ((sn_I t_1 27 0) / (4 : Int32)))
  else
  (BX8_lossOf_85 t_1 x1 (0 : Int32))))
def BX8_lossOf_35 (σ : sn_S) (x1 : Int32) (x2 : Int32) (x3 : Int32) (x4 : Int32) : Option ((Int32 × sn_S)) :=
  (if x4 = (1 : Int32) then
  ((fX8_firstMinutes (sn_I σ 27 0)).bind fun t_2 => (sn_gd (sn_in x2 6) (sn_lt (sn_pI σ (38 + 4) x2.toNatClampNeg t_2) fun σ_5 => (BX8_lossOf_60 σ_5 x1 x3))))
  else
  (BX8_lossOf_60 σ x1 x3))
def fX8_lossOf (σ : sn_S) (x1 : Int32) (x2 : Int32) (x3 : Int32) (x4 : Int32) : Option (Int32 × sn_S) :=
  ((fX0_copyFrom σ 38 27).bind fun t_1 => (if x3 = (1 : Int32) then
  ((fX8_firstMinutes (sn_I t_1 27 0)).bind fun t_4 => (sn_gd (sn_in x1 6) (sn_lt (sn_pI t_1 (38 + 4) x1.toNatClampNeg t_4) fun σ_7 => (BX8_lossOf_35 σ_7 x1 x2 x3 x4))))
  else
  (BX8_lossOf_35 t_1 x1 x2 x3 x4)))
theorem wX8_lossOf_85 (C : sn_C p s m args meth c RX8 cX8_lossOf 6 (some .int) D ct ad layC A) {σ : sn_S} {x1 : Int32} {t0 : Int32}  {o : (Int32 × sn_S)} (hf : BX8_lossOf_85 σ x1 t0 = some o) (kr : sn_Kr p l e rmX8_lossOf s m args below meth c Q D ct ad layC A cX8_lossOf .ireturn (true) o.2 [.int o.1]) : sn_At p l e rmX8_lossOf s m args below meth c Q D ct ad layC A 6 σ 85 [(0, .ref (ad 0)), (1, .int x1)] [.int t0] := by
  intro H locs ls hw hl
  have hx := C.1
  have hb := C.2.1
  unfold BX8_lossOf_85 at hf
  refine lv_istore (lv' := [(5, .int t0), (0, .ref (ad 0)), (1, .int x1)]) hx hb dX8_lossOf_85 hl (by decide) rfl (fun ls hl => ?_)
  refine lv_iconst (v := 3) hx hb dX8_lossOf_87 rfl ?_
  refine lv_aload_n hx hb dX8_lossOf_88 rfl (lv_at hl 1 rfl) ?_
  refine sn_getC (r := 38) C hw fd_RX8_48 layC_0 rfl dX8_lossOf_89 ?_
  refine sn_getC (r := (38 + 10)) C hw fd_RX8_131 (sn_look sn_isX0_38 (k := 0) rfl) rfl dX8_lossOf_92 ?_
  refine lv_iload_n hx hb dX8_lossOf_95 rfl (lv_at hl 2 rfl) ?_
  obtain ⟨g_1, hf⟩ := sn_gdE hf
  refine sn_iald C hw (sn_look sn_isX0_38 (k := 10) rfl) g_1 dX8_lossOf_96 ?_
  obtain ⟨t_2, h_3, hf⟩ := sn_bd hf
  refine sn_callSi (rest := [.int (3 : Int32)]) C hw (ctJ6_bitCount_0f7a4 l  h_3) kl_RX8_165 rfl rfl rfl (Nat.le_of_ble_eq_true rfl) dX8_lossOf_97 hl.1 (fun H locs hw => ?_)
  refine lv_imul hx hb dX8_lossOf_100 ?_
  refine lv_iload hx hb dX8_lossOf_101 (lv_at hl 0 rfl) ?_
  refine lv_iadd hx hb dX8_lossOf_103 ?_
  cases hf
  exact kr _ _ _ _ hw rfl dX8_lossOf_104
theorem wX8_lossOf_60 (C : sn_C p s m args meth c RX8 cX8_lossOf 6 (some .int) D ct ad layC A) {σ : sn_S} {x1 : Int32} {x3 : Int32}  {o : (Int32 × sn_S)} (hf : BX8_lossOf_60 σ x1 x3 = some o) (kr : sn_Kr p l e rmX8_lossOf s m args below meth c Q D ct ad layC A cX8_lossOf .ireturn (true) o.2 [.int o.1]) : sn_At p l e rmX8_lossOf s m args below meth c Q D ct ad layC A 6 σ 60 [(0, .ref (ad 0)), (1, .int x1), (3, .int x3)] [] := by
  intro H locs ls hw hl
  have hx := C.1
  have hb := C.2.1
  unfold BX8_lossOf_60 at hf
  refine lv_aload_n hx hb dX8_lossOf_60 rfl (lv_at hl 0 rfl) ?_
  refine sn_getC (r := 38) C hw fd_RX8_48 layC_0 rfl dX8_lossOf_61 ?_
  obtain ⟨t_1, h_2, hf⟩ := sn_bd hf
  refine sn_callVv (rest := []) C hw (ctX0_liveWhole l sn_isX0_38 h_2) kl_RX8_189 (sn_look sn_isX0_38 (k := 0) rfl) rfl rfl rfl rfl (Nat.le_of_ble_eq_true rfl) dX8_lossOf_64 hl.1 (fun H locs hw => ?_)
  refine lv_iload_n hx hb dX8_lossOf_67 rfl (lv_at hl 2 rfl) ?_
  refine lv_iconst (v := 1) hx hb dX8_lossOf_68 rfl ?_
  refine lv_icmp_ne (tgt := 84) hx hb dX8_lossOf_69 (by decide) (fun c_3 => ?_) (fun c_3 => ?_)
  · have hf := sn_el c_3 hf
    refine lv_iconst (v := 0) hx hb dX8_lossOf_84 rfl ?_
    exact wX8_lossOf_85 C  hf kr _ _ _ hw (lv_sub hl [0, 1] rfl)
  · have hf := sn_if c_3 hf
    refine lv_aload_n hx hb dX8_lossOf_72 rfl (lv_at hl 0 rfl) ?_
    refine sn_getC (r := 27) C hw fd_RX8_44 layC_0 rfl dX8_lossOf_73 ?_
    refine sn_getI C hw fd_RX8_151 (sn_look sn_isX0_27 (k := 0) rfl) rfl dX8_lossOf_76 ?_
    refine lv_iconst (v := 4) hx hb dX8_lossOf_79 rfl ?_
    refine lv_idiv hx hb dX8_lossOf_80 (by decide) ?_
    refine lv_goto (tgt := 85) hx hb dX8_lossOf_81 (by decide) ?_
    exact wX8_lossOf_85 C  hf kr _ _ _ hw (lv_sub hl [0, 1] rfl)
theorem wX8_lossOf_35 (C : sn_C p s m args meth c RX8 cX8_lossOf 6 (some .int) D ct ad layC A) {σ : sn_S} {x1 : Int32} {x2 : Int32} {x3 : Int32} {x4 : Int32}  {o : (Int32 × sn_S)} (hf : BX8_lossOf_35 σ x1 x2 x3 x4 = some o) (kr : sn_Kr p l e rmX8_lossOf s m args below meth c Q D ct ad layC A cX8_lossOf .ireturn (true) o.2 [.int o.1]) : sn_At p l e rmX8_lossOf s m args below meth c Q D ct ad layC A 6 σ 35 [(0, .ref (ad 0)), (1, .int x1), (2, .int x2), (3, .int x3), (4, .int x4)] [] := by
  intro H locs ls hw hl
  have hx := C.1
  have hb := C.2.1
  unfold BX8_lossOf_35 at hf
  refine lv_iload hx hb dX8_lossOf_35 (lv_at hl 4 rfl) ?_
  refine lv_iconst (v := 1) hx hb dX8_lossOf_37 rfl ?_
  refine lv_icmp_ne (tgt := 60) hx hb dX8_lossOf_38 (by decide) (fun c_1 => ?_) (fun c_1 => ?_)
  · have hf := sn_el c_1 hf
    exact wX8_lossOf_60 C  hf kr _ _ _ hw (lv_sub hl [0, 1, 3] rfl)
  · have hf := sn_if c_1 hf
    refine lv_aload_n hx hb dX8_lossOf_41 rfl (lv_at hl 0 rfl) ?_
    refine sn_getC (r := 38) C hw fd_RX8_48 layC_0 rfl dX8_lossOf_42 ?_
    refine sn_getC (r := (38 + 4)) C hw fd_RX8_196 (sn_look sn_isX0_38 (k := 0) rfl) rfl dX8_lossOf_45 ?_
    refine lv_iload_n hx hb dX8_lossOf_48 rfl (lv_at hl 2 rfl) ?_
    refine lv_aload_n hx hb dX8_lossOf_49 rfl (lv_at hl 0 rfl) ?_
    refine sn_getC (r := 27) C hw fd_RX8_44 layC_0 rfl dX8_lossOf_50 ?_
    refine sn_getI C hw fd_RX8_151 (sn_look sn_isX0_27 (k := 0) rfl) rfl dX8_lossOf_53 ?_
    obtain ⟨t_2, h_3, hf⟩ := sn_bd hf
    refine sn_callSi (rest := [.int x2, .ref (ad (38 + 4))]) C hw (ctX8_firstMinutes l  h_3) kl_RX8_174 rfl rfl rfl (Nat.le_of_ble_eq_true rfl) dX8_lossOf_56 hl.1 (fun H locs hw => ?_)
    obtain ⟨g_4, hf⟩ := sn_gdE hf
    refine sn_iast C hw (sn_look sn_isX0_38 (k := 4) rfl) g_4 dX8_lossOf_59 (fun H locs hw => ?_)
    obtain ⟨σ_5, e_6, hf⟩ := sn_ltE hf
    rw [← e_6] at hw
    exact wX8_lossOf_60 C  hf kr _ _ _ hw (lv_sub hl [0, 1, 3] rfl)
theorem wX8_lossOf_in (C : sn_C p s m args meth c RX8 cX8_lossOf 6 (some .int) D ct ad layC A) {σ : sn_S} {x1 : Int32} {x2 : Int32} {x3 : Int32} {x4 : Int32}  {o : (Int32 × sn_S)} (hf : fX8_lossOf σ x1 x2 x3 x4 = some o) (kr : sn_Kr p l e rmX8_lossOf s m args below meth c Q D ct ad layC A cX8_lossOf .ireturn (true) o.2 [.int o.1]) : sn_At p l e rmX8_lossOf s m args below meth c Q D ct ad layC A 6 σ 0 [(0, .ref (ad 0)), (1, .int x1), (2, .int x2), (3, .int x3), (4, .int x4)] [] := by
  intro H locs ls hw hl
  have hx := C.1
  have hb := C.2.1
  unfold fX8_lossOf at hf
  refine lv_aload_n hx hb dX8_lossOf_0 rfl (lv_at hl 0 rfl) ?_
  refine sn_getC (r := 38) C hw fd_RX8_48 layC_0 rfl dX8_lossOf_1 ?_
  refine lv_aload_n hx hb dX8_lossOf_4 rfl (lv_at hl 0 rfl) ?_
  refine sn_getC (r := 27) C hw fd_RX8_44 layC_0 rfl dX8_lossOf_5 ?_
  obtain ⟨t_1, h_2, hf⟩ := sn_bd hf
  refine sn_callVv (rest := []) C hw (ctX0_copyFrom l sn_isX0_38 sn_isX0_27 h_2) kl_RX8_183 (sn_look sn_isX0_38 (k := 0) rfl) rfl rfl rfl rfl (Nat.le_of_ble_eq_true rfl) dX8_lossOf_8 hl.1 (fun H locs hw => ?_)
  refine lv_iload_n hx hb dX8_lossOf_11 rfl (lv_at hl 3 rfl) ?_
  refine lv_iconst (v := 1) hx hb dX8_lossOf_12 rfl ?_
  refine lv_icmp_ne (tgt := 35) hx hb dX8_lossOf_13 (by decide) (fun c_3 => ?_) (fun c_3 => ?_)
  · have hf := sn_el c_3 hf
    exact wX8_lossOf_35 C  hf kr _ _ _ hw (lv_sub hl [0, 1, 2, 3, 4] rfl)
  · have hf := sn_if c_3 hf
    refine lv_aload_n hx hb dX8_lossOf_16 rfl (lv_at hl 0 rfl) ?_
    refine sn_getC (r := 38) C hw fd_RX8_48 layC_0 rfl dX8_lossOf_17 ?_
    refine sn_getC (r := (38 + 4)) C hw fd_RX8_196 (sn_look sn_isX0_38 (k := 0) rfl) rfl dX8_lossOf_20 ?_
    refine lv_iload_n hx hb dX8_lossOf_23 rfl (lv_at hl 1 rfl) ?_
    refine lv_aload_n hx hb dX8_lossOf_24 rfl (lv_at hl 0 rfl) ?_
    refine sn_getC (r := 27) C hw fd_RX8_44 layC_0 rfl dX8_lossOf_25 ?_
    refine sn_getI C hw fd_RX8_151 (sn_look sn_isX0_27 (k := 0) rfl) rfl dX8_lossOf_28 ?_
    obtain ⟨t_4, h_5, hf⟩ := sn_bd hf
    refine sn_callSi (rest := [.int x1, .ref (ad (38 + 4))]) C hw (ctX8_firstMinutes l  h_5) kl_RX8_174 rfl rfl rfl (Nat.le_of_ble_eq_true rfl) dX8_lossOf_31 hl.1 (fun H locs hw => ?_)
    obtain ⟨g_6, hf⟩ := sn_gdE hf
    refine sn_iast C hw (sn_look sn_isX0_38 (k := 4) rfl) g_6 dX8_lossOf_34 (fun H locs hw => ?_)
    obtain ⟨σ_7, e_8, hf⟩ := sn_ltE hf
    rw [← e_8] at hw
    exact wX8_lossOf_35 C  hf kr _ _ _ hw (lv_sub hl [0, 1, 2, 3, 4] rfl)
theorem ctX8_lossOf (l : Launch) {σ : sn_S} {x1 : Int32} {x2 : Int32} {x3 : Int32} {x4 : Int32}  {o : (Int32 × sn_S)} (hf : fX8_lossOf σ x1 x2 x3 x4 = some o) : sn_M l yX8_lossOf cX8_lossOf 6 (some .int) rmX8_lossOf layC (fun ad => [.ref (ad 0), .int x1, .int x2, .int x3, .int x4]) σ (some (fun _ => .int o.1)) o.2 :=
  sn_met (by decide) (fun _ => Nat.le_of_ble_eq_true rfl) (fun p e s m args below meth c ls D ct ad A C hw hl => wX8_lossOf_in C  hf (fun H locs ls pc hw ok hd => sn_iret C hw hd) _ _ _ hw hl)
end
