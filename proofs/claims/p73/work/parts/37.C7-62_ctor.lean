section
section
variable {p : Program} {l : Launch} {e : Env} {s : State} {m : MethodId} {args : Array Value} {below : List Frame} {meth : Method} {c : Code} {Q : State → Prop} {D : va_G} {ct : Nat → ClassId} {ad : Nat → Nat} {A : Nat → Prop} {lay : List sn_E}
-- X8_claimAsIfOf
abbrev rmX8_claimAsIfOf : Room := { frames := 3, cells := 0, slots := 0, locals := 73 }
def fX8_claimAsIfOf (σ : sn_S) (x1 : Int32) (x2 : Int32) : Option Int32 :=
  (sn_gd (sn_in (2 : Int32) 11) (sn_gd (sn_in x1 6) (sn_gd (sn_in x1 6) ((fX3_claimBy σ 1 (sn_I σ (1 + 1) (2 : Int32).toNatClampNeg) x2 (sn_I σ (27 + 10) x1.toNatClampNeg) (sn_I σ (27 + 4) x1.toNatClampNeg)).bind fun t_4 => (some t_4)))))
theorem wX8_claimAsIfOf_in (C : sn_C p s m args meth c RX8 cX8_claimAsIfOf 3 (some .int) D ct ad layC A) {σ : sn_S} {x1 : Int32} {x2 : Int32}  {o : Int32} (hf : fX8_claimAsIfOf σ x1 x2 = some o) (kr : sn_Kr p l e rmX8_claimAsIfOf s m args below meth c Q D ct ad layC A cX8_claimAsIfOf .ireturn (true) σ [.int o]) : sn_At p l e rmX8_claimAsIfOf s m args below meth c Q D ct ad layC A 3 σ 0 [(0, .ref (ad 0)), (1, .int x1), (2, .int x2)] [] := by
  intro H locs ls hw hl
  have hx := C.1
  have hb := C.2.1
  unfold fX8_claimAsIfOf at hf
  refine lv_aload_n hx hb dX8_claimAsIfOf_0 rfl (lv_at hl 0 rfl) ?_
  refine sn_getC (r := 1) C hw fd_RX8_10 layC_0 rfl dX8_claimAsIfOf_1 ?_
  refine lv_aload_n hx hb dX8_claimAsIfOf_4 rfl (lv_at hl 0 rfl) ?_
  refine sn_getC (r := 1) C hw fd_RX8_10 layC_0 rfl dX8_claimAsIfOf_5 ?_
  refine sn_getC (r := (1 + 1)) C hw fd_RX8_100 (sn_look sn_isX2_1 (k := 0) rfl) rfl dX8_claimAsIfOf_8 ?_
  refine lv_iconst (v := 2) hx hb dX8_claimAsIfOf_11 rfl ?_
  obtain ⟨g_1, hf⟩ := sn_gdE hf
  refine sn_iald C hw (sn_look sn_isX2_1 (k := 1) rfl) g_1 dX8_claimAsIfOf_12 ?_
  refine lv_iload_n hx hb dX8_claimAsIfOf_13 rfl (lv_at hl 2 rfl) ?_
  refine lv_aload_n hx hb dX8_claimAsIfOf_14 rfl (lv_at hl 0 rfl) ?_
  refine sn_getC (r := 27) C hw fd_RX8_44 layC_0 rfl dX8_claimAsIfOf_15 ?_
  refine sn_getC (r := (27 + 10)) C hw fd_RX8_131 (sn_look sn_isX0_27 (k := 0) rfl) rfl dX8_claimAsIfOf_18 ?_
  refine lv_iload_n hx hb dX8_claimAsIfOf_21 rfl (lv_at hl 1 rfl) ?_
  obtain ⟨g_2, hf⟩ := sn_gdE hf
  refine sn_iald C hw (sn_look sn_isX0_27 (k := 10) rfl) g_2 dX8_claimAsIfOf_22 ?_
  refine lv_aload_n hx hb dX8_claimAsIfOf_23 rfl (lv_at hl 0 rfl) ?_
  refine sn_getC (r := 27) C hw fd_RX8_44 layC_0 rfl dX8_claimAsIfOf_24 ?_
  refine sn_getC (r := (27 + 4)) C hw fd_RX8_196 (sn_look sn_isX0_27 (k := 0) rfl) rfl dX8_claimAsIfOf_27 ?_
  refine lv_iload_n hx hb dX8_claimAsIfOf_30 rfl (lv_at hl 1 rfl) ?_
  obtain ⟨g_3, hf⟩ := sn_gdE hf
  refine sn_iald C hw (sn_look sn_isX0_27 (k := 4) rfl) g_3 dX8_claimAsIfOf_31 ?_
  obtain ⟨t_4, h_5, hf⟩ := sn_bd hf
  refine sn_callSi (rest := []) C hw (ctX3_claimBy l sn_isX2_1 h_5) kl_RX8_250 rfl rfl rfl (Nat.le_of_ble_eq_true rfl) dX8_claimAsIfOf_32 hl.1 (fun H locs hw => ?_)
  cases hf
  exact kr _ _ _ _ hw rfl dX8_claimAsIfOf_35
theorem ctX8_claimAsIfOf (l : Launch) {σ : sn_S} {x1 : Int32} {x2 : Int32}  {o : Int32} (hf : fX8_claimAsIfOf σ x1 x2 = some o) : sn_M l yX8_claimAsIfOf cX8_claimAsIfOf 3 (some .int) rmX8_claimAsIfOf layC (fun ad => [.ref (ad 0), .int x1, .int x2]) σ (some (fun _ => .int o)) σ :=
  sn_met (by decide) (fun _ => Nat.le_of_ble_eq_true rfl) (fun p e s m args below meth c ls D ct ad A C hw hl => wX8_claimAsIfOf_in C  hf (fun H locs ls pc hw ok hd => sn_iret C hw hd) _ _ _ hw hl)
-- X8_gainBy
abbrev rmX8_gainBy : Room := { frames := 4, cells := 0, slots := 0, locals := 95 }
def fX8_gainBy (σ : sn_S) (x1 : Int32) (x2 : Int32) : Option Int32 :=
  ((fX8_claimAsIfOf σ x1 x2).bind fun t_1 => ((fX2_ofPolicy σ 1 x2 (4 : Int32)).bind fun t_3 => (some (t_1 - t_3))))
theorem wX8_gainBy_in (C : sn_C p s m args meth c RX8 cX8_gainBy 3 (some .int) D ct ad layC A) {σ : sn_S} {x1 : Int32} {x2 : Int32}  {o : Int32} (hf : fX8_gainBy σ x1 x2 = some o) (kr : sn_Kr p l e rmX8_gainBy s m args below meth c Q D ct ad layC A cX8_gainBy .ireturn (true) σ [.int o]) : sn_At p l e rmX8_gainBy s m args below meth c Q D ct ad layC A 3 σ 0 [(0, .ref (ad 0)), (1, .int x1), (2, .int x2)] [] := by
  intro H locs ls hw hl
  have hx := C.1
  have hb := C.2.1
  unfold fX8_gainBy at hf
  refine lv_aload_n hx hb dX8_gainBy_0 rfl (lv_at hl 0 rfl) ?_
  refine lv_iload_n hx hb dX8_gainBy_1 rfl (lv_at hl 1 rfl) ?_
  refine lv_iload_n hx hb dX8_gainBy_2 rfl (lv_at hl 2 rfl) ?_
  obtain ⟨t_1, h_2, hf⟩ := sn_bd hf
  refine sn_callVi (rest := []) C hw (ctX8_claimAsIfOf l  h_2) kl_RX8_247 layC_0 rfl rfl rfl rfl (Nat.le_of_ble_eq_true rfl) dX8_gainBy_3 hl.1 (fun H locs hw => ?_)
  refine lv_aload_n hx hb dX8_gainBy_6 rfl (lv_at hl 0 rfl) ?_
  refine sn_getC (r := 1) C hw fd_RX8_10 layC_0 rfl dX8_gainBy_7 ?_
  refine lv_iload_n hx hb dX8_gainBy_10 rfl (lv_at hl 2 rfl) ?_
  refine lv_iconst (v := 4) hx hb dX8_gainBy_11 rfl ?_
  obtain ⟨t_3, h_4, hf⟩ := sn_bd hf
  refine sn_callVi (rest := [.int t_1]) C hw (ctX2_ofPolicy l sn_isX2_1 h_4) kl_RX8_117 (sn_look sn_isX2_1 (k := 0) rfl) rfl rfl rfl rfl (Nat.le_of_ble_eq_true rfl) dX8_gainBy_12 hl.1 (fun H locs hw => ?_)
  refine lv_isub hx hb dX8_gainBy_15 ?_
  cases hf
  exact kr _ _ _ _ hw rfl dX8_gainBy_16
theorem ctX8_gainBy (l : Launch) {σ : sn_S} {x1 : Int32} {x2 : Int32}  {o : Int32} (hf : fX8_gainBy σ x1 x2 = some o) : sn_M l yX8_gainBy cX8_gainBy 3 (some .int) rmX8_gainBy layC (fun ad => [.ref (ad 0), .int x1, .int x2]) σ (some (fun _ => .int o)) σ :=
  sn_met (by decide) (fun _ => Nat.le_of_ble_eq_true rfl) (fun p e s m args below meth c ls D ct ad A C hw hl => wX8_gainBy_in C  hf (fun H locs ls pc hw ok hd => sn_iret C hw hd) _ _ _ hw hl)
-- X8_bestOfMenu
abbrev rmX8_bestOfMenu : Room := { frames := 5, cells := 0, slots := 0, locals := 117 }
def BX8_bestOfMenu_49 (σ : sn_S) (x2 : Int32) : Option (Int32) :=
  (some x2)
def BX8_bestOfMenu_43 (σ : sn_S) (x1 : Int32) (x2 : Int32) (x3 : Int32) (x4 : Int32) : Option ((Int32 × Int32 × Int32) ⊕ (Int32)) :=
  (sn_lt (x4 + 1) fun y_1 => (some (.inl (x2, x3, y_1))))
def BX8_bestOfMenu_7 (σ : sn_S) (x1 : Int32) (x2 : Int32) (x3 : Int32) (x4 : Int32) : Option ((Int32 × Int32 × Int32) ⊕ (Int32)) :=
  (sn_gd (sn_in (8 : Int32) 11) (if (sn_I σ (1 + 1) (8 : Int32).toNatClampNeg) ≤ x4 then
  (some (.inr (x2)))
  else
  ((fX8_gainBy σ x1 x4).bind fun t_3 => (if t_3 ≤ x3 then
  (BX8_bestOfMenu_43 σ x1 x2 x3 x4)
  else
  (BX8_bestOfMenu_43 σ x1 x4 t_3 x4)))))
def LX8_bestOfMenu_7 (σ : sn_S) (x1 : Int32) (s : Int32 × Int32 × Int32) : Option ((Int32 × Int32 × Int32) ⊕ (Int32)) := BX8_bestOfMenu_7 σ x1 s.1 s.2.1 s.2.2
def fX8_bestOfMenu (σ : sn_S) (x1 : Int32) : Option Int32 :=
  ((sn_it (LX8_bestOfMenu_7 σ x1) 5000 ((-1 : Int32), (0 : Int32), (0 : Int32))).bind fun t_1 => (BX8_bestOfMenu_49 σ t_1))
theorem wX8_bestOfMenu_49 (C : sn_C p s m args meth c RX8 cX8_bestOfMenu 6 (some .int) D ct ad layC A) {σ : sn_S} {x2 : Int32}  {o : Int32} (hf : BX8_bestOfMenu_49 σ x2 = some o) (kr : sn_Kr p l e rmX8_bestOfMenu s m args below meth c Q D ct ad layC A cX8_bestOfMenu .ireturn (true) σ [.int o]) : sn_At p l e rmX8_bestOfMenu s m args below meth c Q D ct ad layC A 6 σ 49 [(2, .int x2)] [] := by
  intro H locs ls hw hl
  have hx := C.1
  have hb := C.2.1
  unfold BX8_bestOfMenu_49 at hf
  refine lv_iload_n hx hb dX8_bestOfMenu_49 rfl (lv_at hl 0 rfl) ?_
  cases hf
  exact kr _ _ _ _ hw rfl dX8_bestOfMenu_50
theorem wX8_bestOfMenu_43 (C : sn_C p s m args meth c RX8 cX8_bestOfMenu 6 (some .int) D ct ad layC A) {σ : sn_S} {x1 : Int32} {x2 : Int32} {x3 : Int32} {x4 : Int32}  {o : (Int32 × Int32 × Int32) ⊕ (Int32)} (hf : BX8_bestOfMenu_43 σ x1 x2 x3 x4 = some o) (kc : ∀ v, o = .inl v → sn_At p l e rmX8_bestOfMenu s m args below meth c Q D ct ad layC A 6 σ 7 [(0, .ref (ad 0)), (1, .int x1), (2, .int v.1), (3, .int v.2.1), (4, .int v.2.2)] []) (kx : ∀ v, o = .inr v → sn_At p l e rmX8_bestOfMenu s m args below meth c Q D ct ad layC A 6 σ 49 [(2, .int v)] []) : sn_At p l e rmX8_bestOfMenu s m args below meth c Q D ct ad layC A 6 σ 43 [(0, .ref (ad 0)), (1, .int x1), (2, .int x2), (3, .int x3), (4, .int x4)] [] := by
  intro H locs ls hw hl
  have hx := C.1
  have hb := C.2.1
  unfold BX8_bestOfMenu_43 at hf
  obtain ⟨y_1, e_2, hf⟩ := sn_ltE hf
  refine lv_iinc (v := y_1) (lv' := [(4, .int y_1), (0, .ref (ad 0)), (1, .int x1), (2, .int x2), (3, .int x3)]) hx hb dX8_bestOfMenu_43 hl (k := 4) rfl (by rw [e_2]; rfl) (by decide) rfl (fun ls hl => ?_)
  refine lv_goto (tgt := 7) hx hb dX8_bestOfMenu_46 (by decide) ?_
  cases hf
  exact kc _ rfl _ _ _ hw (lv_sub hl [1, 2, 3, 4, 0] rfl)
theorem wX8_bestOfMenu_7 (C : sn_C p s m args meth c RX8 cX8_bestOfMenu 6 (some .int) D ct ad layC A) {σ : sn_S} {x1 : Int32} {x2 : Int32} {x3 : Int32} {x4 : Int32}  {o : (Int32 × Int32 × Int32) ⊕ (Int32)} (hf : BX8_bestOfMenu_7 σ x1 x2 x3 x4 = some o) (kc : ∀ v, o = .inl v → sn_At p l e rmX8_bestOfMenu s m args below meth c Q D ct ad layC A 6 σ 7 [(0, .ref (ad 0)), (1, .int x1), (2, .int v.1), (3, .int v.2.1), (4, .int v.2.2)] []) (kx : ∀ v, o = .inr v → sn_At p l e rmX8_bestOfMenu s m args below meth c Q D ct ad layC A 6 σ 49 [(2, .int v)] []) : sn_At p l e rmX8_bestOfMenu s m args below meth c Q D ct ad layC A 6 σ 7 [(0, .ref (ad 0)), (1, .int x1), (2, .int x2), (3, .int x3), (4, .int x4)] [] := by
  intro H locs ls hw hl
  have hx := C.1
  have hb := C.2.1
  unfold BX8_bestOfMenu_7 at hf
  refine lv_iload hx hb dX8_bestOfMenu_7 (lv_at hl 4 rfl) ?_
  refine lv_aload_n hx hb dX8_bestOfMenu_9 rfl (lv_at hl 0 rfl) ?_
  refine sn_getC (r := 1) C hw fd_RX8_10 layC_0 rfl dX8_bestOfMenu_10 ?_
  refine sn_getC (r := (1 + 1)) C hw fd_RX8_100 (sn_look sn_isX2_1 (k := 0) rfl) rfl dX8_bestOfMenu_13 ?_
  refine lv_bipush (v := 8) hx hb dX8_bestOfMenu_16 (by decide) ?_
  obtain ⟨g_1, hf⟩ := sn_gdE hf
  refine sn_iald C hw (sn_look sn_isX2_1 (k := 1) rfl) g_1 dX8_bestOfMenu_18 ?_
  refine lv_icmp_ge (tgt := 49) hx hb dX8_bestOfMenu_19 (by decide) (fun c_2 => ?_) (fun c_2 => ?_)
  · have hf := sn_if c_2 hf
    cases hf
    exact kx _ rfl _ _ _ hw (lv_sub hl [2] rfl)
  · have hf := sn_el c_2 hf
    refine lv_aload_n hx hb dX8_bestOfMenu_22 rfl (lv_at hl 0 rfl) ?_
    refine lv_iload_n hx hb dX8_bestOfMenu_23 rfl (lv_at hl 1 rfl) ?_
    refine lv_iload hx hb dX8_bestOfMenu_24 (lv_at hl 4 rfl) ?_
    obtain ⟨t_3, h_4, hf⟩ := sn_bd hf
    refine sn_callVi (rest := []) C hw (ctX8_gainBy l  h_4) kl_RX8_241 layC_0 rfl rfl rfl rfl (Nat.le_of_ble_eq_true rfl) dX8_bestOfMenu_26 hl.1 (fun H locs hw => ?_)
    refine lv_istore (lv' := [(5, .int t_3), (0, .ref (ad 0)), (1, .int x1), (2, .int x2), (3, .int x3), (4, .int x4)]) hx hb dX8_bestOfMenu_29 hl (by decide) rfl (fun ls hl => ?_)
    refine lv_iload hx hb dX8_bestOfMenu_31 (lv_at hl 0 rfl) ?_
    refine lv_iload_n hx hb dX8_bestOfMenu_33 rfl (lv_at hl 4 rfl) ?_
    refine lv_icmp_le (tgt := 43) hx hb dX8_bestOfMenu_34 (by decide) (fun c_5 => ?_) (fun c_5 => ?_)
    · have hf := sn_if c_5 hf
      exact wX8_bestOfMenu_43 C  hf kc kx _ _ _ hw (lv_sub hl [1, 2, 3, 4, 5] rfl)
    · have hf := sn_el c_5 hf
      refine lv_iload hx hb dX8_bestOfMenu_37 (lv_at hl 0 rfl) ?_
      refine lv_istore_n (lv' := [(3, .int t_3), (5, .int t_3), (0, .ref (ad 0)), (1, .int x1), (2, .int x2), (4, .int x4)]) hx hb dX8_bestOfMenu_39 rfl hl (by decide) rfl (fun ls hl => ?_)
      refine lv_iload hx hb dX8_bestOfMenu_40 (lv_at hl 5 rfl) ?_
      refine lv_istore_n (lv' := [(2, .int x4), (3, .int t_3), (5, .int t_3), (0, .ref (ad 0)), (1, .int x1), (4, .int x4)]) hx hb dX8_bestOfMenu_42 rfl hl (by decide) rfl (fun ls hl => ?_)
      exact wX8_bestOfMenu_43 C  hf kc kx _ _ _ hw (lv_sub hl [3, 4, 0, 1, 5] rfl)
theorem wX8_bestOfMenu_L7 (C : sn_C p s m args meth c RX8 cX8_bestOfMenu 6 (some .int) D ct ad layC A) {σ : sn_S} {x1 : Int32}   {z : Int32 × Int32 × Int32} {t : Int32} (h : sn_it (LX8_bestOfMenu_7 σ x1) 5000 z = some t) (kx : ∀ v, t = v → sn_At p l e rmX8_bestOfMenu s m args below meth c Q D ct ad layC A 6 σ 49 [(2, .int v)] []) : sn_At p l e rmX8_bestOfMenu s m args below meth c Q D ct ad layC A 6 σ 7 [(0, .ref (ad 0)), (1, .int x1), (2, .int z.1), (3, .int z.2.1), (4, .int z.2.2)] [] :=
  sn_loop (f := LX8_bestOfMenu_7 σ x1) (G := fun z => sn_At p l e rmX8_bestOfMenu s m args below meth c Q D ct ad layC A 6 σ 7 [(0, .ref (ad 0)), (1, .int x1), (2, .int z.1), (3, .int z.2.1), (4, .int z.2.2)] []) (E := fun t => (∀ v, t = v → sn_At p l e rmX8_bestOfMenu s m args below meth c Q D ct ad layC A 6 σ 49 [(2, .int v)] []) ∧ True) (fun z o hf k1 k2 => wX8_bestOfMenu_7 C  hf (fun v e => k1 v e) (fun v e => (k2 _ e).1 v rfl)) 5000 z t h ⟨kx, trivial⟩
theorem wX8_bestOfMenu_in (C : sn_C p s m args meth c RX8 cX8_bestOfMenu 6 (some .int) D ct ad layC A) {σ : sn_S} {x1 : Int32}  {o : Int32} (hf : fX8_bestOfMenu σ x1 = some o) (kr : sn_Kr p l e rmX8_bestOfMenu s m args below meth c Q D ct ad layC A cX8_bestOfMenu .ireturn (true) σ [.int o]) : sn_At p l e rmX8_bestOfMenu s m args below meth c Q D ct ad layC A 6 σ 0 [(0, .ref (ad 0)), (1, .int x1)] [] := by
  intro H locs ls hw hl
  have hx := C.1
  have hb := C.2.1
  unfold fX8_bestOfMenu at hf
  refine lv_iconst (v := (-1)) hx hb dX8_bestOfMenu_0 rfl ?_
  refine lv_istore_n (lv' := [(2, .int (-1 : Int32)), (0, .ref (ad 0)), (1, .int x1)]) hx hb dX8_bestOfMenu_1 rfl hl (by decide) rfl (fun ls hl => ?_)
  refine lv_iconst (v := 0) hx hb dX8_bestOfMenu_2 rfl ?_
  refine lv_istore_n (lv' := [(3, .int (0 : Int32)), (2, .int (-1 : Int32)), (0, .ref (ad 0)), (1, .int x1)]) hx hb dX8_bestOfMenu_3 rfl hl (by decide) rfl (fun ls hl => ?_)
  refine lv_iconst (v := 0) hx hb dX8_bestOfMenu_4 rfl ?_
  refine lv_istore (lv' := [(4, .int (0 : Int32)), (3, .int (0 : Int32)), (2, .int (-1 : Int32)), (0, .ref (ad 0)), (1, .int x1)]) hx hb dX8_bestOfMenu_5 hl (by decide) rfl (fun ls hl => ?_)
  obtain ⟨t_1, h_2, hf⟩ := sn_bd hf
  exact wX8_bestOfMenu_L7 C  h_2 (fun v e => by cases e; exact wX8_bestOfMenu_49 C  hf kr) _ _ _ hw (lv_sub hl [3, 4, 2, 1, 0] rfl)
theorem ctX8_bestOfMenu (l : Launch) {σ : sn_S} {x1 : Int32}  {o : Int32} (hf : fX8_bestOfMenu σ x1 = some o) : sn_M l yX8_bestOfMenu cX8_bestOfMenu 6 (some .int) rmX8_bestOfMenu layC (fun ad => [.ref (ad 0), .int x1]) σ (some (fun _ => .int o)) σ :=
  sn_met (by decide) (fun _ => Nat.le_of_ble_eq_true rfl) (fun p e s m args below meth c ls D ct ad A C hw hl => wX8_bestOfMenu_in C  hf (fun H locs ls pc hw ok hd => sn_iret C hw hd) _ _ _ hw hl)
-- X8_takes
abbrev rmX8_takes : Room := { frames := 6, cells := 0, slots := 0, locals := 142 }
def fX8_takes (σ : sn_S) (x1 : Int32) : Option Int32 :=
  ((fX8_isPerson σ x1).bind fun t_1 => (if t_1 = 0 then
  (some (-2 : Int32))
  else
  ((fX8_bestOfMenu σ x1).bind fun t_4 => (some t_4))))
theorem wX8_takes_in (C : sn_C p s m args meth c RX8 cX8_takes 2 (some .int) D ct ad layC A) {σ : sn_S} {x1 : Int32}  {o : Int32} (hf : fX8_takes σ x1 = some o) (kr : sn_Kr p l e rmX8_takes s m args below meth c Q D ct ad layC A cX8_takes .ireturn (true) σ [.int o]) : sn_At p l e rmX8_takes s m args below meth c Q D ct ad layC A 2 σ 0 [(0, .ref (ad 0)), (1, .int x1)] [] := by
  intro H locs ls hw hl
  have hx := C.1
  have hb := C.2.1
  unfold fX8_takes at hf
  refine lv_aload_n hx hb dX8_takes_0 rfl (lv_at hl 0 rfl) ?_
  refine lv_iload_n hx hb dX8_takes_1 rfl (lv_at hl 1 rfl) ?_
  obtain ⟨t_1, h_2, hf⟩ := sn_bd hf
  refine sn_callVi (rest := []) C hw (ctX8_isPerson l  h_2) kl_RX8_107 layC_0 rfl rfl rfl rfl (Nat.le_of_ble_eq_true rfl) dX8_takes_2 hl.1 (fun H locs hw => ?_)
  refine lv_if_eq (tgt := 16) hx hb dX8_takes_5 (by decide) (fun c_3 => ?_) (fun c_3 => ?_)
  · have hf := sn_if c_3 hf
    refine lv_bipush (v := (-2)) hx hb dX8_takes_16 (by decide) ?_
    cases hf
    exact kr _ _ _ _ hw rfl dX8_takes_18
  · have hf := sn_el c_3 hf
    refine lv_aload_n hx hb dX8_takes_8 rfl (lv_at hl 0 rfl) ?_
    refine lv_iload_n hx hb dX8_takes_9 rfl (lv_at hl 1 rfl) ?_
    obtain ⟨t_4, h_5, hf⟩ := sn_bd hf
    refine sn_callVi (rest := []) C hw (ctX8_bestOfMenu l  h_5) kl_RX8_238 layC_0 rfl rfl rfl rfl (Nat.le_of_ble_eq_true rfl) dX8_takes_10 hl.1 (fun H locs hw => ?_)
    refine lv_goto (tgt := 18) hx hb dX8_takes_13 (by decide) ?_
    cases hf
    exact kr _ _ _ _ hw rfl dX8_takes_18
theorem ctX8_takes (l : Launch) {σ : sn_S} {x1 : Int32}  {o : Int32} (hf : fX8_takes σ x1 = some o) : sn_M l yX8_takes cX8_takes 2 (some .int) rmX8_takes layC (fun ad => [.ref (ad 0), .int x1]) σ (some (fun _ => .int o)) σ :=
  sn_met (by decide) (fun _ => Nat.le_of_ble_eq_true rfl) (fun p e s m args below meth c ls D ct ad A C hw hl => wX8_takes_in C  hf (fun H locs ls pc hw ok hd => sn_iret C hw hd) _ _ _ hw hl)
-- X8_gains
abbrev rmX8_gains : Room := { frames := 6, cells := 0, slots := 0, locals := 142 }
def fX8_gains (σ : sn_S) (x1 : Int32) : Option Int32 :=
  ((fX8_isPerson σ x1).bind fun t_1 => (if t_1 = 0 then
  (some (-2 : Int32))
  else
  ((fX8_bestOfMenu σ x1).bind fun t_4 => (if t_4 = (-1 : Int32) then
  (some (0 : Int32))
  else
  ((fX8_gainBy σ x1 t_4).bind fun t_7 => (some t_7))))))
theorem wX8_gains_in (C : sn_C p s m args meth c RX8 cX8_gains 3 (some .int) D ct ad layC A) {σ : sn_S} {x1 : Int32}  {o : Int32} (hf : fX8_gains σ x1 = some o) (kr : sn_Kr p l e rmX8_gains s m args below meth c Q D ct ad layC A cX8_gains .ireturn (true) σ [.int o]) : sn_At p l e rmX8_gains s m args below meth c Q D ct ad layC A 3 σ 0 [(0, .ref (ad 0)), (1, .int x1)] [] := by
  intro H locs ls hw hl
  have hx := C.1
  have hb := C.2.1
  unfold fX8_gains at hf
  refine lv_aload_n hx hb dX8_gains_0 rfl (lv_at hl 0 rfl) ?_
  refine lv_iload_n hx hb dX8_gains_1 rfl (lv_at hl 1 rfl) ?_
  obtain ⟨t_1, h_2, hf⟩ := sn_bd hf
  refine sn_callVi (rest := []) C hw (ctX8_isPerson l  h_2) kl_RX8_107 layC_0 rfl rfl rfl rfl (Nat.le_of_ble_eq_true rfl) dX8_gains_2 hl.1 (fun H locs hw => ?_)
  refine lv_if_ne (tgt := 11) hx hb dX8_gains_5 (by decide) (fun c_3 => ?_) (fun c_3 => ?_)
  · have hf := sn_el c_3 hf
    refine lv_aload_n hx hb dX8_gains_11 rfl (lv_at hl 0 rfl) ?_
    refine lv_iload_n hx hb dX8_gains_12 rfl (lv_at hl 1 rfl) ?_
    obtain ⟨t_4, h_5, hf⟩ := sn_bd hf
    refine sn_callVi (rest := []) C hw (ctX8_bestOfMenu l  h_5) kl_RX8_238 layC_0 rfl rfl rfl rfl (Nat.le_of_ble_eq_true rfl) dX8_gains_13 hl.1 (fun H locs hw => ?_)
    refine lv_istore_n (lv' := [(2, .int t_4), (0, .ref (ad 0)), (1, .int x1)]) hx hb dX8_gains_16 rfl hl (by decide) rfl (fun ls hl => ?_)
    refine lv_iload_n hx hb dX8_gains_17 rfl (lv_at hl 0 rfl) ?_
    refine lv_iconst (v := (-1)) hx hb dX8_gains_18 rfl ?_
    refine lv_icmp_ne (tgt := 26) hx hb dX8_gains_19 (by decide) (fun c_6 => ?_) (fun c_6 => ?_)
    · have hf := sn_el c_6 hf
      refine lv_aload_n hx hb dX8_gains_26 rfl (lv_at hl 1 rfl) ?_
      refine lv_iload_n hx hb dX8_gains_27 rfl (lv_at hl 2 rfl) ?_
      refine lv_iload_n hx hb dX8_gains_28 rfl (lv_at hl 0 rfl) ?_
      obtain ⟨t_7, h_8, hf⟩ := sn_bd hf
      refine sn_callVi (rest := []) C hw (ctX8_gainBy l  h_8) kl_RX8_241 layC_0 rfl rfl rfl rfl (Nat.le_of_ble_eq_true rfl) dX8_gains_29 hl.1 (fun H locs hw => ?_)
      cases hf
      exact kr _ _ _ _ hw rfl dX8_gains_32
    · have hf := sn_if c_6 hf
      refine lv_iconst (v := 0) hx hb dX8_gains_22 rfl ?_
      refine lv_goto (tgt := 32) hx hb dX8_gains_23 (by decide) ?_
      cases hf
      exact kr _ _ _ _ hw rfl dX8_gains_32
  · have hf := sn_if c_3 hf
    refine lv_bipush (v := (-2)) hx hb dX8_gains_8 (by decide) ?_
    cases hf
    exact kr _ _ _ _ hw rfl dX8_gains_10
theorem ctX8_gains (l : Launch) {σ : sn_S} {x1 : Int32}  {o : Int32} (hf : fX8_gains σ x1 = some o) : sn_M l yX8_gains cX8_gains 3 (some .int) rmX8_gains layC (fun ad => [.ref (ad 0), .int x1]) σ (some (fun _ => .int o)) σ :=
  sn_met (by decide) (fun _ => Nat.le_of_ble_eq_true rfl) (fun p e s m args below meth c ls D ct ad A C hw hl => wX8_gains_in C  hf (fun H locs ls pc hw ok hd => sn_iret C hw hd) _ _ _ hw hl)
-- X8_priceFor
abbrev rmX8_priceFor : Room := { frames := 5, cells := 0, slots := 0, locals := 117 }
def BX8_priceFor_66 (σ : sn_S) (x1 : Int32) (x2 : Int32) (x3 : Int32) : Option (Int32) :=
  ((fX8_claimAsIfOf σ x1 x2).bind fun t_1 => (sn_lt (if (0 : Int32) < (t_1 - x3) then (t_1 - x3) else (0 : Int32)) fun y_3 => (some y_3)))
def BX8_priceFor_60 (σ : sn_S) (x1 : Int32) (x2 : Int32) (x3 : Int32) (x4 : Int32) : Option ((Int32 × Int32) ⊕ (Int32)) :=
  (sn_lt (x4 + 1) fun y_1 => (some (.inl (x3, y_1))))
def BX8_priceFor_5 (σ : sn_S) (x1 : Int32) (x2 : Int32) (x3 : Int32) (x4 : Int32) : Option ((Int32 × Int32) ⊕ (Int32)) :=
  (sn_gd (sn_in (8 : Int32) 11) (if (sn_I σ (1 + 1) (8 : Int32).toNatClampNeg) ≤ x4 then
  (some (.inr (x3)))
  else
  ((fX8_gainBy σ x1 x4).bind fun t_3 => (if x2 ≤ x4 then
  (if x4 ≤ x2 then
  (BX8_priceFor_60 σ x1 x2 x3 x4)
  else
  (sn_lt (if x3 < (t_3 - (1 : Int32)) then (t_3 - (1 : Int32)) else x3) fun y_7 => (BX8_priceFor_60 σ x1 x2 y_7 x4)))
  else
  (sn_lt (if x3 < t_3 then t_3 else x3) fun y_9 => (BX8_priceFor_60 σ x1 x2 y_9 x4))))))
def LX8_priceFor_5 (σ : sn_S) (x1 : Int32) (x2 : Int32) (s : Int32 × Int32) : Option ((Int32 × Int32) ⊕ (Int32)) := BX8_priceFor_5 σ x1 x2 s.1 s.2
def fX8_priceFor (σ : sn_S) (x1 : Int32) (x2 : Int32) : Option Int32 :=
  ((sn_it (LX8_priceFor_5 σ x1 x2) 5000 ((0 : Int32), (0 : Int32))).bind fun t_1 => (BX8_priceFor_66 σ x1 x2 t_1))
theorem wX8_priceFor_66 (C : sn_C p s m args meth c RX8 cX8_priceFor 6 (some .int) D ct ad layC A) {σ : sn_S} {x1 : Int32} {x2 : Int32} {x3 : Int32}  {o : Int32} (hf : BX8_priceFor_66 σ x1 x2 x3 = some o) (kr : sn_Kr p l e rmX8_priceFor s m args below meth c Q D ct ad layC A cX8_priceFor .ireturn (true) σ [.int o]) : sn_At p l e rmX8_priceFor s m args below meth c Q D ct ad layC A 6 σ 66 [(0, .ref (ad 0)), (1, .int x1), (2, .int x2), (3, .int x3)] [] := by
  intro H locs ls hw hl
  have hx := C.1
  have hb := C.2.1
  unfold BX8_priceFor_66 at hf
  refine lv_iconst (v := 0) hx hb dX8_priceFor_66 rfl ?_
  refine lv_aload_n hx hb dX8_priceFor_67 rfl (lv_at hl 0 rfl) ?_
  refine lv_iload_n hx hb dX8_priceFor_68 rfl (lv_at hl 1 rfl) ?_
  refine lv_iload_n hx hb dX8_priceFor_69 rfl (lv_at hl 2 rfl) ?_
  obtain ⟨t_1, h_2, hf⟩ := sn_bd hf
  refine sn_callVi (rest := [.int (0 : Int32)]) C hw (ctX8_claimAsIfOf l  h_2) kl_RX8_247 layC_0 rfl rfl rfl rfl (Nat.le_of_ble_eq_true rfl) dX8_priceFor_70 hl.1 (fun H locs hw => ?_)
  refine lv_iload_n hx hb dX8_priceFor_73 rfl (lv_at hl 3 rfl) ?_
  refine lv_isub hx hb dX8_priceFor_74 ?_
  refine va_mmax hx hb (C.2.2.1.trans hl.1.symm) C.2.2.2.1 (C.2.2.2.2.1 _ km_RX8_154) (C.2.2.2.2.1 _ kst_maxI) (C.2.2.2.2.1 _ ki_Math) (C.2.2.2.2.1 _ kc_maxI) (Nat.le_of_ble_eq_true rfl) (Nat.le_of_ble_eq_true rfl) (Nat.zero_le _) (Nat.zero_le _) dX8_priceFor_75 ?_
  obtain ⟨y_3, e_4, hf⟩ := sn_ltE hf
  refine lv_topi (fun y_3_ e_4_ => ?_)
  obtain rfl : y_3 = y_3_ := e_4.trans e_4_.symm
  cases hf
  exact kr _ _ _ _ hw rfl dX8_priceFor_78
theorem wX8_priceFor_60 (C : sn_C p s m args meth c RX8 cX8_priceFor 6 (some .int) D ct ad layC A) {σ : sn_S} {x1 : Int32} {x2 : Int32} {x3 : Int32} {x4 : Int32}  {o : (Int32 × Int32) ⊕ (Int32)} (hf : BX8_priceFor_60 σ x1 x2 x3 x4 = some o) (kc : ∀ v, o = .inl v → sn_At p l e rmX8_priceFor s m args below meth c Q D ct ad layC A 6 σ 5 [(0, .ref (ad 0)), (1, .int x1), (2, .int x2), (3, .int v.1), (4, .int v.2)] []) (kx : ∀ v, o = .inr v → sn_At p l e rmX8_priceFor s m args below meth c Q D ct ad layC A 6 σ 66 [(0, .ref (ad 0)), (1, .int x1), (2, .int x2), (3, .int v)] []) : sn_At p l e rmX8_priceFor s m args below meth c Q D ct ad layC A 6 σ 60 [(0, .ref (ad 0)), (1, .int x1), (2, .int x2), (3, .int x3), (4, .int x4)] [] := by
  intro H locs ls hw hl
  have hx := C.1
  have hb := C.2.1
  unfold BX8_priceFor_60 at hf
  obtain ⟨y_1, e_2, hf⟩ := sn_ltE hf
  refine lv_iinc (v := y_1) (lv' := [(4, .int y_1), (0, .ref (ad 0)), (1, .int x1), (2, .int x2), (3, .int x3)]) hx hb dX8_priceFor_60 hl (k := 4) rfl (by rw [e_2]; rfl) (by decide) rfl (fun ls hl => ?_)
  refine lv_goto (tgt := 5) hx hb dX8_priceFor_63 (by decide) ?_
  cases hf
  exact kc _ rfl _ _ _ hw (lv_sub hl [1, 2, 3, 4, 0] rfl)
theorem wX8_priceFor_5 (C : sn_C p s m args meth c RX8 cX8_priceFor 6 (some .int) D ct ad layC A) {σ : sn_S} {x1 : Int32} {x2 : Int32} {x3 : Int32} {x4 : Int32}  {o : (Int32 × Int32) ⊕ (Int32)} (hf : BX8_priceFor_5 σ x1 x2 x3 x4 = some o) (kc : ∀ v, o = .inl v → sn_At p l e rmX8_priceFor s m args below meth c Q D ct ad layC A 6 σ 5 [(0, .ref (ad 0)), (1, .int x1), (2, .int x2), (3, .int v.1), (4, .int v.2)] []) (kx : ∀ v, o = .inr v → sn_At p l e rmX8_priceFor s m args below meth c Q D ct ad layC A 6 σ 66 [(0, .ref (ad 0)), (1, .int x1), (2, .int x2), (3, .int v)] []) : sn_At p l e rmX8_priceFor s m args below meth c Q D ct ad layC A 6 σ 5 [(0, .ref (ad 0)), (1, .int x1), (2, .int x2), (3, .int x3), (4, .int x4)] [] := by
  intro H locs ls hw hl
  have hx := C.1
  have hb := C.2.1
  unfold BX8_priceFor_5 at hf
  refine lv_iload hx hb dX8_priceFor_5 (lv_at hl 4 rfl) ?_
  refine lv_aload_n hx hb dX8_priceFor_7 rfl (lv_at hl 0 rfl) ?_
  refine sn_getC (r := 1) C hw fd_RX8_10 layC_0 rfl dX8_priceFor_8 ?_
  refine sn_getC (r := (1 + 1)) C hw fd_RX8_100 (sn_look sn_isX2_1 (k := 0) rfl) rfl dX8_priceFor_11 ?_
  refine lv_bipush (v := 8) hx hb dX8_priceFor_14 (by decide) ?_
  obtain ⟨g_1, hf⟩ := sn_gdE hf
  refine sn_iald C hw (sn_look sn_isX2_1 (k := 1) rfl) g_1 dX8_priceFor_16 ?_
  refine lv_icmp_ge (tgt := 66) hx hb dX8_priceFor_17 (by decide) (fun c_2 => ?_) (fun c_2 => ?_)
  · have hf := sn_if c_2 hf
    cases hf
    exact kx _ rfl _ _ _ hw (lv_sub hl [0, 1, 2, 3] rfl)
  · have hf := sn_el c_2 hf
    refine lv_aload_n hx hb dX8_priceFor_20 rfl (lv_at hl 0 rfl) ?_
    refine lv_iload_n hx hb dX8_priceFor_21 rfl (lv_at hl 1 rfl) ?_
    refine lv_iload hx hb dX8_priceFor_22 (lv_at hl 4 rfl) ?_
    obtain ⟨t_3, h_4, hf⟩ := sn_bd hf
    refine sn_callVi (rest := []) C hw (ctX8_gainBy l  h_4) kl_RX8_241 layC_0 rfl rfl rfl rfl (Nat.le_of_ble_eq_true rfl) dX8_priceFor_24 hl.1 (fun H locs hw => ?_)
    refine lv_istore (lv' := [(5, .int t_3), (0, .ref (ad 0)), (1, .int x1), (2, .int x2), (3, .int x3), (4, .int x4)]) hx hb dX8_priceFor_27 hl (by decide) rfl (fun ls hl => ?_)
    refine lv_iload hx hb dX8_priceFor_29 (lv_at hl 5 rfl) ?_
    refine lv_iload_n hx hb dX8_priceFor_31 rfl (lv_at hl 3 rfl) ?_
    refine lv_icmp_ge (tgt := 45) hx hb dX8_priceFor_32 (by decide) (fun c_5 => ?_) (fun c_5 => ?_)
    · have hf := sn_if c_5 hf
      refine lv_iload hx hb dX8_priceFor_45 (lv_at hl 5 rfl) ?_
      refine lv_iload_n hx hb dX8_priceFor_47 rfl (lv_at hl 3 rfl) ?_
      refine lv_icmp_le (tgt := 60) hx hb dX8_priceFor_48 (by decide) (fun c_6 => ?_) (fun c_6 => ?_)
      · have hf := sn_if c_6 hf
        exact wX8_priceFor_60 C  hf kc kx _ _ _ hw (lv_sub hl [1, 2, 3, 4, 5] rfl)
      · have hf := sn_el c_6 hf
        refine lv_iload_n hx hb dX8_priceFor_51 rfl (lv_at hl 4 rfl) ?_
        refine lv_iload hx hb dX8_priceFor_52 (lv_at hl 0 rfl) ?_
        refine lv_iconst (v := 1) hx hb dX8_priceFor_54 rfl ?_
        refine lv_isub hx hb dX8_priceFor_55 ?_
        refine va_mmax hx hb (C.2.2.1.trans hl.1.symm) C.2.2.2.1 (C.2.2.2.2.1 _ km_RX8_154) (C.2.2.2.2.1 _ kst_maxI) (C.2.2.2.2.1 _ ki_Math) (C.2.2.2.2.1 _ kc_maxI) (Nat.le_of_ble_eq_true rfl) (Nat.le_of_ble_eq_true rfl) (Nat.zero_le _) (Nat.zero_le _) dX8_priceFor_56 ?_
        obtain ⟨y_7, e_8, hf⟩ := sn_ltE hf
        refine lv_topi (fun y_7_ e_8_ => ?_)
        obtain rfl : y_7 = y_7_ := e_8.trans e_8_.symm
        refine lv_istore_n (lv' := [(3, .int y_7), (5, .int t_3), (0, .ref (ad 0)), (1, .int x1), (2, .int x2), (4, .int x4)]) hx hb dX8_priceFor_59 rfl hl (by decide) rfl (fun ls hl => ?_)
        exact wX8_priceFor_60 C  hf kc kx _ _ _ hw (lv_sub hl [2, 3, 4, 0, 5] rfl)
    · have hf := sn_el c_5 hf
      refine lv_iload_n hx hb dX8_priceFor_35 rfl (lv_at hl 4 rfl) ?_
      refine lv_iload hx hb dX8_priceFor_36 (lv_at hl 0 rfl) ?_
      refine va_mmax hx hb (C.2.2.1.trans hl.1.symm) C.2.2.2.1 (C.2.2.2.2.1 _ km_RX8_154) (C.2.2.2.2.1 _ kst_maxI) (C.2.2.2.2.1 _ ki_Math) (C.2.2.2.2.1 _ kc_maxI) (Nat.le_of_ble_eq_true rfl) (Nat.le_of_ble_eq_true rfl) (Nat.zero_le _) (Nat.zero_le _) dX8_priceFor_38 ?_
      obtain ⟨y_9, e_10, hf⟩ := sn_ltE hf
      refine lv_topi (fun y_9_ e_10_ => ?_)
      obtain rfl : y_9 = y_9_ := e_10.trans e_10_.symm
      refine lv_istore_n (lv' := [(3, .int y_9), (5, .int t_3), (0, .ref (ad 0)), (1, .int x1), (2, .int x2), (4, .int x4)]) hx hb dX8_priceFor_41 rfl hl (by decide) rfl (fun ls hl => ?_)
      refine lv_goto (tgt := 60) hx hb dX8_priceFor_42 (by decide) ?_
      exact wX8_priceFor_60 C  hf kc kx _ _ _ hw (lv_sub hl [2, 3, 4, 0, 5] rfl)
theorem wX8_priceFor_L5 (C : sn_C p s m args meth c RX8 cX8_priceFor 6 (some .int) D ct ad layC A) {σ : sn_S} {x1 : Int32} {x2 : Int32}   {z : Int32 × Int32} {t : Int32} (h : sn_it (LX8_priceFor_5 σ x1 x2) 5000 z = some t) (kx : ∀ v, t = v → sn_At p l e rmX8_priceFor s m args below meth c Q D ct ad layC A 6 σ 66 [(0, .ref (ad 0)), (1, .int x1), (2, .int x2), (3, .int v)] []) : sn_At p l e rmX8_priceFor s m args below meth c Q D ct ad layC A 6 σ 5 [(0, .ref (ad 0)), (1, .int x1), (2, .int x2), (3, .int z.1), (4, .int z.2)] [] :=
  sn_loop (f := LX8_priceFor_5 σ x1 x2) (G := fun z => sn_At p l e rmX8_priceFor s m args below meth c Q D ct ad layC A 6 σ 5 [(0, .ref (ad 0)), (1, .int x1), (2, .int x2), (3, .int z.1), (4, .int z.2)] []) (E := fun t => (∀ v, t = v → sn_At p l e rmX8_priceFor s m args below meth c Q D ct ad layC A 6 σ 66 [(0, .ref (ad 0)), (1, .int x1), (2, .int x2), (3, .int v)] []) ∧ True) (fun z o hf k1 k2 => wX8_priceFor_5 C  hf (fun v e => k1 v e) (fun v e => (k2 _ e).1 v rfl)) 5000 z t h ⟨kx, trivial⟩
theorem wX8_priceFor_in (C : sn_C p s m args meth c RX8 cX8_priceFor 6 (some .int) D ct ad layC A) {σ : sn_S} {x1 : Int32} {x2 : Int32}  {o : Int32} (hf : fX8_priceFor σ x1 x2 = some o) (kr : sn_Kr p l e rmX8_priceFor s m args below meth c Q D ct ad layC A cX8_priceFor .ireturn (true) σ [.int o]) : sn_At p l e rmX8_priceFor s m args below meth c Q D ct ad layC A 6 σ 0 [(0, .ref (ad 0)), (1, .int x1), (2, .int x2)] [] := by
  intro H locs ls hw hl
  have hx := C.1
  have hb := C.2.1
  unfold fX8_priceFor at hf
  refine lv_iconst (v := 0) hx hb dX8_priceFor_0 rfl ?_
  refine lv_istore_n (lv' := [(3, .int (0 : Int32)), (0, .ref (ad 0)), (1, .int x1), (2, .int x2)]) hx hb dX8_priceFor_1 rfl hl (by decide) rfl (fun ls hl => ?_)
  refine lv_iconst (v := 0) hx hb dX8_priceFor_2 rfl ?_
  refine lv_istore (lv' := [(4, .int (0 : Int32)), (3, .int (0 : Int32)), (0, .ref (ad 0)), (1, .int x1), (2, .int x2)]) hx hb dX8_priceFor_3 hl (by decide) rfl (fun ls hl => ?_)
  obtain ⟨t_1, h_2, hf⟩ := sn_bd hf
  exact wX8_priceFor_L5 C  h_2 (fun v e => by cases e; exact wX8_priceFor_66 C  hf kr) _ _ _ hw (lv_sub hl [2, 3, 4, 1, 0] rfl)
theorem ctX8_priceFor (l : Launch) {σ : sn_S} {x1 : Int32} {x2 : Int32}  {o : Int32} (hf : fX8_priceFor σ x1 x2 = some o) : sn_M l yX8_priceFor cX8_priceFor 6 (some .int) rmX8_priceFor layC (fun ad => [.ref (ad 0), .int x1, .int x2]) σ (some (fun _ => .int o)) σ :=
  sn_met (by decide) (fun _ => Nat.le_of_ble_eq_true rfl) (fun p e s m args below meth c ls D ct ad A C hw hl => wX8_priceFor_in C  hf (fun H locs ls pc hw ok hd => sn_iret C hw hd) _ _ _ hw hl)
-- X8_price
abbrev rmX8_price : Room := { frames := 6, cells := 0, slots := 0, locals := 142 }
def BX8_price_43 (σ : sn_S) (x2 : Int32) : Option (Int32) :=
  (some x2)
def BX8_price_15 (σ : sn_S) (x1 : Int32) (x2 : Int32) (x3 : Int32) : Option ((Int32 × Int32) ⊕ (Int32)) :=
  (if (sn_I σ 27 1) ≤ x3 then
  (some (.inr (x2)))
  else
  ((fX8_priceFor σ x3 x1).bind fun t_2 => (sn_lt (if x2 < t_2 then t_2 else x2) fun y_4 => (sn_lt (x3 + 1) fun y_6 => (some (.inl (y_4, y_6)))))))
def LX8_price_15 (σ : sn_S) (x1 : Int32) (s : Int32 × Int32) : Option ((Int32 × Int32) ⊕ (Int32)) := BX8_price_15 σ x1 s.1 s.2
def fX8_price (σ : sn_S) (x1 : Int32) : Option Int32 :=
  ((fX8_isPolicy σ x1).bind fun t_1 => (if t_1 = 0 then
  (some (-2 : Int32))
  else
  ((sn_it (LX8_price_15 σ x1) 5000 ((0 : Int32), (0 : Int32))).bind fun t_4 => (BX8_price_43 σ t_4))))
theorem wX8_price_43 (C : sn_C p s m args meth c RX8 cX8_price 4 (some .int) D ct ad layC A) {σ : sn_S} {x2 : Int32}  {o : Int32} (hf : BX8_price_43 σ x2 = some o) (kr : sn_Kr p l e rmX8_price s m args below meth c Q D ct ad layC A cX8_price .ireturn (true) σ [.int o]) : sn_At p l e rmX8_price s m args below meth c Q D ct ad layC A 4 σ 43 [(2, .int x2)] [] := by
  intro H locs ls hw hl
  have hx := C.1
  have hb := C.2.1
  unfold BX8_price_43 at hf
  refine lv_iload_n hx hb dX8_price_43 rfl (lv_at hl 0 rfl) ?_
  cases hf
  exact kr _ _ _ _ hw rfl dX8_price_44
theorem wX8_price_15 (C : sn_C p s m args meth c RX8 cX8_price 4 (some .int) D ct ad layC A) {σ : sn_S} {x1 : Int32} {x2 : Int32} {x3 : Int32}  {o : (Int32 × Int32) ⊕ (Int32)} (hf : BX8_price_15 σ x1 x2 x3 = some o) (kc : ∀ v, o = .inl v → sn_At p l e rmX8_price s m args below meth c Q D ct ad layC A 4 σ 15 [(0, .ref (ad 0)), (1, .int x1), (2, .int v.1), (3, .int v.2)] []) (kx : ∀ v, o = .inr v → sn_At p l e rmX8_price s m args below meth c Q D ct ad layC A 4 σ 43 [(2, .int v)] []) : sn_At p l e rmX8_price s m args below meth c Q D ct ad layC A 4 σ 15 [(0, .ref (ad 0)), (1, .int x1), (2, .int x2), (3, .int x3)] [] := by
  intro H locs ls hw hl
  have hx := C.1
  have hb := C.2.1
  unfold BX8_price_15 at hf
  refine lv_iload_n hx hb dX8_price_15 rfl (lv_at hl 3 rfl) ?_
  refine lv_aload_n hx hb dX8_price_16 rfl (lv_at hl 0 rfl) ?_
  refine sn_getC (r := 27) C hw fd_RX8_44 layC_0 rfl dX8_price_17 ?_
  refine sn_getI C hw fd_RX8_162 (sn_look sn_isX0_27 (k := 0) rfl) rfl dX8_price_20 ?_
  refine lv_icmp_ge (tgt := 43) hx hb dX8_price_23 (by decide) (fun c_1 => ?_) (fun c_1 => ?_)
  · have hf := sn_if c_1 hf
    cases hf
    exact kx _ rfl _ _ _ hw (lv_sub hl [2] rfl)
  · have hf := sn_el c_1 hf
    refine lv_iload_n hx hb dX8_price_26 rfl (lv_at hl 2 rfl) ?_
    refine lv_aload_n hx hb dX8_price_27 rfl (lv_at hl 0 rfl) ?_
    refine lv_iload_n hx hb dX8_price_28 rfl (lv_at hl 3 rfl) ?_
    refine lv_iload_n hx hb dX8_price_29 rfl (lv_at hl 1 rfl) ?_
    obtain ⟨t_2, h_3, hf⟩ := sn_bd hf
    refine sn_callVi (rest := [.int x2]) C hw (ctX8_priceFor l  h_3) kl_RX8_244 layC_0 rfl rfl rfl rfl (Nat.le_of_ble_eq_true rfl) dX8_price_30 hl.1 (fun H locs hw => ?_)
    refine va_mmax hx hb (C.2.2.1.trans hl.1.symm) C.2.2.2.1 (C.2.2.2.2.1 _ km_RX8_154) (C.2.2.2.2.1 _ kst_maxI) (C.2.2.2.2.1 _ ki_Math) (C.2.2.2.2.1 _ kc_maxI) (Nat.le_of_ble_eq_true rfl) (Nat.le_of_ble_eq_true rfl) (Nat.zero_le _) (Nat.zero_le _) dX8_price_33 ?_
    obtain ⟨y_4, e_5, hf⟩ := sn_ltE hf
    refine lv_topi (fun y_4_ e_5_ => ?_)
    obtain rfl : y_4 = y_4_ := e_5.trans e_5_.symm
    refine lv_istore_n (lv' := [(2, .int y_4), (0, .ref (ad 0)), (1, .int x1), (3, .int x3)]) hx hb dX8_price_36 rfl hl (by decide) rfl (fun ls hl => ?_)
    obtain ⟨y_6, e_7, hf⟩ := sn_ltE hf
    refine lv_iinc (v := y_6) (lv' := [(3, .int y_6), (2, .int y_4), (0, .ref (ad 0)), (1, .int x1)]) hx hb dX8_price_37 hl (k := 3) rfl (by rw [e_7]; rfl) (by decide) rfl (fun ls hl => ?_)
    refine lv_goto (tgt := 15) hx hb dX8_price_40 (by decide) ?_
    cases hf
    exact kc _ rfl _ _ _ hw (lv_sub hl [2, 3, 1, 0] rfl)
theorem wX8_price_L15 (C : sn_C p s m args meth c RX8 cX8_price 4 (some .int) D ct ad layC A) {σ : sn_S} {x1 : Int32}   {z : Int32 × Int32} {t : Int32} (h : sn_it (LX8_price_15 σ x1) 5000 z = some t) (kx : ∀ v, t = v → sn_At p l e rmX8_price s m args below meth c Q D ct ad layC A 4 σ 43 [(2, .int v)] []) : sn_At p l e rmX8_price s m args below meth c Q D ct ad layC A 4 σ 15 [(0, .ref (ad 0)), (1, .int x1), (2, .int z.1), (3, .int z.2)] [] :=
  sn_loop (f := LX8_price_15 σ x1) (G := fun z => sn_At p l e rmX8_price s m args below meth c Q D ct ad layC A 4 σ 15 [(0, .ref (ad 0)), (1, .int x1), (2, .int z.1), (3, .int z.2)] []) (E := fun t => (∀ v, t = v → sn_At p l e rmX8_price s m args below meth c Q D ct ad layC A 4 σ 43 [(2, .int v)] []) ∧ True) (fun z o hf k1 k2 => wX8_price_15 C  hf (fun v e => k1 v e) (fun v e => (k2 _ e).1 v rfl)) 5000 z t h ⟨kx, trivial⟩
theorem wX8_price_in (C : sn_C p s m args meth c RX8 cX8_price 4 (some .int) D ct ad layC A) {σ : sn_S} {x1 : Int32}  {o : Int32} (hf : fX8_price σ x1 = some o) (kr : sn_Kr p l e rmX8_price s m args below meth c Q D ct ad layC A cX8_price .ireturn (true) σ [.int o]) : sn_At p l e rmX8_price s m args below meth c Q D ct ad layC A 4 σ 0 [(0, .ref (ad 0)), (1, .int x1)] [] := by
  intro H locs ls hw hl
  have hx := C.1
  have hb := C.2.1
  unfold fX8_price at hf
  refine lv_aload_n hx hb dX8_price_0 rfl (lv_at hl 0 rfl) ?_
  refine lv_iload_n hx hb dX8_price_1 rfl (lv_at hl 1 rfl) ?_
  obtain ⟨t_1, h_2, hf⟩ := sn_bd hf
  refine sn_callVi (rest := []) C hw (ctX8_isPolicy l  h_2) kl_RX8_114 layC_0 rfl rfl rfl rfl (Nat.le_of_ble_eq_true rfl) dX8_price_2 hl.1 (fun H locs hw => ?_)
  refine lv_if_ne (tgt := 11) hx hb dX8_price_5 (by decide) (fun c_3 => ?_) (fun c_3 => ?_)
  · have hf := sn_el c_3 hf
    refine lv_iconst (v := 0) hx hb dX8_price_11 rfl ?_
    refine lv_istore_n (lv' := [(2, .int (0 : Int32)), (0, .ref (ad 0)), (1, .int x1)]) hx hb dX8_price_12 rfl hl (by decide) rfl (fun ls hl => ?_)
    refine lv_iconst (v := 0) hx hb dX8_price_13 rfl ?_
    refine lv_istore_n (lv' := [(3, .int (0 : Int32)), (2, .int (0 : Int32)), (0, .ref (ad 0)), (1, .int x1)]) hx hb dX8_price_14 rfl hl (by decide) rfl (fun ls hl => ?_)
    obtain ⟨t_4, h_5, hf⟩ := sn_bd hf
    exact wX8_price_L15 C  h_5 (fun v e => by cases e; exact wX8_price_43 C  hf kr) _ _ _ hw (lv_sub hl [2, 3, 1, 0] rfl)
  · have hf := sn_if c_3 hf
    refine lv_bipush (v := (-2)) hx hb dX8_price_8 (by decide) ?_
    cases hf
    exact kr _ _ _ _ hw rfl dX8_price_10
theorem ctX8_price (l : Launch) {σ : sn_S} {x1 : Int32}  {o : Int32} (hf : fX8_price σ x1 = some o) : sn_M l yX8_price cX8_price 4 (some .int) rmX8_price layC (fun ad => [.ref (ad 0), .int x1]) σ (some (fun _ => .int o)) σ :=
  sn_met (by decide) (fun _ => Nat.le_of_ble_eq_true rfl) (fun p e s m args below meth c ls D ct ad A C hw hl => wX8_price_in C  hf (fun H locs ls pc hw ok hd => sn_iret C hw hd) _ _ _ hw hl)
-- X8_hold
abbrev rmX8_hold : Room := { frames := 4, cells := 0, slots := 0, locals := 100 }
def fX8_hold (σ : sn_S) (x1 : Int32) : Option (Int32 × sn_S) :=
  ((fX8_isPolicy σ x1).bind fun t_1 => (if t_1 = 0 then
  (some ((-2 : Int32), σ))
  else
  ((fX1_reckon σ 1 27 x1).bind fun t_4 => ((fX1_fewest t_4).bind fun t_6 => (some (t_6, t_4))))))
theorem wX8_hold_in (C : sn_C p s m args meth c RX8 cX8_hold 2 (some .int) D ct ad layC A) {σ : sn_S} {x1 : Int32}  {o : (Int32 × sn_S)} (hf : fX8_hold σ x1 = some o) (kr : sn_Kr p l e rmX8_hold s m args below meth c Q D ct ad layC A cX8_hold .ireturn (true) o.2 [.int o.1]) : sn_At p l e rmX8_hold s m args below meth c Q D ct ad layC A 2 σ 0 [(0, .ref (ad 0)), (1, .int x1)] [] := by
  intro H locs ls hw hl
  have hx := C.1
  have hb := C.2.1
  unfold fX8_hold at hf
  refine lv_aload_n hx hb dX8_hold_0 rfl (lv_at hl 0 rfl) ?_
  refine lv_iload_n hx hb dX8_hold_1 rfl (lv_at hl 1 rfl) ?_
  obtain ⟨t_1, h_2, hf⟩ := sn_bd hf
  refine sn_callVi (rest := []) C hw (ctX8_isPolicy l  h_2) kl_RX8_114 layC_0 rfl rfl rfl rfl (Nat.le_of_ble_eq_true rfl) dX8_hold_2 hl.1 (fun H locs hw => ?_)
  refine lv_if_ne (tgt := 11) hx hb dX8_hold_5 (by decide) (fun c_3 => ?_) (fun c_3 => ?_)
  · have hf := sn_el c_3 hf
    refine lv_aload_n hx hb dX8_hold_11 rfl (lv_at hl 0 rfl) ?_
    refine sn_getC (r := 52) C hw fd_RX8_61 layC_0 rfl dX8_hold_12 ?_
    refine lv_aload_n hx hb dX8_hold_15 rfl (lv_at hl 0 rfl) ?_
    refine sn_getC (r := 1) C hw fd_RX8_10 layC_0 rfl dX8_hold_16 ?_
    refine lv_aload_n hx hb dX8_hold_19 rfl (lv_at hl 0 rfl) ?_
    refine sn_getC (r := 27) C hw fd_RX8_44 layC_0 rfl dX8_hold_20 ?_
    refine lv_iload_n hx hb dX8_hold_23 rfl (lv_at hl 1 rfl) ?_
    obtain ⟨t_4, h_5, hf⟩ := sn_bd hf
    refine sn_callVv (rest := []) C hw (ctX1_reckon l sn_isX2_1 sn_isX0_27 h_5) kl_RX8_254 layC_52 rfl rfl rfl rfl (Nat.le_of_ble_eq_true rfl) dX8_hold_24 hl.1 (fun H locs hw => ?_)
    refine lv_aload_n hx hb dX8_hold_27 rfl (lv_at hl 0 rfl) ?_
    refine sn_getC (r := 52) C hw fd_RX8_61 layC_0 rfl dX8_hold_28 ?_
    obtain ⟨t_6, h_7, hf⟩ := sn_bd hf
    refine sn_callVi (rest := []) C hw (ctX1_fewest l  h_7) kl_RX8_255 layC_52 rfl rfl rfl rfl (Nat.le_of_ble_eq_true rfl) dX8_hold_31 hl.1 (fun H locs hw => ?_)
    cases hf
    exact kr _ _ _ _ hw rfl dX8_hold_34
  · have hf := sn_if c_3 hf
    refine lv_bipush (v := (-2)) hx hb dX8_hold_8 (by decide) ?_
    cases hf
    exact kr _ _ _ _ hw rfl dX8_hold_10
theorem ctX8_hold (l : Launch) {σ : sn_S} {x1 : Int32}  {o : (Int32 × sn_S)} (hf : fX8_hold σ x1 = some o) : sn_M l yX8_hold cX8_hold 2 (some .int) rmX8_hold layC (fun ad => [.ref (ad 0), .int x1]) σ (some (fun _ => .int o.1)) o.2 :=
  sn_met (by decide) (fun _ => Nat.le_of_ble_eq_true rfl) (fun p e s m args below meth c ls D ct ad A C hw hl => wX8_hold_in C  hf (fun H locs ls pc hw ok hd => sn_iret C hw hd) _ _ _ hw hl)
-- X8_holds
abbrev rmX8_holds : Room := { frames := 4, cells := 0, slots := 0, locals := 100 }
def fX8_holds (σ : sn_S) (x1 : Int32) : Option (Int32 × sn_S) :=
  ((fX8_isPolicy σ x1).bind fun t_1 => (if t_1 = 0 then
  (some ((-2 : Int32), σ))
  else
  ((fX1_reckon σ 1 27 x1).bind fun t_4 => ((fX1_minutesHeld t_4).bind fun t_6 => (some (t_6, t_4))))))
theorem wX8_holds_in (C : sn_C p s m args meth c RX8 cX8_holds 2 (some .int) D ct ad layC A) {σ : sn_S} {x1 : Int32}  {o : (Int32 × sn_S)} (hf : fX8_holds σ x1 = some o) (kr : sn_Kr p l e rmX8_holds s m args below meth c Q D ct ad layC A cX8_holds .ireturn (true) o.2 [.int o.1]) : sn_At p l e rmX8_holds s m args below meth c Q D ct ad layC A 2 σ 0 [(0, .ref (ad 0)), (1, .int x1)] [] := by
  intro H locs ls hw hl
  have hx := C.1
  have hb := C.2.1
  unfold fX8_holds at hf
  refine lv_aload_n hx hb dX8_holds_0 rfl (lv_at hl 0 rfl) ?_
  refine lv_iload_n hx hb dX8_holds_1 rfl (lv_at hl 1 rfl) ?_
  obtain ⟨t_1, h_2, hf⟩ := sn_bd hf
  refine sn_callVi (rest := []) C hw (ctX8_isPolicy l  h_2) kl_RX8_114 layC_0 rfl rfl rfl rfl (Nat.le_of_ble_eq_true rfl) dX8_holds_2 hl.1 (fun H locs hw => ?_)
  refine lv_if_ne (tgt := 11) hx hb dX8_holds_5 (by decide) (fun c_3 => ?_) (fun c_3 => ?_)
  · have hf := sn_el c_3 hf
    refine lv_aload_n hx hb dX8_holds_11 rfl (lv_at hl 0 rfl) ?_
    refine sn_getC (r := 52) C hw fd_RX8_61 layC_0 rfl dX8_holds_12 ?_
    refine lv_aload_n hx hb dX8_holds_15 rfl (lv_at hl 0 rfl) ?_
    refine sn_getC (r := 1) C hw fd_RX8_10 layC_0 rfl dX8_holds_16 ?_
    refine lv_aload_n hx hb dX8_holds_19 rfl (lv_at hl 0 rfl) ?_
    refine sn_getC (r := 27) C hw fd_RX8_44 layC_0 rfl dX8_holds_20 ?_
    refine lv_iload_n hx hb dX8_holds_23 rfl (lv_at hl 1 rfl) ?_
    obtain ⟨t_4, h_5, hf⟩ := sn_bd hf
    refine sn_callVv (rest := []) C hw (ctX1_reckon l sn_isX2_1 sn_isX0_27 h_5) kl_RX8_254 layC_52 rfl rfl rfl rfl (Nat.le_of_ble_eq_true rfl) dX8_holds_24 hl.1 (fun H locs hw => ?_)
    refine lv_aload_n hx hb dX8_holds_27 rfl (lv_at hl 0 rfl) ?_
    refine sn_getC (r := 52) C hw fd_RX8_61 layC_0 rfl dX8_holds_28 ?_
    obtain ⟨t_6, h_7, hf⟩ := sn_bd hf
    refine sn_callVi (rest := []) C hw (ctX1_minutesHeld l  h_7) kl_RX8_258 layC_52 rfl rfl rfl rfl (Nat.le_of_ble_eq_true rfl) dX8_holds_31 hl.1 (fun H locs hw => ?_)
    cases hf
    exact kr _ _ _ _ hw rfl dX8_holds_34
  · have hf := sn_if c_3 hf
    refine lv_bipush (v := (-2)) hx hb dX8_holds_8 (by decide) ?_
    cases hf
    exact kr _ _ _ _ hw rfl dX8_holds_10
theorem ctX8_holds (l : Launch) {σ : sn_S} {x1 : Int32}  {o : (Int32 × sn_S)} (hf : fX8_holds σ x1 = some o) : sn_M l yX8_holds cX8_holds 2 (some .int) rmX8_holds layC (fun ad => [.ref (ad 0), .int x1]) σ (some (fun _ => .int o.1)) o.2 :=
  sn_met (by decide) (fun _ => Nat.le_of_ble_eq_true rfl) (fun p e s m args below meth c ls D ct ad A C hw hl => wX8_holds_in C  hf (fun H locs ls pc hw ok hd => sn_iret C hw hd) _ _ _ hw hl)
-- X8_minutesOfFraud
abbrev rmX8_minutesOfFraud : Room := { frames := 4, cells := 0, slots := 0, locals := 95 }
def BX8_minutesOfFraud_170 (σ : sn_S) (x4 : Int32) : Option ((Int32 × sn_S)) :=
  (some (x4, σ))
def BX8_minutesOfFraud_133 (σ : sn_S) (x1 : Int32) (x2 : Int32) (x3 : Int32) (x4 : Int32) (x5 : Int32) : Option ((sn_S × Int32 × Int32) ⊕ (sn_S × Int32)) :=
  (sn_gd (sn_in x2 6) (sn_gd (sn_in x2 6) (sn_lt (sn_pI σ (38 + 5) x2.toNatClampNeg (sn_I σ (27 + 5) x2.toNatClampNeg)) fun σ_3 => ((fX0_live σ_3 38 x5 (x5 + (1 : Int32))).bind fun t_5 => (sn_lt (x5 + 1) fun y_7 => (some (.inl (t_5, x4, y_7))))))))
def BX8_minutesOfFraud_34 (σ : sn_S) (x1 : Int32) (x2 : Int32) (x3 : Int32) (x4 : Int32) (x5 : Int32) : Option ((sn_S × Int32 × Int32) ⊕ (sn_S × Int32)) :=
  (if (sn_I σ 27 0) ≤ x5 then
  (some (.inr (σ, x4)))
  else
  (sn_gd (sn_in x2 6) (sn_gd (sn_in x2 6) (sn_lt (sn_pI σ (38 + 5) x2.toNatClampNeg ((sn_I σ (27 + 5) x2.toNatClampNeg) ||| ((1 : Int32) <<< (x5 &&& 31)))) fun σ_4 => ((fX0_live σ_4 38 x5 (sn_I σ_4 27 0)).bind fun t_6 => (sn_gd (sn_in (2 : Int32) 11) (sn_gd (sn_in x2 6) (sn_gd (sn_in x2 6) ((fX3_claimBy t_6 1 (sn_I t_6 (1 + 1) (2 : Int32).toNatClampNeg) x1 (sn_I t_6 (38 + 10) x2.toNatClampNeg) (sn_I t_6 (38 + 4) x2.toNatClampNeg)).bind fun t_11 => (if t_11 ≤ x3 then
  (BX8_minutesOfFraud_133 t_6 x1 x2 x3 x4 x5)
  else
  (sn_lt (x4 ||| ((1 : Int32) <<< (x5 &&& 31))) fun y_14 => (BX8_minutesOfFraud_133 t_6 x1 x2 x3 y_14 x5))))))))))))
def LX8_minutesOfFraud_34 (x1 : Int32) (x2 : Int32) (x3 : Int32) (s : sn_S × Int32 × Int32) : Option ((sn_S × Int32 × Int32) ⊕ (sn_S × Int32)) := BX8_minutesOfFraud_34 s.1 x1 x2 x3 s.2.1 s.2.2
def fX8_minutesOfFraud (σ : sn_S) (x1 : Int32) : Option (Int32 × sn_S) :=
  ((fX2_ofPolicy σ 1 x1 (0 : Int32)).bind fun t_1 => ((fX8_claimAsIfOf σ t_1 x1).bind fun t_3 => ((fX0_copyFrom σ 38 27).bind fun t_5 => ((sn_it (LX8_minutesOfFraud_34 x1 t_1 t_3) 5000 (t_5, (0 : Int32), (0 : Int32))).bind fun t_7 => (BX8_minutesOfFraud_170 t_7.1 t_7.2)))))
theorem wX8_minutesOfFraud_170 (C : sn_C p s m args meth c RX8 cX8_minutesOfFraud 6 (some .int) D ct ad layC A) {σ : sn_S} {x4 : Int32}  {o : (Int32 × sn_S)} (hf : BX8_minutesOfFraud_170 σ x4 = some o) (kr : sn_Kr p l e rmX8_minutesOfFraud s m args below meth c Q D ct ad layC A cX8_minutesOfFraud .ireturn (true) o.2 [.int o.1]) : sn_At p l e rmX8_minutesOfFraud s m args below meth c Q D ct ad layC A 6 σ 170 [(4, .int x4)] [] := by
  intro H locs ls hw hl
  have hx := C.1
  have hb := C.2.1
  unfold BX8_minutesOfFraud_170 at hf
  refine lv_iload hx hb dX8_minutesOfFraud_170 (lv_at hl 0 rfl) ?_
  cases hf
  exact kr _ _ _ _ hw rfl dX8_minutesOfFraud_172
theorem wX8_minutesOfFraud_133 (C : sn_C p s m args meth c RX8 cX8_minutesOfFraud 6 (some .int) D ct ad layC A) {σ : sn_S} {x1 : Int32} {x2 : Int32} {x3 : Int32} {x4 : Int32} {x5 : Int32}  {o : (sn_S × Int32 × Int32) ⊕ (sn_S × Int32)} (hf : BX8_minutesOfFraud_133 σ x1 x2 x3 x4 x5 = some o) (kc : ∀ v, o = .inl v → sn_At p l e rmX8_minutesOfFraud s m args below meth c Q D ct ad layC A 6 v.1 34 [(0, .ref (ad 0)), (1, .int x1), (2, .int x2), (3, .int x3), (4, .int v.2.1), (5, .int v.2.2)] []) (kx : ∀ v, o = .inr v → sn_At p l e rmX8_minutesOfFraud s m args below meth c Q D ct ad layC A 6 v.1 170 [(4, .int v.2)] []) : sn_At p l e rmX8_minutesOfFraud s m args below meth c Q D ct ad layC A 6 σ 133 [(0, .ref (ad 0)), (1, .int x1), (2, .int x2), (3, .int x3), (4, .int x4), (5, .int x5)] [] := by
  intro H locs ls hw hl
  have hx := C.1
  have hb := C.2.1
  unfold BX8_minutesOfFraud_133 at hf
  refine lv_aload_n hx hb dX8_minutesOfFraud_133 rfl (lv_at hl 0 rfl) ?_
  refine sn_getC (r := 38) C hw fd_RX8_48 layC_0 rfl dX8_minutesOfFraud_134 ?_
  refine sn_getC (r := (38 + 5)) C hw fd_RX8_264 (sn_look sn_isX0_38 (k := 0) rfl) rfl dX8_minutesOfFraud_137 ?_
  refine lv_iload_n hx hb dX8_minutesOfFraud_140 rfl (lv_at hl 2 rfl) ?_
  refine lv_aload_n hx hb dX8_minutesOfFraud_141 rfl (lv_at hl 0 rfl) ?_
  refine sn_getC (r := 27) C hw fd_RX8_44 layC_0 rfl dX8_minutesOfFraud_142 ?_
  refine sn_getC (r := (27 + 5)) C hw fd_RX8_264 (sn_look sn_isX0_27 (k := 0) rfl) rfl dX8_minutesOfFraud_145 ?_
  refine lv_iload_n hx hb dX8_minutesOfFraud_148 rfl (lv_at hl 2 rfl) ?_
  obtain ⟨g_1, hf⟩ := sn_gdE hf
  refine sn_iald C hw (sn_look sn_isX0_27 (k := 5) rfl) g_1 dX8_minutesOfFraud_149 ?_
  obtain ⟨g_2, hf⟩ := sn_gdE hf
  refine sn_iast C hw (sn_look sn_isX0_38 (k := 5) rfl) g_2 dX8_minutesOfFraud_150 (fun H locs hw => ?_)
  obtain ⟨σ_3, e_4, hf⟩ := sn_ltE hf
  rw [← e_4] at hw
  refine lv_aload_n hx hb dX8_minutesOfFraud_151 rfl (lv_at hl 0 rfl) ?_
  refine sn_getC (r := 38) C hw fd_RX8_48 layC_0 rfl dX8_minutesOfFraud_152 ?_
  refine lv_iload hx hb dX8_minutesOfFraud_155 (lv_at hl 5 rfl) ?_
  refine lv_iload hx hb dX8_minutesOfFraud_157 (lv_at hl 5 rfl) ?_
  refine lv_iconst (v := 1) hx hb dX8_minutesOfFraud_159 rfl ?_
  refine lv_iadd hx hb dX8_minutesOfFraud_160 ?_
  obtain ⟨t_5, h_6, hf⟩ := sn_bd hf
  refine sn_callVv (rest := []) C hw (ctX0_live l sn_isX0_38 h_6) kl_RX8_267 (sn_look sn_isX0_38 (k := 0) rfl) rfl rfl rfl rfl (Nat.le_of_ble_eq_true rfl) dX8_minutesOfFraud_161 hl.1 (fun H locs hw => ?_)
  obtain ⟨y_7, e_8, hf⟩ := sn_ltE hf
  refine lv_iinc (v := y_7) (lv' := [(5, .int y_7), (0, .ref (ad 0)), (1, .int x1), (2, .int x2), (3, .int x3), (4, .int x4)]) hx hb dX8_minutesOfFraud_164 hl (k := 5) rfl (by rw [e_8]; rfl) (by decide) rfl (fun ls hl => ?_)
  refine lv_goto (tgt := 34) hx hb dX8_minutesOfFraud_167 (by decide) ?_
  cases hf
  exact kc _ rfl _ _ _ hw (lv_sub hl [1, 2, 3, 4, 5, 0] rfl)
theorem wX8_minutesOfFraud_34 (C : sn_C p s m args meth c RX8 cX8_minutesOfFraud 6 (some .int) D ct ad layC A) {σ : sn_S} {x1 : Int32} {x2 : Int32} {x3 : Int32} {x4 : Int32} {x5 : Int32}  {o : (sn_S × Int32 × Int32) ⊕ (sn_S × Int32)} (hf : BX8_minutesOfFraud_34 σ x1 x2 x3 x4 x5 = some o) (kc : ∀ v, o = .inl v → sn_At p l e rmX8_minutesOfFraud s m args below meth c Q D ct ad layC A 6 v.1 34 [(0, .ref (ad 0)), (1, .int x1), (2, .int x2), (3, .int x3), (4, .int v.2.1), (5, .int v.2.2)] []) (kx : ∀ v, o = .inr v → sn_At p l e rmX8_minutesOfFraud s m args below meth c Q D ct ad layC A 6 v.1 170 [(4, .int v.2)] []) : sn_At p l e rmX8_minutesOfFraud s m args below meth c Q D ct ad layC A 6 σ 34 [(0, .ref (ad 0)), (1, .int x1), (2, .int x2), (3, .int x3), (4, .int x4), (5, .int x5)] [] := by
  intro H locs ls hw hl
  have hx := C.1
  have hb := C.2.1
  unfold BX8_minutesOfFraud_34 at hf
  refine lv_iload hx hb dX8_minutesOfFraud_34 (lv_at hl 5 rfl) ?_
  refine lv_aload_n hx hb dX8_minutesOfFraud_36 rfl (lv_at hl 0 rfl) ?_
  refine sn_getC (r := 27) C hw fd_RX8_44 layC_0 rfl dX8_minutesOfFraud_37 ?_
  refine sn_getI C hw fd_RX8_151 (sn_look sn_isX0_27 (k := 0) rfl) rfl dX8_minutesOfFraud_40 ?_
  refine lv_icmp_ge (tgt := 170) hx hb dX8_minutesOfFraud_43 (by decide) (fun c_1 => ?_) (fun c_1 => ?_)
  · have hf := sn_if c_1 hf
    cases hf
    exact kx _ rfl _ _ _ hw (lv_sub hl [4] rfl)
  · have hf := sn_el c_1 hf
    refine lv_aload_n hx hb dX8_minutesOfFraud_46 rfl (lv_at hl 0 rfl) ?_
    refine sn_getC (r := 38) C hw fd_RX8_48 layC_0 rfl dX8_minutesOfFraud_47 ?_
    refine sn_getC (r := (38 + 5)) C hw fd_RX8_264 (sn_look sn_isX0_38 (k := 0) rfl) rfl dX8_minutesOfFraud_50 ?_
    refine lv_iload_n hx hb dX8_minutesOfFraud_53 rfl (lv_at hl 2 rfl) ?_
    refine lv_aload_n hx hb dX8_minutesOfFraud_54 rfl (lv_at hl 0 rfl) ?_
    refine sn_getC (r := 27) C hw fd_RX8_44 layC_0 rfl dX8_minutesOfFraud_55 ?_
    refine sn_getC (r := (27 + 5)) C hw fd_RX8_264 (sn_look sn_isX0_27 (k := 0) rfl) rfl dX8_minutesOfFraud_58 ?_
    refine lv_iload_n hx hb dX8_minutesOfFraud_61 rfl (lv_at hl 2 rfl) ?_
    obtain ⟨g_2, hf⟩ := sn_gdE hf
    refine sn_iald C hw (sn_look sn_isX0_27 (k := 5) rfl) g_2 dX8_minutesOfFraud_62 ?_
    refine lv_iconst (v := 1) hx hb dX8_minutesOfFraud_63 rfl ?_
    refine lv_iload hx hb dX8_minutesOfFraud_64 (lv_at hl 5 rfl) ?_
    refine lv_ishl hx hb dX8_minutesOfFraud_66 ?_
    refine lv_ior hx hb dX8_minutesOfFraud_67 ?_
    obtain ⟨g_3, hf⟩ := sn_gdE hf
    refine sn_iast C hw (sn_look sn_isX0_38 (k := 5) rfl) g_3 dX8_minutesOfFraud_68 (fun H locs hw => ?_)
    obtain ⟨σ_4, e_5, hf⟩ := sn_ltE hf
    rw [← e_5] at hw
    refine lv_aload_n hx hb dX8_minutesOfFraud_69 rfl (lv_at hl 0 rfl) ?_
    refine sn_getC (r := 38) C hw fd_RX8_48 layC_0 rfl dX8_minutesOfFraud_70 ?_
    refine lv_iload hx hb dX8_minutesOfFraud_73 (lv_at hl 5 rfl) ?_
    refine lv_aload_n hx hb dX8_minutesOfFraud_75 rfl (lv_at hl 0 rfl) ?_
    refine sn_getC (r := 27) C hw fd_RX8_44 layC_0 rfl dX8_minutesOfFraud_76 ?_
    refine sn_getI C hw fd_RX8_151 (sn_look sn_isX0_27 (k := 0) rfl) rfl dX8_minutesOfFraud_79 ?_
    obtain ⟨t_6, h_7, hf⟩ := sn_bd hf
    refine sn_callVv (rest := []) C hw (ctX0_live l sn_isX0_38 h_7) kl_RX8_267 (sn_look sn_isX0_38 (k := 0) rfl) rfl rfl rfl rfl (Nat.le_of_ble_eq_true rfl) dX8_minutesOfFraud_82 hl.1 (fun H locs hw => ?_)
    refine lv_aload_n hx hb dX8_minutesOfFraud_85 rfl (lv_at hl 0 rfl) ?_
    refine sn_getC (r := 1) C hw fd_RX8_10 layC_0 rfl dX8_minutesOfFraud_86 ?_
    refine lv_aload_n hx hb dX8_minutesOfFraud_89 rfl (lv_at hl 0 rfl) ?_
    refine sn_getC (r := 1) C hw fd_RX8_10 layC_0 rfl dX8_minutesOfFraud_90 ?_
    refine sn_getC (r := (1 + 1)) C hw fd_RX8_100 (sn_look sn_isX2_1 (k := 0) rfl) rfl dX8_minutesOfFraud_93 ?_
    refine lv_iconst (v := 2) hx hb dX8_minutesOfFraud_96 rfl ?_
    obtain ⟨g_8, hf⟩ := sn_gdE hf
    refine sn_iald C hw (sn_look sn_isX2_1 (k := 1) rfl) g_8 dX8_minutesOfFraud_97 ?_
    refine lv_iload_n hx hb dX8_minutesOfFraud_98 rfl (lv_at hl 1 rfl) ?_
    refine lv_aload_n hx hb dX8_minutesOfFraud_99 rfl (lv_at hl 0 rfl) ?_
    refine sn_getC (r := 38) C hw fd_RX8_48 layC_0 rfl dX8_minutesOfFraud_100 ?_
    refine sn_getC (r := (38 + 10)) C hw fd_RX8_131 (sn_look sn_isX0_38 (k := 0) rfl) rfl dX8_minutesOfFraud_103 ?_
    refine lv_iload_n hx hb dX8_minutesOfFraud_106 rfl (lv_at hl 2 rfl) ?_
    obtain ⟨g_9, hf⟩ := sn_gdE hf
    refine sn_iald C hw (sn_look sn_isX0_38 (k := 10) rfl) g_9 dX8_minutesOfFraud_107 ?_
    refine lv_aload_n hx hb dX8_minutesOfFraud_108 rfl (lv_at hl 0 rfl) ?_
    refine sn_getC (r := 38) C hw fd_RX8_48 layC_0 rfl dX8_minutesOfFraud_109 ?_
    refine sn_getC (r := (38 + 4)) C hw fd_RX8_196 (sn_look sn_isX0_38 (k := 0) rfl) rfl dX8_minutesOfFraud_112 ?_
    refine lv_iload_n hx hb dX8_minutesOfFraud_115 rfl (lv_at hl 2 rfl) ?_
    obtain ⟨g_10, hf⟩ := sn_gdE hf
    refine sn_iald C hw (sn_look sn_isX0_38 (k := 4) rfl) g_10 dX8_minutesOfFraud_116 ?_
    obtain ⟨t_11, h_12, hf⟩ := sn_bd hf
    refine sn_callSi (rest := []) C hw (ctX3_claimBy l sn_isX2_1 h_12) kl_RX8_250 rfl rfl rfl (Nat.le_of_ble_eq_true rfl) dX8_minutesOfFraud_117 hl.1 (fun H locs hw => ?_)
    refine lv_iload_n hx hb dX8_minutesOfFraud_120 rfl (lv_at hl 3 rfl) ?_
    refine lv_icmp_le (tgt := 133) hx hb dX8_minutesOfFraud_121 (by decide) (fun c_13 => ?_) (fun c_13 => ?_)
    · have hf := sn_if c_13 hf
      exact wX8_minutesOfFraud_133 C  hf kc kx _ _ _ hw (lv_sub hl [0, 1, 2, 3, 4, 5] rfl)
    · have hf := sn_el c_13 hf
      refine lv_iload hx hb dX8_minutesOfFraud_124 (lv_at hl 4 rfl) ?_
      refine lv_iconst (v := 1) hx hb dX8_minutesOfFraud_126 rfl ?_
      refine lv_iload hx hb dX8_minutesOfFraud_127 (lv_at hl 5 rfl) ?_
      refine lv_ishl hx hb dX8_minutesOfFraud_129 ?_
      refine lv_ior hx hb dX8_minutesOfFraud_130 ?_
      obtain ⟨y_14, e_15, hf⟩ := sn_ltE hf
      refine lv_topi (fun y_14_ e_15_ => ?_)
      obtain rfl : y_14 = y_14_ := e_15.trans e_15_.symm
      refine lv_istore (lv' := [(4, .int y_14), (0, .ref (ad 0)), (1, .int x1), (2, .int x2), (3, .int x3), (5, .int x5)]) hx hb dX8_minutesOfFraud_131 hl (by decide) rfl (fun ls hl => ?_)
      exact wX8_minutesOfFraud_133 C  hf kc kx _ _ _ hw (lv_sub hl [1, 2, 3, 4, 0, 5] rfl)
theorem wX8_minutesOfFraud_L34 (C : sn_C p s m args meth c RX8 cX8_minutesOfFraud 6 (some .int) D ct ad layC A) {x1 : Int32} {x2 : Int32} {x3 : Int32}   {z : sn_S × Int32 × Int32} {t : sn_S × Int32} (h : sn_it (LX8_minutesOfFraud_34 x1 x2 x3) 5000 z = some t) (kx : ∀ v, t = v → sn_At p l e rmX8_minutesOfFraud s m args below meth c Q D ct ad layC A 6 v.1 170 [(4, .int v.2)] []) : sn_At p l e rmX8_minutesOfFraud s m args below meth c Q D ct ad layC A 6 z.1 34 [(0, .ref (ad 0)), (1, .int x1), (2, .int x2), (3, .int x3), (4, .int z.2.1), (5, .int z.2.2)] [] :=
  sn_loop (f := LX8_minutesOfFraud_34 x1 x2 x3) (G := fun z => sn_At p l e rmX8_minutesOfFraud s m args below meth c Q D ct ad layC A 6 z.1 34 [(0, .ref (ad 0)), (1, .int x1), (2, .int x2), (3, .int x3), (4, .int z.2.1), (5, .int z.2.2)] []) (E := fun t => (∀ v, t = v → sn_At p l e rmX8_minutesOfFraud s m args below meth c Q D ct ad layC A 6 v.1 170 [(4, .int v.2)] []) ∧ True) (fun z o hf k1 k2 => wX8_minutesOfFraud_34 C  hf (fun v e => k1 v e) (fun v e => (k2 _ e).1 v rfl)) 5000 z t h ⟨kx, trivial⟩
theorem wX8_minutesOfFraud_in (C : sn_C p s m args meth c RX8 cX8_minutesOfFraud 6 (some .int) D ct ad layC A) {σ : sn_S} {x1 : Int32}  {o : (Int32 × sn_S)} (hf : fX8_minutesOfFraud σ x1 = some o) (kr : sn_Kr p l e rmX8_minutesOfFraud s m args below meth c Q D ct ad layC A cX8_minutesOfFraud .ireturn (true) o.2 [.int o.1]) : sn_At p l e rmX8_minutesOfFraud s m args below meth c Q D ct ad layC A 6 σ 0 [(0, .ref (ad 0)), (1, .int x1)] [] := by
  intro H locs ls hw hl
  have hx := C.1
  have hb := C.2.1
  unfold fX8_minutesOfFraud at hf
  refine lv_aload_n hx hb dX8_minutesOfFraud_0 rfl (lv_at hl 0 rfl) ?_
  refine sn_getC (r := 1) C hw fd_RX8_10 layC_0 rfl dX8_minutesOfFraud_1 ?_
  refine lv_iload_n hx hb dX8_minutesOfFraud_4 rfl (lv_at hl 1 rfl) ?_
  refine lv_iconst (v := 0) hx hb dX8_minutesOfFraud_5 rfl ?_
  obtain ⟨t_1, h_2, hf⟩ := sn_bd hf
  refine sn_callVi (rest := []) C hw (ctX2_ofPolicy l sn_isX2_1 h_2) kl_RX8_117 (sn_look sn_isX2_1 (k := 0) rfl) rfl rfl rfl rfl (Nat.le_of_ble_eq_true rfl) dX8_minutesOfFraud_6 hl.1 (fun H locs hw => ?_)
  refine lv_istore_n (lv' := [(2, .int t_1), (0, .ref (ad 0)), (1, .int x1)]) hx hb dX8_minutesOfFraud_9 rfl hl (by decide) rfl (fun ls hl => ?_)
  refine lv_aload_n hx hb dX8_minutesOfFraud_10 rfl (lv_at hl 1 rfl) ?_
  refine lv_iload_n hx hb dX8_minutesOfFraud_11 rfl (lv_at hl 0 rfl) ?_
  refine lv_iload_n hx hb dX8_minutesOfFraud_12 rfl (lv_at hl 2 rfl) ?_
  obtain ⟨t_3, h_4, hf⟩ := sn_bd hf
  refine sn_callVi (rest := []) C hw (ctX8_claimAsIfOf l  h_4) kl_RX8_247 layC_0 rfl rfl rfl rfl (Nat.le_of_ble_eq_true rfl) dX8_minutesOfFraud_13 hl.1 (fun H locs hw => ?_)
  refine lv_istore_n (lv' := [(3, .int t_3), (2, .int t_1), (0, .ref (ad 0)), (1, .int x1)]) hx hb dX8_minutesOfFraud_16 rfl hl (by decide) rfl (fun ls hl => ?_)
  refine lv_iconst (v := 0) hx hb dX8_minutesOfFraud_17 rfl ?_
  refine lv_istore (lv' := [(4, .int (0 : Int32)), (3, .int t_3), (2, .int t_1), (0, .ref (ad 0)), (1, .int x1)]) hx hb dX8_minutesOfFraud_18 hl (by decide) rfl (fun ls hl => ?_)
  refine lv_aload_n hx hb dX8_minutesOfFraud_20 rfl (lv_at hl 3 rfl) ?_
  refine sn_getC (r := 38) C hw fd_RX8_48 layC_0 rfl dX8_minutesOfFraud_21 ?_
  refine lv_aload_n hx hb dX8_minutesOfFraud_24 rfl (lv_at hl 3 rfl) ?_
  refine sn_getC (r := 27) C hw fd_RX8_44 layC_0 rfl dX8_minutesOfFraud_25 ?_
  obtain ⟨t_5, h_6, hf⟩ := sn_bd hf
  refine sn_callVv (rest := []) C hw (ctX0_copyFrom l sn_isX0_38 sn_isX0_27 h_6) kl_RX8_183 (sn_look sn_isX0_38 (k := 0) rfl) rfl rfl rfl rfl (Nat.le_of_ble_eq_true rfl) dX8_minutesOfFraud_28 hl.1 (fun H locs hw => ?_)
  refine lv_iconst (v := 0) hx hb dX8_minutesOfFraud_31 rfl ?_
  refine lv_istore (lv' := [(5, .int (0 : Int32)), (4, .int (0 : Int32)), (3, .int t_3), (2, .int t_1), (0, .ref (ad 0)), (1, .int x1)]) hx hb dX8_minutesOfFraud_32 hl (by decide) rfl (fun ls hl => ?_)
  obtain ⟨t_7, h_8, hf⟩ := sn_bd hf
  exact wX8_minutesOfFraud_L34 C  h_8 (fun v e => by cases e; exact wX8_minutesOfFraud_170 C  hf kr) _ _ _ hw (lv_sub hl [4, 5, 3, 2, 1, 0] rfl)
theorem ctX8_minutesOfFraud (l : Launch) {σ : sn_S} {x1 : Int32}  {o : (Int32 × sn_S)} (hf : fX8_minutesOfFraud σ x1 = some o) : sn_M l yX8_minutesOfFraud cX8_minutesOfFraud 6 (some .int) rmX8_minutesOfFraud layC (fun ad => [.ref (ad 0), .int x1]) σ (some (fun _ => .int o.1)) o.2 :=
  sn_met (by decide) (fun _ => Nat.le_of_ble_eq_true rfl) (fun p e s m args below meth c ls D ct ad A C hw hl => wX8_minutesOfFraud_in C  hf (fun H locs ls pc hw ok hd => sn_iret C hw hd) _ _ _ hw hl)
-- X8_snuff
abbrev rmX8_snuff : Room := { frames := 5, cells := 0, slots := 0, locals := 120 }
def fX8_snuff (σ : sn_S) (x1 : Int32) : Option (Int32 × sn_S) :=
  ((fX8_isPolicy σ x1).bind fun t_1 => (if t_1 = 0 then
  (some ((-2 : Int32), σ))
  else
  ((fX8_minutesOfFraud σ x1).bind fun t_4 => ((fX8_lowestBit t_4.1).bind fun t_6 => (some (t_6, t_4.2))))))
theorem wX8_snuff_in (C : sn_C p s m args meth c RX8 cX8_snuff 2 (some .int) D ct ad layC A) {σ : sn_S} {x1 : Int32}  {o : (Int32 × sn_S)} (hf : fX8_snuff σ x1 = some o) (kr : sn_Kr p l e rmX8_snuff s m args below meth c Q D ct ad layC A cX8_snuff .ireturn (true) o.2 [.int o.1]) : sn_At p l e rmX8_snuff s m args below meth c Q D ct ad layC A 2 σ 0 [(0, .ref (ad 0)), (1, .int x1)] [] := by
  intro H locs ls hw hl
  have hx := C.1
  have hb := C.2.1
  unfold fX8_snuff at hf
  refine lv_aload_n hx hb dX8_snuff_0 rfl (lv_at hl 0 rfl) ?_
  refine lv_iload_n hx hb dX8_snuff_1 rfl (lv_at hl 1 rfl) ?_
  obtain ⟨t_1, h_2, hf⟩ := sn_bd hf
  refine sn_callVi (rest := []) C hw (ctX8_isPolicy l  h_2) kl_RX8_114 layC_0 rfl rfl rfl rfl (Nat.le_of_ble_eq_true rfl) dX8_snuff_2 hl.1 (fun H locs hw => ?_)
  refine lv_if_eq (tgt := 19) hx hb dX8_snuff_5 (by decide) (fun c_3 => ?_) (fun c_3 => ?_)
  · have hf := sn_if c_3 hf
    refine lv_bipush (v := (-2)) hx hb dX8_snuff_19 (by decide) ?_
    cases hf
    exact kr _ _ _ _ hw rfl dX8_snuff_21
  · have hf := sn_el c_3 hf
    refine lv_aload_n hx hb dX8_snuff_8 rfl (lv_at hl 0 rfl) ?_
    refine lv_iload_n hx hb dX8_snuff_9 rfl (lv_at hl 1 rfl) ?_
    obtain ⟨t_4, h_5, hf⟩ := sn_bd hf
    refine sn_callVi (rest := []) C hw (ctX8_minutesOfFraud l  h_5) kl_RX8_261 layC_0 rfl rfl rfl rfl (Nat.le_of_ble_eq_true rfl) dX8_snuff_10 hl.1 (fun H locs hw => ?_)
    obtain ⟨t_6, h_7, hf⟩ := sn_bd hf
    refine sn_callSi (rest := []) C hw (ctX8_lowestBit l  h_7) kl_RX8_134 rfl rfl rfl (Nat.le_of_ble_eq_true rfl) dX8_snuff_13 hl.1 (fun H locs hw => ?_)
    refine lv_goto (tgt := 21) hx hb dX8_snuff_16 (by decide) ?_
    cases hf
    exact kr _ _ _ _ hw rfl dX8_snuff_21
theorem ctX8_snuff (l : Launch) {σ : sn_S} {x1 : Int32}  {o : (Int32 × sn_S)} (hf : fX8_snuff σ x1 = some o) : sn_M l yX8_snuff cX8_snuff 2 (some .int) rmX8_snuff layC (fun ad => [.ref (ad 0), .int x1]) σ (some (fun _ => .int o.1)) o.2 :=
  sn_met (by decide) (fun _ => Nat.le_of_ble_eq_true rfl) (fun p e s m args below meth c ls D ct ad A C hw hl => wX8_snuff_in C  hf (fun H locs ls pc hw ok hd => sn_iret C hw hd) _ _ _ hw hl)
-- X8_frauds
abbrev rmX8_frauds : Room := { frames := 5, cells := 0, slots := 0, locals := 120 }
def fX8_frauds (σ : sn_S) (x1 : Int32) : Option (Int32 × sn_S) :=
  ((fX8_isPolicy σ x1).bind fun t_1 => (if t_1 = 0 then
  (some ((-2 : Int32), σ))
  else
  ((fX8_minutesOfFraud σ x1).bind fun t_4 => (some (t_4.1, t_4.2)))))
theorem wX8_frauds_in (C : sn_C p s m args meth c RX8 cX8_frauds 2 (some .int) D ct ad layC A) {σ : sn_S} {x1 : Int32}  {o : (Int32 × sn_S)} (hf : fX8_frauds σ x1 = some o) (kr : sn_Kr p l e rmX8_frauds s m args below meth c Q D ct ad layC A cX8_frauds .ireturn (true) o.2 [.int o.1]) : sn_At p l e rmX8_frauds s m args below meth c Q D ct ad layC A 2 σ 0 [(0, .ref (ad 0)), (1, .int x1)] [] := by
  intro H locs ls hw hl
  have hx := C.1
  have hb := C.2.1
  unfold fX8_frauds at hf
  refine lv_aload_n hx hb dX8_frauds_0 rfl (lv_at hl 0 rfl) ?_
  refine lv_iload_n hx hb dX8_frauds_1 rfl (lv_at hl 1 rfl) ?_
  obtain ⟨t_1, h_2, hf⟩ := sn_bd hf
  refine sn_callVi (rest := []) C hw (ctX8_isPolicy l  h_2) kl_RX8_114 layC_0 rfl rfl rfl rfl (Nat.le_of_ble_eq_true rfl) dX8_frauds_2 hl.1 (fun H locs hw => ?_)
  refine lv_if_eq (tgt := 16) hx hb dX8_frauds_5 (by decide) (fun c_3 => ?_) (fun c_3 => ?_)
  · have hf := sn_if c_3 hf
    refine lv_bipush (v := (-2)) hx hb dX8_frauds_16 (by decide) ?_
    cases hf
    exact kr _ _ _ _ hw rfl dX8_frauds_18
  · have hf := sn_el c_3 hf
    refine lv_aload_n hx hb dX8_frauds_8 rfl (lv_at hl 0 rfl) ?_
    refine lv_iload_n hx hb dX8_frauds_9 rfl (lv_at hl 1 rfl) ?_
    obtain ⟨t_4, h_5, hf⟩ := sn_bd hf
    refine sn_callVi (rest := []) C hw (ctX8_minutesOfFraud l  h_5) kl_RX8_261 layC_0 rfl rfl rfl rfl (Nat.le_of_ble_eq_true rfl) dX8_frauds_10 hl.1 (fun H locs hw => ?_)
    refine lv_goto (tgt := 18) hx hb dX8_frauds_13 (by decide) ?_
    cases hf
    exact kr _ _ _ _ hw rfl dX8_frauds_18
theorem ctX8_frauds (l : Launch) {σ : sn_S} {x1 : Int32}  {o : (Int32 × sn_S)} (hf : fX8_frauds σ x1 = some o) : sn_M l yX8_frauds cX8_frauds 2 (some .int) rmX8_frauds layC (fun ad => [.ref (ad 0), .int x1]) σ (some (fun _ => .int o.1)) o.2 :=
  sn_met (by decide) (fun _ => Nat.le_of_ble_eq_true rfl) (fun p e s m args below meth c ls D ct ad A C hw hl => wX8_frauds_in C  hf (fun H locs ls pc hw ok hd => sn_iret C hw hd) _ _ _ hw hl)
-- X8_seek
abbrev rmX8_seek : Room := { frames := 5, cells := 0, slots := 0, locals := 117 }
def BX8_seek_166 (σ : sn_S) : Option ((Int32 × sn_S)) :=
  ((fX7_seekIn σ 27 38).bind fun t_1 => (some ((0 : Int32), t_1)))
def BX8_seek_57 (σ : sn_S) (x1 : Int32) (x2 : Int32) : Option ((sn_S × Int32) ⊕ ((sn_S) ⊕ (Int32 × sn_S))) :=
  (sn_gd (sn_in x1 4) (if (sn_I σ 26 x1.toNatClampNeg) ≤ (x2 + (1 : Int32)) then
  (some (.inr (.inl (σ))))
  else
  (sn_gd (sn_in x1 4) (sn_gd (sn_in x2 60) (sn_lt (sn_L σ (sn_at sn_rs20 x1) x2.toNatClampNeg) fun y_5 => (sn_gd (sn_in x1 4) (sn_gd (sn_in (x2 + (1 : Int32)) 60) (sn_lt (sn_L σ (sn_at sn_rs20 x1) (x2 + (1 : Int32)).toNatClampNeg) fun y_9 => (if (lg_cmp y_5 (0 : Int64)) < 0 then
  (some (.inr (.inr ((-2 : Int32), σ))))
  else
  (if 0 ≤ (lg_cmp y_5 ((sn_I σ 27 1).toInt64)) then
  (some (.inr (.inr ((-2 : Int32), σ))))
  else
  (if (lg_cmp y_9 (0 : Int64)) < 0 then
  (some (.inr (.inr ((-2 : Int32), σ))))
  else
  (if (lg_cmp y_9 ((sn_I σ 27 0).toInt64)) < 0 then
  (sn_gd (sn_in y_5.toInt32 6) (sn_gd (sn_in y_5.toInt32 6) (sn_lt (sn_pI σ 55 y_5.toInt32.toNatClampNeg ((sn_I σ 55 y_5.toInt32.toNatClampNeg) ||| ((1 : Int32) <<< (y_9.toInt32 &&& 31)))) fun σ_17 => (sn_lt (x2 + 2) fun y_19 => (some (.inl (σ_17, y_19)))))))
  else
  (some (.inr (.inr ((-2 : Int32), σ))))))))))))))))
def LX8_seek_57 (x1 : Int32) (s : sn_S × Int32) : Option ((sn_S × Int32) ⊕ ((sn_S) ⊕ (Int32 × sn_S))) := BX8_seek_57 s.1 x1 s.2
def fX8_seek (σ : sn_S) (x1 : Int32) : Option (Int32 × sn_S) :=
  ((fX6_isSlot x1).bind fun t_1 => (if t_1 = 0 then
  (some ((-2 : Int32), σ))
  else
  ((fX8_isHouse σ).bind fun t_4 => (if t_4 = 0 then
  (some ((-2 : Int32), σ))
  else
  ((fX6_has σ x1).bind fun t_7 => (if t_7 = 0 then
  (some ((-6 : Int32), σ))
  else
  (sn_gd (sn_in x1 4) (if ((sn_I σ 26 x1.toNatClampNeg) - (sn_I σ 26 x1.toNatClampNeg) / (2 : Int32) * (2 : Int32)) = 0 then
  ((fX7_forget σ).bind fun t_12 => ((sn_it (LX8_seek_57 x1) 5000 (t_12, (0 : Int32))).bind fun t_14 => Sum.elim (fun v_16 => (BX8_seek_166 v_16)) (fun r_17 => (some r_17)) t_14))
  else
  (some ((-2 : Int32), σ))))))))))
theorem wX8_seek_166 (C : sn_C p s m args meth c RX8 cX8_seek 7 (some .int) D ct ad layC A) {σ : sn_S}  {o : (Int32 × sn_S)} (hf : BX8_seek_166 σ = some o) (kr : sn_Kr p l e rmX8_seek s m args below meth c Q D ct ad layC A cX8_seek .ireturn (true) o.2 [.int o.1]) : sn_At p l e rmX8_seek s m args below meth c Q D ct ad layC A 7 σ 166 [(0, .ref (ad 0))] [] := by
  intro H locs ls hw hl
  have hx := C.1
  have hb := C.2.1
  unfold BX8_seek_166 at hf
  refine lv_aload_n hx hb dX8_seek_166 rfl (lv_at hl 0 rfl) ?_
  refine sn_getC (r := 54) C hw fd_RX8_68 layC_0 rfl dX8_seek_167 ?_
  refine lv_aload_n hx hb dX8_seek_170 rfl (lv_at hl 0 rfl) ?_
  refine sn_getC (r := 27) C hw fd_RX8_44 layC_0 rfl dX8_seek_171 ?_
  refine lv_aload_n hx hb dX8_seek_174 rfl (lv_at hl 0 rfl) ?_
  refine sn_getC (r := 38) C hw fd_RX8_48 layC_0 rfl dX8_seek_175 ?_
  obtain ⟨t_1, h_2, hf⟩ := sn_bd hf
  refine sn_callVv (rest := []) C hw (ctX7_seekIn l sn_isX0_27 sn_isX0_38 h_2) kl_RX8_306 layC_54 rfl rfl rfl rfl (Nat.le_of_ble_eq_true rfl) dX8_seek_178 hl.1 (fun H locs hw => ?_)
  refine lv_iconst (v := 0) hx hb dX8_seek_181 rfl ?_
  cases hf
  exact kr _ _ _ _ hw rfl dX8_seek_182
theorem wX8_seek_57 (C : sn_C p s m args meth c RX8 cX8_seek 7 (some .int) D ct ad layC A) {σ : sn_S} {x1 : Int32} {x2 : Int32}  {o : (sn_S × Int32) ⊕ ((sn_S) ⊕ (Int32 × sn_S))} (hf : BX8_seek_57 σ x1 x2 = some o) (kc : ∀ v, o = .inl v → sn_At p l e rmX8_seek s m args below meth c Q D ct ad layC A 7 v.1 57 [(0, .ref (ad 0)), (1, .int x1), (2, .int v.2)] []) (kx : ∀ v, o = .inr (.inl v) → sn_At p l e rmX8_seek s m args below meth c Q D ct ad layC A 7 v 166 [(0, .ref (ad 0))] []) (kr : ∀ r, o = .inr (.inr r) → sn_Kr p l e rmX8_seek s m args below meth c Q D ct ad layC A cX8_seek .ireturn (true) r.2 [.int r.1]) : sn_At p l e rmX8_seek s m args below meth c Q D ct ad layC A 7 σ 57 [(0, .ref (ad 0)), (1, .int x1), (2, .int x2)] [] := by
  intro H locs ls hw hl
  have hx := C.1
  have hb := C.2.1
  unfold BX8_seek_57 at hf
  refine lv_iload_n hx hb dX8_seek_57 rfl (lv_at hl 2 rfl) ?_
  refine lv_iconst (v := 1) hx hb dX8_seek_58 rfl ?_
  refine lv_iadd hx hb dX8_seek_59 ?_
  refine lv_aload_n hx hb dX8_seek_60 rfl (lv_at hl 0 rfl) ?_
  refine sn_getC (r := 19) C hw fd_RX8_37 layC_0 rfl dX8_seek_61 ?_
  refine sn_getC (r := 26) C hw fd_RX8_293 layC_19 rfl dX8_seek_64 ?_
  refine lv_iload_n hx hb dX8_seek_67 rfl (lv_at hl 1 rfl) ?_
  obtain ⟨g_1, hf⟩ := sn_gdE hf
  refine sn_iald C hw layC_26 g_1 dX8_seek_68 ?_
  refine lv_icmp_ge (tgt := 166) hx hb dX8_seek_69 (by decide) (fun c_2 => ?_) (fun c_2 => ?_)
  · have hf := sn_if c_2 hf
    cases hf
    exact kx _ rfl _ _ _ hw (lv_sub hl [0] rfl)
  · have hf := sn_el c_2 hf
    refine lv_aload_n hx hb dX8_seek_72 rfl (lv_at hl 0 rfl) ?_
    refine sn_getC (r := 19) C hw fd_RX8_37 layC_0 rfl dX8_seek_73 ?_
    refine sn_getC (r := 20) C hw fd_RX8_299 layC_19 rfl dX8_seek_76 ?_
    refine lv_iload_n hx hb dX8_seek_79 rfl (lv_at hl 1 rfl) ?_
    obtain ⟨g_3, hf⟩ := sn_gdE hf
    refine sn_aldA C hw layC_20 rfl g_3 dX8_seek_80 ?_
    refine lv_iload_n hx hb dX8_seek_81 rfl (lv_at hl 2 rfl) ?_
    obtain ⟨g_4, hf⟩ := sn_gdE hf
    refine sn_lald C hw (sn_rs_row g_3) g_4 dX8_seek_82 ?_
    obtain ⟨y_5, e_6, hf⟩ := sn_ltE hf
    refine lv_topl (fun y_5_ e_6_ => ?_)
    obtain rfl : y_5 = y_5_ := e_6.trans e_6_.symm
    refine lv_lstore_n (lv' := [(3, .long y_5), (0, .ref (ad 0)), (1, .int x1), (2, .int x2)]) hx hb dX8_seek_83 rfl hl (by decide) rfl (fun ls hl => ?_)
    refine lv_aload_n hx hb dX8_seek_84 rfl (lv_at hl 1 rfl) ?_
    refine sn_getC (r := 19) C hw fd_RX8_37 layC_0 rfl dX8_seek_85 ?_
    refine sn_getC (r := 20) C hw fd_RX8_299 layC_19 rfl dX8_seek_88 ?_
    refine lv_iload_n hx hb dX8_seek_91 rfl (lv_at hl 2 rfl) ?_
    obtain ⟨g_7, hf⟩ := sn_gdE hf
    refine sn_aldA C hw layC_20 rfl g_7 dX8_seek_92 ?_
    refine lv_iload_n hx hb dX8_seek_93 rfl (lv_at hl 3 rfl) ?_
    refine lv_iconst (v := 1) hx hb dX8_seek_94 rfl ?_
    refine lv_iadd hx hb dX8_seek_95 ?_
    obtain ⟨g_8, hf⟩ := sn_gdE hf
    refine sn_lald C hw (sn_rs_row g_7) g_8 dX8_seek_96 ?_
    obtain ⟨y_9, e_10, hf⟩ := sn_ltE hf
    refine lv_topl (fun y_9_ e_10_ => ?_)
    obtain rfl : y_9 = y_9_ := e_10.trans e_10_.symm
    refine lv_lstore (lv' := [(5, .long y_9), (3, .long y_5), (0, .ref (ad 0)), (1, .int x1), (2, .int x2)]) hx hb dX8_seek_97 hl (by decide) rfl (fun ls hl => ?_)
    refine lv_lload_n hx hb dX8_seek_99 rfl (lv_at hl 1 rfl) ?_
    refine lv_lconst (v := 0) hx hb dX8_seek_100 rfl ?_
    refine W.lcmp hx hb dX8_seek_101 ?_
    refine lv_if_lt (tgt := 139) hx hb dX8_seek_102 (by decide) (fun c_11 => ?_) (fun c_11 => ?_)
    · have hf := sn_if c_11 hf
      refine lv_bipush (v := (-2)) hx hb dX8_seek_139 (by decide) ?_
      cases hf
      exact kr _ rfl _ _ _ _ hw rfl dX8_seek_141
    · have hf := sn_el c_11 hf
      refine lv_lload_n hx hb dX8_seek_105 rfl (lv_at hl 1 rfl) ?_
      refine lv_aload_n hx hb dX8_seek_106 rfl (lv_at hl 2 rfl) ?_
      refine sn_getC (r := 27) C hw fd_RX8_44 layC_0 rfl dX8_seek_107 ?_
      refine sn_getI C hw fd_RX8_162 (sn_look sn_isX0_27 (k := 0) rfl) rfl dX8_seek_110 ?_
      refine lv_i2l hx hb dX8_seek_113 rfl ?_
      refine W.lcmp hx hb dX8_seek_114 ?_
      refine lv_if_ge (tgt := 139) hx hb dX8_seek_115 (by decide) (fun c_12 => ?_) (fun c_12 => ?_)
      · have hf := sn_if c_12 hf
        refine lv_bipush (v := (-2)) hx hb dX8_seek_139 (by decide) ?_
        cases hf
        exact kr _ rfl _ _ _ _ hw rfl dX8_seek_141
      · have hf := sn_el c_12 hf
        refine lv_lload hx hb dX8_seek_118 (lv_at hl 0 rfl) ?_
        refine lv_lconst (v := 0) hx hb dX8_seek_120 rfl ?_
        refine W.lcmp hx hb dX8_seek_121 ?_
        refine lv_if_lt (tgt := 139) hx hb dX8_seek_122 (by decide) (fun c_13 => ?_) (fun c_13 => ?_)
        · have hf := sn_if c_13 hf
          refine lv_bipush (v := (-2)) hx hb dX8_seek_139 (by decide) ?_
          cases hf
          exact kr _ rfl _ _ _ _ hw rfl dX8_seek_141
        · have hf := sn_el c_13 hf
          refine lv_lload hx hb dX8_seek_125 (lv_at hl 0 rfl) ?_
          refine lv_aload_n hx hb dX8_seek_127 rfl (lv_at hl 2 rfl) ?_
          refine sn_getC (r := 27) C hw fd_RX8_44 layC_0 rfl dX8_seek_128 ?_
          refine sn_getI C hw fd_RX8_151 (sn_look sn_isX0_27 (k := 0) rfl) rfl dX8_seek_131 ?_
          refine lv_i2l hx hb dX8_seek_134 rfl ?_
          refine W.lcmp hx hb dX8_seek_135 ?_
          refine lv_if_lt (tgt := 142) hx hb dX8_seek_136 (by decide) (fun c_14 => ?_) (fun c_14 => ?_)
          · have hf := sn_if c_14 hf
            refine lv_aload_n hx hb dX8_seek_142 rfl (lv_at hl 2 rfl) ?_
            refine sn_getC (r := 54) C hw fd_RX8_68 layC_0 rfl dX8_seek_143 ?_
            refine sn_getC (r := 55) C hw fd_RX8_303 layC_54 rfl dX8_seek_146 ?_
            refine lv_lload_n hx hb dX8_seek_149 rfl (lv_at hl 1 rfl) ?_
            refine lv_l2i hx hb dX8_seek_150 rfl ?_
            refine lv_dup2_11 hx hb dX8_seek_151 rfl rfl ?_
            obtain ⟨g_15, hf⟩ := sn_gdE hf
            refine sn_iald C hw layC_55 g_15 dX8_seek_152 ?_
            refine lv_iconst (v := 1) hx hb dX8_seek_153 rfl ?_
            refine lv_lload hx hb dX8_seek_154 (lv_at hl 0 rfl) ?_
            refine lv_l2i hx hb dX8_seek_156 rfl ?_
            refine lv_ishl hx hb dX8_seek_157 ?_
            refine lv_ior hx hb dX8_seek_158 ?_
            obtain ⟨g_16, hf⟩ := sn_gdE hf
            refine sn_iast C hw layC_55 g_16 dX8_seek_159 (fun H locs hw => ?_)
            obtain ⟨σ_17, e_18, hf⟩ := sn_ltE hf
            rw [← e_18] at hw
            obtain ⟨y_19, e_20, hf⟩ := sn_ltE hf
            refine lv_iinc (v := y_19) (lv' := [(2, .int y_19), (5, .long y_9), (3, .long y_5), (0, .ref (ad 0)), (1, .int x1)]) hx hb dX8_seek_160 hl (k := 4) rfl (by rw [e_20]; rfl) (by decide) rfl (fun ls hl => ?_)
            refine lv_goto (tgt := 57) hx hb dX8_seek_163 (by decide) ?_
            cases hf
            exact kc _ rfl _ _ _ hw (lv_sub hl [3, 4, 0] rfl)
          · have hf := sn_el c_14 hf
            refine lv_bipush (v := (-2)) hx hb dX8_seek_139 (by decide) ?_
            cases hf
            exact kr _ rfl _ _ _ _ hw rfl dX8_seek_141
theorem wX8_seek_L57 (C : sn_C p s m args meth c RX8 cX8_seek 7 (some .int) D ct ad layC A) {x1 : Int32}   {z : sn_S × Int32} {t : (sn_S) ⊕ (Int32 × sn_S)} (h : sn_it (LX8_seek_57 x1) 5000 z = some t) (kx : ∀ v, t = .inl v → sn_At p l e rmX8_seek s m args below meth c Q D ct ad layC A 7 v 166 [(0, .ref (ad 0))] []) (kr : ∀ r, t = .inr r → sn_Kr p l e rmX8_seek s m args below meth c Q D ct ad layC A cX8_seek .ireturn (true) r.2 [.int r.1]) : sn_At p l e rmX8_seek s m args below meth c Q D ct ad layC A 7 z.1 57 [(0, .ref (ad 0)), (1, .int x1), (2, .int z.2)] [] :=
  sn_loop (f := LX8_seek_57 x1) (G := fun z => sn_At p l e rmX8_seek s m args below meth c Q D ct ad layC A 7 z.1 57 [(0, .ref (ad 0)), (1, .int x1), (2, .int z.2)] []) (E := fun t => (∀ v, t = .inl v → sn_At p l e rmX8_seek s m args below meth c Q D ct ad layC A 7 v 166 [(0, .ref (ad 0))] []) ∧ (∀ r, t = .inr r → sn_Kr p l e rmX8_seek s m args below meth c Q D ct ad layC A cX8_seek .ireturn (true) r.2 [.int r.1])) (fun z o hf k1 k2 => wX8_seek_57 C  hf (fun v e => k1 v e) (fun v e => (k2 _ e).1 v rfl) (fun r e => (k2 _ e).2 r rfl)) 5000 z t h ⟨kx, kr⟩
theorem wX8_seek_in (C : sn_C p s m args meth c RX8 cX8_seek 7 (some .int) D ct ad layC A) {σ : sn_S} {x1 : Int32}  {o : (Int32 × sn_S)} (hf : fX8_seek σ x1 = some o) (kr : sn_Kr p l e rmX8_seek s m args below meth c Q D ct ad layC A cX8_seek .ireturn (true) o.2 [.int o.1]) : sn_At p l e rmX8_seek s m args below meth c Q D ct ad layC A 7 σ 0 [(0, .ref (ad 0)), (1, .int x1)] [] := by
  intro H locs ls hw hl
  have hx := C.1
  have hb := C.2.1
  unfold fX8_seek at hf
  refine lv_iload_n hx hb dX8_seek_0 rfl (lv_at hl 1 rfl) ?_
  obtain ⟨t_1, h_2, hf⟩ := sn_bd hf
  refine sn_callSi (rest := []) C hw (ctX6_isSlot l  h_2) kl_RX8_287 rfl rfl rfl (Nat.le_of_ble_eq_true rfl) dX8_seek_1 hl.1 (fun H locs hw => ?_)
  refine lv_if_eq (tgt := 14) hx hb dX8_seek_4 (by decide) (fun c_3 => ?_) (fun c_3 => ?_)
  · have hf := sn_if c_3 hf
    refine lv_bipush (v := (-2)) hx hb dX8_seek_14 (by decide) ?_
    cases hf
    exact kr _ _ _ _ hw rfl dX8_seek_16
  · have hf := sn_el c_3 hf
    refine lv_aload_n hx hb dX8_seek_7 rfl (lv_at hl 0 rfl) ?_
    obtain ⟨t_4, h_5, hf⟩ := sn_bd hf
    refine sn_callVi (rest := []) C hw (ctX8_isHouse l  h_5) kl_RX8_137 layC_0 rfl rfl rfl rfl (Nat.le_of_ble_eq_true rfl) dX8_seek_8 hl.1 (fun H locs hw => ?_)
    refine lv_if_ne (tgt := 17) hx hb dX8_seek_11 (by decide) (fun c_6 => ?_) (fun c_6 => ?_)
    · have hf := sn_el c_6 hf
      refine lv_aload_n hx hb dX8_seek_17 rfl (lv_at hl 0 rfl) ?_
      refine sn_getC (r := 19) C hw fd_RX8_37 layC_0 rfl dX8_seek_18 ?_
      refine lv_iload_n hx hb dX8_seek_21 rfl (lv_at hl 1 rfl) ?_
      obtain ⟨t_7, h_8, hf⟩ := sn_bd hf
      refine sn_callVi (rest := []) C hw (ctX6_has l  h_8) kl_RX8_290 layC_19 rfl rfl rfl rfl (Nat.le_of_ble_eq_true rfl) dX8_seek_22 hl.1 (fun H locs hw => ?_)
      refine lv_if_ne (tgt := 31) hx hb dX8_seek_25 (by decide) (fun c_9 => ?_) (fun c_9 => ?_)
      · have hf := sn_el c_9 hf
        refine lv_aload_n hx hb dX8_seek_31 rfl (lv_at hl 0 rfl) ?_
        refine sn_getC (r := 19) C hw fd_RX8_37 layC_0 rfl dX8_seek_32 ?_
        refine sn_getC (r := 26) C hw fd_RX8_293 layC_19 rfl dX8_seek_35 ?_
        refine lv_iload_n hx hb dX8_seek_38 rfl (lv_at hl 1 rfl) ?_
        obtain ⟨g_10, hf⟩ := sn_gdE hf
        refine sn_iald C hw layC_26 g_10 dX8_seek_39 ?_
        refine lv_iconst (v := 2) hx hb dX8_seek_40 rfl ?_
        refine lv_irem hx hb dX8_seek_41 (by decide) ?_
        refine lv_if_eq (tgt := 48) hx hb dX8_seek_42 (by decide) (fun c_11 => ?_) (fun c_11 => ?_)
        · have hf := sn_if c_11 hf
          refine lv_aload_n hx hb dX8_seek_48 rfl (lv_at hl 0 rfl) ?_
          refine sn_getC (r := 54) C hw fd_RX8_68 layC_0 rfl dX8_seek_49 ?_
          obtain ⟨t_12, h_13, hf⟩ := sn_bd hf
          refine sn_callVv (rest := []) C hw (ctX7_forget l  h_13) kl_RX8_296 layC_54 rfl rfl rfl rfl (Nat.le_of_ble_eq_true rfl) dX8_seek_52 hl.1 (fun H locs hw => ?_)
          refine lv_iconst (v := 0) hx hb dX8_seek_55 rfl ?_
          refine lv_istore_n (lv' := [(2, .int (0 : Int32)), (0, .ref (ad 0)), (1, .int x1)]) hx hb dX8_seek_56 rfl hl (by decide) rfl (fun ls hl => ?_)
          obtain ⟨t_14, h_15, hf⟩ := sn_bd hf
          rcases t_14 with v_16 | r_17
          · rw [Sum.elim_inl] at hf
            exact wX8_seek_L57 C  h_15 (fun v e => by cases e; exact wX8_seek_166 C  hf kr) (fun r e => by cases e) _ _ _ hw (lv_sub hl [1, 2, 0] rfl)
          · rw [Sum.elim_inr] at hf
            cases hf
            exact wX8_seek_L57 C  h_15 (fun v e => by cases e) (fun r e => by cases e; exact kr) _ _ _ hw (lv_sub hl [1, 2, 0] rfl)
        · have hf := sn_el c_11 hf
          refine lv_bipush (v := (-2)) hx hb dX8_seek_45 (by decide) ?_
          cases hf
          exact kr _ _ _ _ hw rfl dX8_seek_47
      · have hf := sn_if c_9 hf
        refine lv_bipush (v := (-6)) hx hb dX8_seek_28 (by decide) ?_
        cases hf
        exact kr _ _ _ _ hw rfl dX8_seek_30
    · have hf := sn_if c_6 hf
      refine lv_bipush (v := (-2)) hx hb dX8_seek_14 (by decide) ?_
      cases hf
      exact kr _ _ _ _ hw rfl dX8_seek_16
theorem ctX8_seek (l : Launch) {σ : sn_S} {x1 : Int32}  {o : (Int32 × sn_S)} (hf : fX8_seek σ x1 = some o) : sn_M l yX8_seek cX8_seek 7 (some .int) rmX8_seek layC (fun ad => [.ref (ad 0), .int x1]) σ (some (fun _ => .int o.1)) o.2 :=
  sn_met (by decide) (fun _ => Nat.le_of_ble_eq_true rfl) (fun p e s m args below meth c ls D ct ad A C hw hl => wX8_seek_in C  hf (fun H locs ls pc hw ok hd => sn_iret C hw hd) _ _ _ hw hl)
-- X8_which
abbrev rmX8_which : Room := { frames := 6, cells := 0, slots := 0, locals := 143 }
def fX8_which (σ : sn_S) (x1 : Int32) : Option (Int32 × sn_S) :=
  ((fX8_seek σ x1).bind fun t_1 => (if t_1.1 = 0 then
  (some ((sn_I t_1.2 54 1), t_1.2))
  else
  (some (t_1.1, t_1.2))))
theorem wX8_which_in (C : sn_C p s m args meth c RX8 cX8_which 3 (some .int) D ct ad layC A) {σ : sn_S} {x1 : Int32}  {o : (Int32 × sn_S)} (hf : fX8_which σ x1 = some o) (kr : sn_Kr p l e rmX8_which s m args below meth c Q D ct ad layC A cX8_which .ireturn (true) o.2 [.int o.1]) : sn_At p l e rmX8_which s m args below meth c Q D ct ad layC A 3 σ 0 [(0, .ref (ad 0)), (1, .int x1)] [] := by
  intro H locs ls hw hl
  have hx := C.1
  have hb := C.2.1
  unfold fX8_which at hf
  refine lv_aload_n hx hb dX8_which_0 rfl (lv_at hl 0 rfl) ?_
  refine lv_iload_n hx hb dX8_which_1 rfl (lv_at hl 1 rfl) ?_
  obtain ⟨t_1, h_2, hf⟩ := sn_bd hf
  refine sn_callVi (rest := []) C hw (ctX8_seek l  h_2) kl_RX8_271 layC_0 rfl rfl rfl rfl (Nat.le_of_ble_eq_true rfl) dX8_which_2 hl.1 (fun H locs hw => ?_)
  refine lv_istore_n (lv' := [(2, .int t_1.1), (0, .ref (ad 0)), (1, .int x1)]) hx hb dX8_which_5 rfl hl (by decide) rfl (fun ls hl => ?_)
  refine lv_iload_n hx hb dX8_which_6 rfl (lv_at hl 0 rfl) ?_
  refine lv_if_eq (tgt := 14) hx hb dX8_which_7 (by decide) (fun c_3 => ?_) (fun c_3 => ?_)
  · have hf := sn_if c_3 hf
    refine lv_aload_n hx hb dX8_which_14 rfl (lv_at hl 1 rfl) ?_
    refine sn_getC (r := 54) C hw fd_RX8_68 layC_0 rfl dX8_which_15 ?_
    refine sn_getI C hw fd_RX8_274 layC_54 rfl dX8_which_18 ?_
    cases hf
    exact kr _ _ _ _ hw rfl dX8_which_21
  · have hf := sn_el c_3 hf
    refine lv_iload_n hx hb dX8_which_10 rfl (lv_at hl 0 rfl) ?_
    refine lv_goto (tgt := 21) hx hb dX8_which_11 (by decide) ?_
    cases hf
    exact kr _ _ _ _ hw rfl dX8_which_21
theorem ctX8_which (l : Launch) {σ : sn_S} {x1 : Int32}  {o : (Int32 × sn_S)} (hf : fX8_which σ x1 = some o) : sn_M l yX8_which cX8_which 3 (some .int) rmX8_which layC (fun ad => [.ref (ad 0), .int x1]) σ (some (fun _ => .int o.1)) o.2 :=
  sn_met (by decide) (fun _ => Nat.le_of_ble_eq_true rfl) (fun p e s m args below meth c ls D ct ad A C hw hl => wX8_which_in C  hf (fun H locs ls pc hw ok hd => sn_iret C hw hd) _ _ _ hw hl)
-- X8_when
abbrev rmX8_when : Room := { frames := 6, cells := 0, slots := 0, locals := 143 }
def fX8_when (σ : sn_S) (x1 : Int32) : Option (Int32 × sn_S) :=
  ((fX8_seek σ x1).bind fun t_1 => (if t_1.1 = 0 then
  (some ((sn_I t_1.2 54 2), t_1.2))
  else
  (some (t_1.1, t_1.2))))
theorem wX8_when_in (C : sn_C p s m args meth c RX8 cX8_when 3 (some .int) D ct ad layC A) {σ : sn_S} {x1 : Int32}  {o : (Int32 × sn_S)} (hf : fX8_when σ x1 = some o) (kr : sn_Kr p l e rmX8_when s m args below meth c Q D ct ad layC A cX8_when .ireturn (true) o.2 [.int o.1]) : sn_At p l e rmX8_when s m args below meth c Q D ct ad layC A 3 σ 0 [(0, .ref (ad 0)), (1, .int x1)] [] := by
  intro H locs ls hw hl
  have hx := C.1
  have hb := C.2.1
  unfold fX8_when at hf
  refine lv_aload_n hx hb dX8_when_0 rfl (lv_at hl 0 rfl) ?_
  refine lv_iload_n hx hb dX8_when_1 rfl (lv_at hl 1 rfl) ?_
  obtain ⟨t_1, h_2, hf⟩ := sn_bd hf
  refine sn_callVi (rest := []) C hw (ctX8_seek l  h_2) kl_RX8_271 layC_0 rfl rfl rfl rfl (Nat.le_of_ble_eq_true rfl) dX8_when_2 hl.1 (fun H locs hw => ?_)
  refine lv_istore_n (lv' := [(2, .int t_1.1), (0, .ref (ad 0)), (1, .int x1)]) hx hb dX8_when_5 rfl hl (by decide) rfl (fun ls hl => ?_)
  refine lv_iload_n hx hb dX8_when_6 rfl (lv_at hl 0 rfl) ?_
  refine lv_if_eq (tgt := 14) hx hb dX8_when_7 (by decide) (fun c_3 => ?_) (fun c_3 => ?_)
  · have hf := sn_if c_3 hf
    refine lv_aload_n hx hb dX8_when_14 rfl (lv_at hl 1 rfl) ?_
    refine sn_getC (r := 54) C hw fd_RX8_68 layC_0 rfl dX8_when_15 ?_
    refine sn_getI C hw fd_RX8_277 layC_54 rfl dX8_when_18 ?_
    cases hf
    exact kr _ _ _ _ hw rfl dX8_when_21
  · have hf := sn_el c_3 hf
    refine lv_iload_n hx hb dX8_when_10 rfl (lv_at hl 0 rfl) ?_
    refine lv_goto (tgt := 21) hx hb dX8_when_11 (by decide) ?_
    cases hf
    exact kr _ _ _ _ hw rfl dX8_when_21
theorem ctX8_when (l : Launch) {σ : sn_S} {x1 : Int32}  {o : (Int32 × sn_S)} (hf : fX8_when σ x1 = some o) : sn_M l yX8_when cX8_when 3 (some .int) rmX8_when layC (fun ad => [.ref (ad 0), .int x1]) σ (some (fun _ => .int o.1)) o.2 :=
  sn_met (by decide) (fun _ => Nat.le_of_ble_eq_true rfl) (fun p e s m args below meth c ls D ct ad A C hw hl => wX8_when_in C  hf (fun H locs ls pc hw ok hd => sn_iret C hw hd) _ _ _ hw hl)
-- X8_gust
abbrev rmX8_gust : Room := { frames := 6, cells := 0, slots := 0, locals := 143 }
def fX8_gust (σ : sn_S) (x1 : Int32) : Option (Int32 × sn_S) :=
  ((fX8_seek σ x1).bind fun t_1 => (if t_1.1 = 0 then
  (some ((sn_I t_1.2 54 3), t_1.2))
  else
  (some (t_1.1, t_1.2))))
theorem wX8_gust_in (C : sn_C p s m args meth c RX8 cX8_gust 3 (some .int) D ct ad layC A) {σ : sn_S} {x1 : Int32}  {o : (Int32 × sn_S)} (hf : fX8_gust σ x1 = some o) (kr : sn_Kr p l e rmX8_gust s m args below meth c Q D ct ad layC A cX8_gust .ireturn (true) o.2 [.int o.1]) : sn_At p l e rmX8_gust s m args below meth c Q D ct ad layC A 3 σ 0 [(0, .ref (ad 0)), (1, .int x1)] [] := by
  intro H locs ls hw hl
  have hx := C.1
  have hb := C.2.1
  unfold fX8_gust at hf
  refine lv_aload_n hx hb dX8_gust_0 rfl (lv_at hl 0 rfl) ?_
  refine lv_iload_n hx hb dX8_gust_1 rfl (lv_at hl 1 rfl) ?_
  obtain ⟨t_1, h_2, hf⟩ := sn_bd hf
  refine sn_callVi (rest := []) C hw (ctX8_seek l  h_2) kl_RX8_271 layC_0 rfl rfl rfl rfl (Nat.le_of_ble_eq_true rfl) dX8_gust_2 hl.1 (fun H locs hw => ?_)
  refine lv_istore_n (lv' := [(2, .int t_1.1), (0, .ref (ad 0)), (1, .int x1)]) hx hb dX8_gust_5 rfl hl (by decide) rfl (fun ls hl => ?_)
  refine lv_iload_n hx hb dX8_gust_6 rfl (lv_at hl 0 rfl) ?_
  refine lv_if_eq (tgt := 14) hx hb dX8_gust_7 (by decide) (fun c_3 => ?_) (fun c_3 => ?_)
  · have hf := sn_if c_3 hf
    refine lv_aload_n hx hb dX8_gust_14 rfl (lv_at hl 1 rfl) ?_
    refine sn_getC (r := 54) C hw fd_RX8_68 layC_0 rfl dX8_gust_15 ?_
    refine sn_getI C hw fd_RX8_278 layC_54 rfl dX8_gust_18 ?_
    cases hf
    exact kr _ _ _ _ hw rfl dX8_gust_21
  · have hf := sn_el c_3 hf
    refine lv_iload_n hx hb dX8_gust_10 rfl (lv_at hl 0 rfl) ?_
    refine lv_goto (tgt := 21) hx hb dX8_gust_11 (by decide) ?_
    cases hf
    exact kr _ _ _ _ hw rfl dX8_gust_21
theorem ctX8_gust (l : Launch) {σ : sn_S} {x1 : Int32}  {o : (Int32 × sn_S)} (hf : fX8_gust σ x1 = some o) : sn_M l yX8_gust cX8_gust 3 (some .int) rmX8_gust layC (fun ad => [.ref (ad 0), .int x1]) σ (some (fun _ => .int o.1)) o.2 :=
  sn_met (by decide) (fun _ => Nat.le_of_ble_eq_true rfl) (fun p e s m args below meth c ls D ct ad A C hw hl => wX8_gust_in C  hf (fun H locs ls pc hw ok hd => sn_iret C hw hd) _ _ _ hw hl)
-- X8_ask
abbrev rmX8_ask : Room := { frames := 6, cells := 0, slots := 0, locals := 143 }
def fX8_ask (σ : sn_S) (x1 : Int32) : Option (Int32 × sn_S) :=
  ((fX8_seek σ x1).bind fun t_1 => (if t_1.1 = 0 then
  ((fX7_whomToAsk t_1.2 (sn_I t_1.2 27 1)).bind fun t_4 => (some (t_4, t_1.2)))
  else
  (some (t_1.1, t_1.2))))
theorem wX8_ask_in (C : sn_C p s m args meth c RX8 cX8_ask 3 (some .int) D ct ad layC A) {σ : sn_S} {x1 : Int32}  {o : (Int32 × sn_S)} (hf : fX8_ask σ x1 = some o) (kr : sn_Kr p l e rmX8_ask s m args below meth c Q D ct ad layC A cX8_ask .ireturn (true) o.2 [.int o.1]) : sn_At p l e rmX8_ask s m args below meth c Q D ct ad layC A 3 σ 0 [(0, .ref (ad 0)), (1, .int x1)] [] := by
  intro H locs ls hw hl
  have hx := C.1
  have hb := C.2.1
  unfold fX8_ask at hf
  refine lv_aload_n hx hb dX8_ask_0 rfl (lv_at hl 0 rfl) ?_
  refine lv_iload_n hx hb dX8_ask_1 rfl (lv_at hl 1 rfl) ?_
  obtain ⟨t_1, h_2, hf⟩ := sn_bd hf
  refine sn_callVi (rest := []) C hw (ctX8_seek l  h_2) kl_RX8_271 layC_0 rfl rfl rfl rfl (Nat.le_of_ble_eq_true rfl) dX8_ask_2 hl.1 (fun H locs hw => ?_)
  refine lv_istore_n (lv' := [(2, .int t_1.1), (0, .ref (ad 0)), (1, .int x1)]) hx hb dX8_ask_5 rfl hl (by decide) rfl (fun ls hl => ?_)
  refine lv_iload_n hx hb dX8_ask_6 rfl (lv_at hl 0 rfl) ?_
  refine lv_if_eq (tgt := 14) hx hb dX8_ask_7 (by decide) (fun c_3 => ?_) (fun c_3 => ?_)
  · have hf := sn_if c_3 hf
    refine lv_aload_n hx hb dX8_ask_14 rfl (lv_at hl 1 rfl) ?_
    refine sn_getC (r := 54) C hw fd_RX8_68 layC_0 rfl dX8_ask_15 ?_
    refine lv_aload_n hx hb dX8_ask_18 rfl (lv_at hl 1 rfl) ?_
    refine sn_getC (r := 27) C hw fd_RX8_44 layC_0 rfl dX8_ask_19 ?_
    refine sn_getI C hw fd_RX8_162 (sn_look sn_isX0_27 (k := 0) rfl) rfl dX8_ask_22 ?_
    obtain ⟨t_4, h_5, hf⟩ := sn_bd hf
    refine sn_callVi (rest := []) C hw (ctX7_whomToAsk l  h_5) kl_RX8_281 layC_54 rfl rfl rfl rfl (Nat.le_of_ble_eq_true rfl) dX8_ask_25 hl.1 (fun H locs hw => ?_)
    cases hf
    exact kr _ _ _ _ hw rfl dX8_ask_28
  · have hf := sn_el c_3 hf
    refine lv_iload_n hx hb dX8_ask_10 rfl (lv_at hl 0 rfl) ?_
    refine lv_goto (tgt := 28) hx hb dX8_ask_11 (by decide) ?_
    cases hf
    exact kr _ _ _ _ hw rfl dX8_ask_28
theorem ctX8_ask (l : Launch) {σ : sn_S} {x1 : Int32}  {o : (Int32 × sn_S)} (hf : fX8_ask σ x1 = some o) : sn_M l yX8_ask cX8_ask 3 (some .int) rmX8_ask layC (fun ad => [.ref (ad 0), .int x1]) σ (some (fun _ => .int o.1)) o.2 :=
  sn_met (by decide) (fun _ => Nat.le_of_ble_eq_true rfl) (fun p e s m args below meth c ls D ct ad A C hw hl => wX8_ask_in C  hf (fun H locs ls pc hw ok hd => sn_iret C hw hd) _ _ _ hw hl)
-- X8_leaves
abbrev rmX8_leaves : Room := { frames := 6, cells := 0, slots := 0, locals := 143 }
def fX8_leaves (σ : sn_S) (x1 : Int32) : Option (Int32 × sn_S) :=
  ((fX8_seek σ x1).bind fun t_1 => (if t_1.1 = 0 then
  ((fX7_whomToAsk t_1.2 (sn_I t_1.2 27 1)).bind fun t_4 => (if t_4 = (-1 : Int32) then
  (some ((sn_I t_1.2 54 1), t_1.2))
  else
  ((fX7_atWorst t_1.2 t_4).bind fun t_7 => (some (t_7, t_1.2)))))
  else
  (some (t_1.1, t_1.2))))
theorem wX8_leaves_in (C : sn_C p s m args meth c RX8 cX8_leaves 4 (some .int) D ct ad layC A) {σ : sn_S} {x1 : Int32}  {o : (Int32 × sn_S)} (hf : fX8_leaves σ x1 = some o) (kr : sn_Kr p l e rmX8_leaves s m args below meth c Q D ct ad layC A cX8_leaves .ireturn (true) o.2 [.int o.1]) : sn_At p l e rmX8_leaves s m args below meth c Q D ct ad layC A 4 σ 0 [(0, .ref (ad 0)), (1, .int x1)] [] := by
  intro H locs ls hw hl
  have hx := C.1
  have hb := C.2.1
  unfold fX8_leaves at hf
  refine lv_aload_n hx hb dX8_leaves_0 rfl (lv_at hl 0 rfl) ?_
  refine lv_iload_n hx hb dX8_leaves_1 rfl (lv_at hl 1 rfl) ?_
  obtain ⟨t_1, h_2, hf⟩ := sn_bd hf
  refine sn_callVi (rest := []) C hw (ctX8_seek l  h_2) kl_RX8_271 layC_0 rfl rfl rfl rfl (Nat.le_of_ble_eq_true rfl) dX8_leaves_2 hl.1 (fun H locs hw => ?_)
  refine lv_istore_n (lv' := [(2, .int t_1.1), (0, .ref (ad 0)), (1, .int x1)]) hx hb dX8_leaves_5 rfl hl (by decide) rfl (fun ls hl => ?_)
  refine lv_iload_n hx hb dX8_leaves_6 rfl (lv_at hl 0 rfl) ?_
  refine lv_if_eq (tgt := 12) hx hb dX8_leaves_7 (by decide) (fun c_3 => ?_) (fun c_3 => ?_)
  · have hf := sn_if c_3 hf
    refine lv_aload_n hx hb dX8_leaves_12 rfl (lv_at hl 1 rfl) ?_
    refine sn_getC (r := 54) C hw fd_RX8_68 layC_0 rfl dX8_leaves_13 ?_
    refine lv_aload_n hx hb dX8_leaves_16 rfl (lv_at hl 1 rfl) ?_
    refine sn_getC (r := 27) C hw fd_RX8_44 layC_0 rfl dX8_leaves_17 ?_
    refine sn_getI C hw fd_RX8_162 (sn_look sn_isX0_27 (k := 0) rfl) rfl dX8_leaves_20 ?_
    obtain ⟨t_4, h_5, hf⟩ := sn_bd hf
    refine sn_callVi (rest := []) C hw (ctX7_whomToAsk l  h_5) kl_RX8_281 layC_54 rfl rfl rfl rfl (Nat.le_of_ble_eq_true rfl) dX8_leaves_23 hl.1 (fun H locs hw => ?_)
    refine lv_istore_n (lv' := [(3, .int t_4), (2, .int t_1.1), (0, .ref (ad 0)), (1, .int x1)]) hx hb dX8_leaves_26 rfl hl (by decide) rfl (fun ls hl => ?_)
    refine lv_iload_n hx hb dX8_leaves_27 rfl (lv_at hl 0 rfl) ?_
    refine lv_iconst (v := (-1)) hx hb dX8_leaves_28 rfl ?_
    refine lv_icmp_ne (tgt := 42) hx hb dX8_leaves_29 (by decide) (fun c_6 => ?_) (fun c_6 => ?_)
    · have hf := sn_el c_6 hf
      refine lv_aload_n hx hb dX8_leaves_42 rfl (lv_at hl 2 rfl) ?_
      refine sn_getC (r := 54) C hw fd_RX8_68 layC_0 rfl dX8_leaves_43 ?_
      refine lv_iload_n hx hb dX8_leaves_46 rfl (lv_at hl 0 rfl) ?_
      obtain ⟨t_7, h_8, hf⟩ := sn_bd hf
      refine sn_callVi (rest := []) C hw (ctX7_atWorst l  h_8) kl_RX8_284 layC_54 rfl rfl rfl rfl (Nat.le_of_ble_eq_true rfl) dX8_leaves_47 hl.1 (fun H locs hw => ?_)
      cases hf
      exact kr _ _ _ _ hw rfl dX8_leaves_50
    · have hf := sn_if c_6 hf
      refine lv_aload_n hx hb dX8_leaves_32 rfl (lv_at hl 2 rfl) ?_
      refine sn_getC (r := 54) C hw fd_RX8_68 layC_0 rfl dX8_leaves_33 ?_
      refine sn_getI C hw fd_RX8_274 layC_54 rfl dX8_leaves_36 ?_
      refine lv_goto (tgt := 50) hx hb dX8_leaves_39 (by decide) ?_
      cases hf
      exact kr _ _ _ _ hw rfl dX8_leaves_50
  · have hf := sn_el c_3 hf
    refine lv_iload_n hx hb dX8_leaves_10 rfl (lv_at hl 0 rfl) ?_
    cases hf
    exact kr _ _ _ _ hw rfl dX8_leaves_11
theorem ctX8_leaves (l : Launch) {σ : sn_S} {x1 : Int32}  {o : (Int32 × sn_S)} (hf : fX8_leaves σ x1 = some o) : sn_M l yX8_leaves cX8_leaves 4 (some .int) rmX8_leaves layC (fun ad => [.ref (ad 0), .int x1]) σ (some (fun _ => .int o.1)) o.2 :=
  sn_met (by decide) (fun _ => Nat.le_of_ble_eq_true rfl) (fun p e s m args below meth c ls D ct ad A C hw hl => wX8_leaves_in C  hf (fun H locs ls pc hw ok hd => sn_iret C hw hd) _ _ _ hw hl)
-- X8_lossOf
abbrev rmX8_lossOf : Room := { frames := 5, cells := 0, slots := 0, locals := 113 }
def BX8_lossOf_85 (σ : sn_S) (x1 : Int32) (t0 : Int32) : Option ((Int32 × sn_S)) :=
  (sn_gd (sn_in x1 6) ((fJ6_bitCount_0f7a4 (sn_I σ (38 + 10) x1.toNatClampNeg)).bind fun t_2 => (some ((((3 : Int32) * t_2) + t0), σ))))
def BX8_lossOf_60 (σ : sn_S) (x1 : Int32) (x3 : Int32) : Option ((Int32 × sn_S)) :=
  ((fX0_liveWhole σ 38).bind fun t_1 => (if x3 = (1 : Int32) then
  (BX8_lossOf_85 t_1 x1 ((sn_I t_1 27 0) / (4 : Int32)))
  else
  (BX8_lossOf_85 t_1 x1 (0 : Int32))))
def BX8_lossOf_35 (σ : sn_S) (x1 : Int32) (x2 : Int32) (x3 : Int32) (x4 : Int32) : Option ((Int32 × sn_S)) :=
  (if x4 = (1 : Int32) then
  ((fX8_firstMinutes (sn_I σ 27 0)).bind fun t_2 => (sn_gd (sn_in x2 6) (sn_lt (sn_pI σ (38 + 4) x2.toNatClampNeg t_2) fun σ_5 => (BX8_lossOf_60 σ_5 x1 x3))))
  else
  (BX8_lossOf_60 σ x1 x3))
def fX8_lossOf (σ : sn_S) (x1 : Int32) (x2 : Int32) (x3 : Int32) (x4 : Int32) : Option (Int32 × sn_S) :=
  ((fX0_copyFrom σ 38 27).bind fun t_1 => (if x3 = (1 : Int32) then
  ((fX8_firstMinutes (sn_I t_1 27 0)).bind fun t_4 => (sn_gd (sn_in x1 6) (sn_lt (sn_pI t_1 (38 + 4) x1.toNatClampNeg t_4) fun σ_7 => (BX8_lossOf_35 σ_7 x1 x2 x3 x4))))
  else
  (BX8_lossOf_35 t_1 x1 x2 x3 x4)))
theorem wX8_lossOf_85 (C : sn_C p s m args meth c RX8 cX8_lossOf 6 (some .int) D ct ad layC A) {σ : sn_S} {x1 : Int32} {t0 : Int32}  {o : (Int32 × sn_S)} (hf : BX8_lossOf_85 σ x1 t0 = some o) (kr : sn_Kr p l e rmX8_lossOf s m args below meth c Q D ct ad layC A cX8_lossOf .ireturn (true) o.2 [.int o.1]) : sn_At p l e rmX8_lossOf s m args below meth c Q D ct ad layC A 6 σ 85 [(0, .ref (ad 0)), (1, .int x1)] [.int t0] := by
  intro H locs ls hw hl
  have hx := C.1
  have hb := C.2.1
  unfold BX8_lossOf_85 at hf
  refine lv_istore (lv' := [(5, .int t0), (0, .ref (ad 0)), (1, .int x1)]) hx hb dX8_lossOf_85 hl (by decide) rfl (fun ls hl => ?_)
  refine lv_iconst (v := 3) hx hb dX8_lossOf_87 rfl ?_
  refine lv_aload_n hx hb dX8_lossOf_88 rfl (lv_at hl 1 rfl) ?_
  refine sn_getC (r := 38) C hw fd_RX8_48 layC_0 rfl dX8_lossOf_89 ?_
  refine sn_getC (r := (38 + 10)) C hw fd_RX8_131 (sn_look sn_isX0_38 (k := 0) rfl) rfl dX8_lossOf_92 ?_
  refine lv_iload_n hx hb dX8_lossOf_95 rfl (lv_at hl 2 rfl) ?_
  obtain ⟨g_1, hf⟩ := sn_gdE hf
  refine sn_iald C hw (sn_look sn_isX0_38 (k := 10) rfl) g_1 dX8_lossOf_96 ?_
  obtain ⟨t_2, h_3, hf⟩ := sn_bd hf
  refine sn_callSi (rest := [.int (3 : Int32)]) C hw (ctJ6_bitCount_0f7a4 l  h_3) kl_RX8_165 rfl rfl rfl (Nat.le_of_ble_eq_true rfl) dX8_lossOf_97 hl.1 (fun H locs hw => ?_)
  refine lv_imul hx hb dX8_lossOf_100 ?_
  refine lv_iload hx hb dX8_lossOf_101 (lv_at hl 0 rfl) ?_
  refine lv_iadd hx hb dX8_lossOf_103 ?_
  cases hf
  exact kr _ _ _ _ hw rfl dX8_lossOf_104
theorem wX8_lossOf_60 (C : sn_C p s m args meth c RX8 cX8_lossOf 6 (some .int) D ct ad layC A) {σ : sn_S} {x1 : Int32} {x3 : Int32}  {o : (Int32 × sn_S)} (hf : BX8_lossOf_60 σ x1 x3 = some o) (kr : sn_Kr p l e rmX8_lossOf s m args below meth c Q D ct ad layC A cX8_lossOf .ireturn (true) o.2 [.int o.1]) : sn_At p l e rmX8_lossOf s m args below meth c Q D ct ad layC A 6 σ 60 [(0, .ref (ad 0)), (1, .int x1), (3, .int x3)] [] := by
  intro H locs ls hw hl
  have hx := C.1
  have hb := C.2.1
  unfold BX8_lossOf_60 at hf
  refine lv_aload_n hx hb dX8_lossOf_60 rfl (lv_at hl 0 rfl) ?_
  refine sn_getC (r := 38) C hw fd_RX8_48 layC_0 rfl dX8_lossOf_61 ?_
  obtain ⟨t_1, h_2, hf⟩ := sn_bd hf
  refine sn_callVv (rest := []) C hw (ctX0_liveWhole l sn_isX0_38 h_2) kl_RX8_189 (sn_look sn_isX0_38 (k := 0) rfl) rfl rfl rfl rfl (Nat.le_of_ble_eq_true rfl) dX8_lossOf_64 hl.1 (fun H locs hw => ?_)
  refine lv_iload_n hx hb dX8_lossOf_67 rfl (lv_at hl 2 rfl) ?_
  refine lv_iconst (v := 1) hx hb dX8_lossOf_68 rfl ?_
  refine lv_icmp_ne (tgt := 84) hx hb dX8_lossOf_69 (by decide) (fun c_3 => ?_) (fun c_3 => ?_)
  · have hf := sn_el c_3 hf
    refine lv_iconst (v := 0) hx hb dX8_lossOf_84 rfl ?_
    exact wX8_lossOf_85 C  hf kr _ _ _ hw (lv_sub hl [0, 1] rfl)
  · have hf := sn_if c_3 hf
    refine lv_aload_n hx hb dX8_lossOf_72 rfl (lv_at hl 0 rfl) ?_
    refine sn_getC (r := 27) C hw fd_RX8_44 layC_0 rfl dX8_lossOf_73 ?_
    refine sn_getI C hw fd_RX8_151 (sn_look sn_isX0_27 (k := 0) rfl) rfl dX8_lossOf_76 ?_
    refine lv_iconst (v := 4) hx hb dX8_lossOf_79 rfl ?_
    refine lv_idiv hx hb dX8_lossOf_80 (by decide) ?_
    refine lv_goto (tgt := 85) hx hb dX8_lossOf_81 (by decide) ?_
    exact wX8_lossOf_85 C  hf kr _ _ _ hw (lv_sub hl [0, 1] rfl)
theorem wX8_lossOf_35 (C : sn_C p s m args meth c RX8 cX8_lossOf 6 (some .int) D ct ad layC A) {σ : sn_S} {x1 : Int32} {x2 : Int32} {x3 : Int32} {x4 : Int32}  {o : (Int32 × sn_S)} (hf : BX8_lossOf_35 σ x1 x2 x3 x4 = some o) (kr : sn_Kr p l e rmX8_lossOf s m args below meth c Q D ct ad layC A cX8_lossOf .ireturn (true) o.2 [.int o.1]) : sn_At p l e rmX8_lossOf s m args below meth c Q D ct ad layC A 6 σ 35 [(0, .ref (ad 0)), (1, .int x1), (2, .int x2), (3, .int x3), (4, .int x4)] [] := by
  intro H locs ls hw hl
  have hx := C.1
  have hb := C.2.1
  unfold BX8_lossOf_35 at hf
  refine lv_iload hx hb dX8_lossOf_35 (lv_at hl 4 rfl) ?_
  refine lv_iconst (v := 1) hx hb dX8_lossOf_37 rfl ?_
  refine lv_icmp_ne (tgt := 60) hx hb dX8_lossOf_38 (by decide) (fun c_1 => ?_) (fun c_1 => ?_)
  · have hf := sn_el c_1 hf
    exact wX8_lossOf_60 C  hf kr _ _ _ hw (lv_sub hl [0, 1, 3] rfl)
  · have hf := sn_if c_1 hf
    refine lv_aload_n hx hb dX8_lossOf_41 rfl (lv_at hl 0 rfl) ?_
    refine sn_getC (r := 38) C hw fd_RX8_48 layC_0 rfl dX8_lossOf_42 ?_
    refine sn_getC (r := (38 + 4)) C hw fd_RX8_196 (sn_look sn_isX0_38 (k := 0) rfl) rfl dX8_lossOf_45 ?_
    refine lv_iload_n hx hb dX8_lossOf_48 rfl (lv_at hl 2 rfl) ?_
    refine lv_aload_n hx hb dX8_lossOf_49 rfl (lv_at hl 0 rfl) ?_
    refine sn_getC (r := 27) C hw fd_RX8_44 layC_0 rfl dX8_lossOf_50 ?_
    refine sn_getI C hw fd_RX8_151 (sn_look sn_isX0_27 (k := 0) rfl) rfl dX8_lossOf_53 ?_
    obtain ⟨t_2, h_3, hf⟩ := sn_bd hf
    refine sn_callSi (rest := [.int x2, .ref (ad (38 + 4))]) C hw (ctX8_firstMinutes l  h_3) kl_RX8_174 rfl rfl rfl (Nat.le_of_ble_eq_true rfl) dX8_lossOf_56 hl.1 (fun H locs hw => ?_)
    obtain ⟨g_4, hf⟩ := sn_gdE hf
    refine sn_iast C hw (sn_look sn_isX0_38 (k := 4) rfl) g_4 dX8_lossOf_59 (fun H locs hw => ?_)
    obtain ⟨σ_5, e_6, hf⟩ := sn_ltE hf
    rw [← e_6] at hw
    exact wX8_lossOf_60 C  hf kr _ _ _ hw (lv_sub hl [0, 1, 3] rfl)
theorem wX8_lossOf_in (C : sn_C p s m args meth c RX8 cX8_lossOf 6 (some .int) D ct ad layC A) {σ : sn_S} {x1 : Int32} {x2 : Int32} {x3 : Int32} {x4 : Int32}  {o : (Int32 × sn_S)} (hf : fX8_lossOf σ x1 x2 x3 x4 = some o) (kr : sn_Kr p l e rmX8_lossOf s m args below meth c Q D ct ad layC A cX8_lossOf .ireturn (true) o.2 [.int o.1]) : sn_At p l e rmX8_lossOf s m args below meth c Q D ct ad layC A 6 σ 0 [(0, .ref (ad 0)), (1, .int x1), (2, .int x2), (3, .int x3), (4, .int x4)] [] := by
  intro H locs ls hw hl
  have hx := C.1
  have hb := C.2.1
  unfold fX8_lossOf at hf
  refine lv_aload_n hx hb dX8_lossOf_0 rfl (lv_at hl 0 rfl) ?_
  refine sn_getC (r := 38) C hw fd_RX8_48 layC_0 rfl dX8_lossOf_1 ?_
  refine lv_aload_n hx hb dX8_lossOf_4 rfl (lv_at hl 0 rfl) ?_
  refine sn_getC (r := 27) C hw fd_RX8_44 layC_0 rfl dX8_lossOf_5 ?_
  obtain ⟨t_1, h_2, hf⟩ := sn_bd hf
  refine sn_callVv (rest := []) C hw (ctX0_copyFrom l sn_isX0_38 sn_isX0_27 h_2) kl_RX8_183 (sn_look sn_isX0_38 (k := 0) rfl) rfl rfl rfl rfl (Nat.le_of_ble_eq_true rfl) dX8_lossOf_8 hl.1 (fun H locs hw => ?_)
  refine lv_iload_n hx hb dX8_lossOf_11 rfl (lv_at hl 3 rfl) ?_
  refine lv_iconst (v := 1) hx hb dX8_lossOf_12 rfl ?_
  refine lv_icmp_ne (tgt := 35) hx hb dX8_lossOf_13 (by decide) (fun c_3 => ?_) (fun c_3 => ?_)
  · have hf := sn_el c_3 hf
    exact wX8_lossOf_35 C  hf kr _ _ _ hw (lv_sub hl [0, 1, 2, 3, 4] rfl)
  · have hf := sn_if c_3 hf
    refine lv_aload_n hx hb dX8_lossOf_16 rfl (lv_at hl 0 rfl) ?_
    refine sn_getC (r := 38) C hw fd_RX8_48 layC_0 rfl dX8_lossOf_17 ?_
    refine sn_getC (r := (38 + 4)) C hw fd_RX8_196 (sn_look sn_isX0_38 (k := 0) rfl) rfl dX8_lossOf_20 ?_
    refine lv_iload_n hx hb dX8_lossOf_23 rfl (lv_at hl 1 rfl) ?_
    refine lv_aload_n hx hb dX8_lossOf_24 rfl (lv_at hl 0 rfl) ?_
    refine sn_getC (r := 27) C hw fd_RX8_44 layC_0 rfl dX8_lossOf_25 ?_
    refine sn_getI C hw fd_RX8_151 (sn_look sn_isX0_27 (k := 0) rfl) rfl dX8_lossOf_28 ?_
    obtain ⟨t_4, h_5, hf⟩ := sn_bd hf
    refine sn_callSi (rest := [.int x1, .ref (ad (38 + 4))]) C hw (ctX8_firstMinutes l  h_5) kl_RX8_174 rfl rfl rfl (Nat.le_of_ble_eq_true rfl) dX8_lossOf_31 hl.1 (fun H locs hw => ?_)
    obtain ⟨g_6, hf⟩ := sn_gdE hf
    refine sn_iast C hw (sn_look sn_isX0_38 (k := 4) rfl) g_6 dX8_lossOf_34 (fun H locs hw => ?_)
    obtain ⟨σ_7, e_8, hf⟩ := sn_ltE hf
    rw [← e_8] at hw
    exact wX8_lossOf_35 C  hf kr _ _ _ hw (lv_sub hl [0, 1, 2, 3, 4] rfl)
theorem ctX8_lossOf (l : Launch) {σ : sn_S} {x1 : Int32} {x2 : Int32} {x3 : Int32} {x4 : Int32}  {o : (Int32 × sn_S)} (hf : fX8_lossOf σ x1 x2 x3 x4 = some o) : sn_M l yX8_lossOf cX8_lossOf 6 (some .int) rmX8_lossOf layC (fun ad => [.ref (ad 0), .int x1, .int x2, .int x3, .int x4]) σ (some (fun _ => .int o.1)) o.2 :=
  sn_met (by decide) (fun _ => Nat.le_of_ble_eq_true rfl) (fun p e s m args below meth c ls D ct ad A C hw hl => wX8_lossOf_in C  hf (fun H locs ls pc hw ok hd => sn_iret C hw hd) _ _ _ hw hl)
end
end
section
section
variable {p : Program} {l : Launch} {e : Env} {s : State} {m : MethodId} {args : Array Value} {below : List Frame} {meth : Method} {c : Code} {Q : State → Prop} {D : va_G} {ct : Nat → ClassId} {ad : Nat → Nat} {A : Nat → Prop} {lay : List sn_E}
-- X8_rests
abbrev rmX8_rests : Room := { frames := 6, cells := 0, slots := 0, locals := 138 }
def BX8_rests_130 (σ : sn_S) (x3 : Int32) : Option ((Int32 × sn_S)) :=
  (some (x3, σ))
def BX8_rests_124 (σ : sn_S) (x1 : Int32) (x2 : Int32) (x3 : Int32) (x4 : Int32) : Option ((sn_S × Int32 × Int32) ⊕ (sn_S × Int32)) :=
  (sn_lt (x4 + 1) fun y_1 => (some (.inl (σ, x3, y_1))))
def BX8_rests_118 (σ : sn_S) (x1 : Int32) (x2 : Int32) (x3 : Int32) (x4 : Int32) (x5 : Int32) : Option ((sn_S × Int32 × Int32) ⊕ (sn_S × Int32)) :=
  (sn_lt (x5 + 1) fun y_1 => (some (.inl (σ, x3, y_1))))
def BX8_rests_74 (σ : sn_S) (x1 : Int32) (x2 : Int32) (x3 : Int32) (x4 : Int32) (x5 : Int32) (t0 : Int32) : Option ((sn_S × Int32 × Int32) ⊕ (sn_S × Int32)) :=
  (if t0 = 0 then
  (BX8_rests_118 σ x1 x2 x3 x4 x5)
  else
  ((fX8_lossOf σ x2 x1 x5 x4).bind fun t_2 => ((fX8_lossOf t_2.2 x2 x1 ((1 : Int32) - x5) x4).bind fun t_4 => (if t_4.1 < t_2.1 then
  (BX8_rests_118 t_4.2 x1 x2 x3 x4 x5)
  else
  (sn_lt (x3 ||| ((1 : Int32) <<< ((x4 + ((2 : Int32) * x5)) &&& 31))) fun y_7 => (BX8_rests_118 t_4.2 x1 x2 y_7 x4 x5))))))
def BX8_rests_38 (σ : sn_S) (x1 : Int32) (x2 : Int32) (x3 : Int32) (x4 : Int32) (x5 : Int32) : Option ((sn_S × Int32 × Int32) ⊕ (sn_S × Int32)) :=
  (if (2 : Int32) ≤ x5 then
  (some (.inr (σ, x3)))
  else
  ((fX8_lossOf σ x1 x2 x4 x5).bind fun t_2 => ((fX8_lossOf t_2.2 x1 x2 ((1 : Int32) - x4) x5).bind fun t_4 => (if t_4.1 < t_2.1 then
  (BX8_rests_74 t_4.2 x1 x2 x3 x4 x5 (0 : Int32))
  else
  (BX8_rests_74 t_4.2 x1 x2 x3 x4 x5 (1 : Int32))))))
def LX8_rests_38 (x1 : Int32) (x2 : Int32) (x4 : Int32) (s : sn_S × Int32 × Int32) : Option ((sn_S × Int32 × Int32) ⊕ (sn_S × Int32)) := BX8_rests_38 s.1 x1 x2 s.2.1 x4 s.2.2
def BX8_rests_29 (σ : sn_S) (x1 : Int32) (x2 : Int32) (x3 : Int32) (x4 : Int32) : Option ((sn_S × Int32 × Int32) ⊕ (sn_S × Int32)) :=
  (if (2 : Int32) ≤ x4 then
  (some (.inr (σ, x3)))
  else
  ((sn_it (LX8_rests_38 x1 x2 x4) 5000 (σ, x3, (0 : Int32))).bind fun t_2 => (BX8_rests_124 t_2.1 x1 x2 t_2.2 x4)))
def LX8_rests_29 (x1 : Int32) (x2 : Int32) (s : sn_S × Int32 × Int32) : Option ((sn_S × Int32 × Int32) ⊕ (sn_S × Int32)) := BX8_rests_29 s.1 x1 x2 s.2.1 s.2.2
def fX8_rests (σ : sn_S) (x1 : Int32) (x2 : Int32) : Option (Int32 × sn_S) :=
  ((fX8_isPerson σ x1).bind fun t_1 => (if t_1 = 0 then
  (some ((-2 : Int32), σ))
  else
  ((fX8_isPerson σ x2).bind fun t_4 => (if t_4 = 0 then
  (some ((-2 : Int32), σ))
  else
  (if x1 = x2 then
  (some ((-2 : Int32), σ))
  else
  ((sn_it (LX8_rests_29 x1 x2) 5000 (σ, (0 : Int32), (0 : Int32))).bind fun t_8 => (BX8_rests_130 t_8.1 t_8.2)))))))
theorem wX8_rests_130 (C : sn_C p s m args meth c RX8 cX8_rests 7 (some .int) D ct ad layC A) {σ : sn_S} {x3 : Int32}  {o : (Int32 × sn_S)} (hf : BX8_rests_130 σ x3 = some o) (kr : sn_Kr p l e rmX8_rests s m args below meth c Q D ct ad layC A cX8_rests .ireturn (true) o.2 [.int o.1]) : sn_At p l e rmX8_rests s m args below meth c Q D ct ad layC A 7 σ 130 [(3, .int x3)] [] := by
  intro H locs ls hw hl
  have hx := C.1
  have hb := C.2.1
  unfold BX8_rests_130 at hf
  refine lv_iload_n hx hb dX8_rests_130 rfl (lv_at hl 0 rfl) ?_
  cases hf
  exact kr _ _ _ _ hw rfl dX8_rests_131
theorem wX8_rests_124 (C : sn_C p s m args meth c RX8 cX8_rests 7 (some .int) D ct ad layC A) {σ : sn_S} {x1 : Int32} {x2 : Int32} {x3 : Int32} {x4 : Int32}  {o : (sn_S × Int32 × Int32) ⊕ (sn_S × Int32)} (hf : BX8_rests_124 σ x1 x2 x3 x4 = some o) (kc : ∀ v, o = .inl v → sn_At p l e rmX8_rests s m args below meth c Q D ct ad layC A 7 v.1 29 [(0, .ref (ad 0)), (1, .int x1), (2, .int x2), (3, .int v.2.1), (4, .int v.2.2)] []) (kx : ∀ v, o = .inr v → sn_At p l e rmX8_rests s m args below meth c Q D ct ad layC A 7 v.1 130 [(3, .int v.2)] []) : sn_At p l e rmX8_rests s m args below meth c Q D ct ad layC A 7 σ 124 [(0, .ref (ad 0)), (1, .int x1), (2, .int x2), (3, .int x3), (4, .int x4)] [] := by
  intro H locs ls hw hl
  have hx := C.1
  have hb := C.2.1
  unfold BX8_rests_124 at hf
  obtain ⟨y_1, e_2, hf⟩ := sn_ltE hf
  refine lv_iinc (v := y_1) (lv' := [(4, .int y_1), (0, .ref (ad 0)), (1, .int x1), (2, .int x2), (3, .int x3)]) hx hb dX8_rests_124 hl (k := 4) rfl (by rw [e_2]; rfl) (by decide) rfl (fun ls hl => ?_)
  refine lv_goto (tgt := 29) hx hb dX8_rests_127 (by decide) ?_
  cases hf
  exact kc _ rfl _ _ _ hw (lv_sub hl [1, 2, 3, 4, 0] rfl)
theorem wX8_rests_118 (C : sn_C p s m args meth c RX8 cX8_rests 7 (some .int) D ct ad layC A) {σ : sn_S} {x1 : Int32} {x2 : Int32} {x3 : Int32} {x4 : Int32} {x5 : Int32}  {o : (sn_S × Int32 × Int32) ⊕ (sn_S × Int32)} (hf : BX8_rests_118 σ x1 x2 x3 x4 x5 = some o) (kc : ∀ v, o = .inl v → sn_At p l e rmX8_rests s m args below meth c Q D ct ad layC A 7 v.1 38 [(0, .ref (ad 0)), (1, .int x1), (2, .int x2), (3, .int v.2.1), (4, .int x4), (5, .int v.2.2)] []) (kx : ∀ v, o = .inr v → sn_At p l e rmX8_rests s m args below meth c Q D ct ad layC A 7 v.1 124 [(0, .ref (ad 0)), (1, .int x1), (2, .int x2), (3, .int v.2), (4, .int x4)] []) : sn_At p l e rmX8_rests s m args below meth c Q D ct ad layC A 7 σ 118 [(0, .ref (ad 0)), (1, .int x1), (2, .int x2), (3, .int x3), (4, .int x4), (5, .int x5)] [] := by
  intro H locs ls hw hl
  have hx := C.1
  have hb := C.2.1
  unfold BX8_rests_118 at hf
  obtain ⟨y_1, e_2, hf⟩ := sn_ltE hf
  refine lv_iinc (v := y_1) (lv' := [(5, .int y_1), (0, .ref (ad 0)), (1, .int x1), (2, .int x2), (3, .int x3), (4, .int x4)]) hx hb dX8_rests_118 hl (k := 5) rfl (by rw [e_2]; rfl) (by decide) rfl (fun ls hl => ?_)
  refine lv_goto (tgt := 38) hx hb dX8_rests_121 (by decide) ?_
  cases hf
  exact kc _ rfl _ _ _ hw (lv_sub hl [1, 2, 3, 4, 5, 0] rfl)
theorem wX8_rests_74 (C : sn_C p s m args meth c RX8 cX8_rests 7 (some .int) D ct ad layC A) {σ : sn_S} {x1 : Int32} {x2 : Int32} {x3 : Int32} {x4 : Int32} {x5 : Int32} {t0 : Int32}  {o : (sn_S × Int32 × Int32) ⊕ (sn_S × Int32)} (hf : BX8_rests_74 σ x1 x2 x3 x4 x5 t0 = some o) (kc : ∀ v, o = .inl v → sn_At p l e rmX8_rests s m args below meth c Q D ct ad layC A 7 v.1 38 [(0, .ref (ad 0)), (1, .int x1), (2, .int x2), (3, .int v.2.1), (4, .int x4), (5, .int v.2.2)] []) (kx : ∀ v, o = .inr v → sn_At p l e rmX8_rests s m args below meth c Q D ct ad layC A 7 v.1 124 [(0, .ref (ad 0)), (1, .int x1), (2, .int x2), (3, .int v.2), (4, .int x4)] []) : sn_At p l e rmX8_rests s m args below meth c Q D ct ad layC A 7 σ 74 [(0, .ref (ad 0)), (1, .int x1), (2, .int x2), (3, .int x3), (4, .int x4), (5, .int x5)] [.int t0] := by
  intro H locs ls hw hl
  have hx := C.1
  have hb := C.2.1
  unfold BX8_rests_74 at hf
  refine lv_istore (lv' := [(6, .int t0), (0, .ref (ad 0)), (1, .int x1), (2, .int x2), (3, .int x3), (4, .int x4), (5, .int x5)]) hx hb dX8_rests_74 hl (by decide) rfl (fun ls hl => ?_)
  refine lv_iload hx hb dX8_rests_76 (lv_at hl 0 rfl) ?_
  refine lv_if_eq (tgt := 118) hx hb dX8_rests_78 (by decide) (fun c_1 => ?_) (fun c_1 => ?_)
  · have hf := sn_if c_1 hf
    exact wX8_rests_118 C  hf kc kx _ _ _ hw (lv_sub hl [1, 2, 3, 4, 5, 6] rfl)
  · have hf := sn_el c_1 hf
    refine lv_aload_n hx hb dX8_rests_81 rfl (lv_at hl 1 rfl) ?_
    refine lv_iload_n hx hb dX8_rests_82 rfl (lv_at hl 3 rfl) ?_
    refine lv_iload_n hx hb dX8_rests_83 rfl (lv_at hl 2 rfl) ?_
    refine lv_iload hx hb dX8_rests_84 (lv_at hl 6 rfl) ?_
    refine lv_iload hx hb dX8_rests_86 (lv_at hl 5 rfl) ?_
    obtain ⟨t_2, h_3, hf⟩ := sn_bd hf
    refine sn_callVi (rest := []) C hw (ctX8_lossOf l  h_3) kl_RX8_310 layC_0 rfl rfl rfl rfl (Nat.le_of_ble_eq_true rfl) dX8_rests_88 hl.1 (fun H locs hw => ?_)
    refine lv_aload_n hx hb dX8_rests_91 rfl (lv_at hl 1 rfl) ?_
    refine lv_iload_n hx hb dX8_rests_92 rfl (lv_at hl 3 rfl) ?_
    refine lv_iload_n hx hb dX8_rests_93 rfl (lv_at hl 2 rfl) ?_
    refine lv_iconst (v := 1) hx hb dX8_rests_94 rfl ?_
    refine lv_iload hx hb dX8_rests_95 (lv_at hl 6 rfl) ?_
    refine lv_isub hx hb dX8_rests_97 ?_
    refine lv_iload hx hb dX8_rests_98 (lv_at hl 5 rfl) ?_
    obtain ⟨t_4, h_5, hf⟩ := sn_bd hf
    refine sn_callVi (rest := [.int t_2.1]) C hw (ctX8_lossOf l  h_5) kl_RX8_310 layC_0 rfl rfl rfl rfl (Nat.le_of_ble_eq_true rfl) dX8_rests_100 hl.1 (fun H locs hw => ?_)
    refine lv_icmp_gt (tgt := 118) hx hb dX8_rests_103 (by decide) (fun c_6 => ?_) (fun c_6 => ?_)
    · have hf := sn_if c_6 hf
      exact wX8_rests_118 C  hf kc kx _ _ _ hw (lv_sub hl [1, 2, 3, 4, 5, 6] rfl)
    · have hf := sn_el c_6 hf
      refine lv_iload_n hx hb dX8_rests_106 rfl (lv_at hl 4 rfl) ?_
      refine lv_iconst (v := 1) hx hb dX8_rests_107 rfl ?_
      refine lv_iload hx hb dX8_rests_108 (lv_at hl 5 rfl) ?_
      refine lv_iconst (v := 2) hx hb dX8_rests_110 rfl ?_
      refine lv_iload hx hb dX8_rests_111 (lv_at hl 6 rfl) ?_
      refine lv_imul hx hb dX8_rests_113 ?_
      refine lv_iadd hx hb dX8_rests_114 ?_
      refine lv_ishl hx hb dX8_rests_115 ?_
      refine lv_ior hx hb dX8_rests_116 ?_
      obtain ⟨y_7, e_8, hf⟩ := sn_ltE hf
      refine lv_topi (fun y_7_ e_8_ => ?_)
      obtain rfl : y_7 = y_7_ := e_8.trans e_8_.symm
      refine lv_istore_n (lv' := [(3, .int y_7), (6, .int t0), (0, .ref (ad 0)), (1, .int x1), (2, .int x2), (4, .int x4), (5, .int x5)]) hx hb dX8_rests_117 rfl hl (by decide) rfl (fun ls hl => ?_)
      exact wX8_rests_118 C  hf kc kx _ _ _ hw (lv_sub hl [2, 3, 4, 0, 5, 6] rfl)
theorem wX8_rests_38 (C : sn_C p s m args meth c RX8 cX8_rests 7 (some .int) D ct ad layC A) {σ : sn_S} {x1 : Int32} {x2 : Int32} {x3 : Int32} {x4 : Int32} {x5 : Int32}  {o : (sn_S × Int32 × Int32) ⊕ (sn_S × Int32)} (hf : BX8_rests_38 σ x1 x2 x3 x4 x5 = some o) (kc : ∀ v, o = .inl v → sn_At p l e rmX8_rests s m args below meth c Q D ct ad layC A 7 v.1 38 [(0, .ref (ad 0)), (1, .int x1), (2, .int x2), (3, .int v.2.1), (4, .int x4), (5, .int v.2.2)] []) (kx : ∀ v, o = .inr v → sn_At p l e rmX8_rests s m args below meth c Q D ct ad layC A 7 v.1 124 [(0, .ref (ad 0)), (1, .int x1), (2, .int x2), (3, .int v.2), (4, .int x4)] []) : sn_At p l e rmX8_rests s m args below meth c Q D ct ad layC A 7 σ 38 [(0, .ref (ad 0)), (1, .int x1), (2, .int x2), (3, .int x3), (4, .int x4), (5, .int x5)] [] := by
  intro H locs ls hw hl
  have hx := C.1
  have hb := C.2.1
  unfold BX8_rests_38 at hf
  refine lv_iload hx hb dX8_rests_38 (lv_at hl 5 rfl) ?_
  refine lv_iconst (v := 2) hx hb dX8_rests_40 rfl ?_
  refine lv_icmp_ge (tgt := 124) hx hb dX8_rests_41 (by decide) (fun c_1 => ?_) (fun c_1 => ?_)
  · have hf := sn_if c_1 hf
    cases hf
    exact kx _ rfl _ _ _ hw (lv_sub hl [0, 1, 2, 3, 4] rfl)
  · have hf := sn_el c_1 hf
    refine lv_aload_n hx hb dX8_rests_44 rfl (lv_at hl 0 rfl) ?_
    refine lv_iload_n hx hb dX8_rests_45 rfl (lv_at hl 1 rfl) ?_
    refine lv_iload_n hx hb dX8_rests_46 rfl (lv_at hl 2 rfl) ?_
    refine lv_iload hx hb dX8_rests_47 (lv_at hl 4 rfl) ?_
    refine lv_iload hx hb dX8_rests_49 (lv_at hl 5 rfl) ?_
    obtain ⟨t_2, h_3, hf⟩ := sn_bd hf
    refine sn_callVi (rest := []) C hw (ctX8_lossOf l  h_3) kl_RX8_310 layC_0 rfl rfl rfl rfl (Nat.le_of_ble_eq_true rfl) dX8_rests_51 hl.1 (fun H locs hw => ?_)
    refine lv_aload_n hx hb dX8_rests_54 rfl (lv_at hl 0 rfl) ?_
    refine lv_iload_n hx hb dX8_rests_55 rfl (lv_at hl 1 rfl) ?_
    refine lv_iload_n hx hb dX8_rests_56 rfl (lv_at hl 2 rfl) ?_
    refine lv_iconst (v := 1) hx hb dX8_rests_57 rfl ?_
    refine lv_iload hx hb dX8_rests_58 (lv_at hl 4 rfl) ?_
    refine lv_isub hx hb dX8_rests_60 ?_
    refine lv_iload hx hb dX8_rests_61 (lv_at hl 5 rfl) ?_
    obtain ⟨t_4, h_5, hf⟩ := sn_bd hf
    refine sn_callVi (rest := [.int t_2.1]) C hw (ctX8_lossOf l  h_5) kl_RX8_310 layC_0 rfl rfl rfl rfl (Nat.le_of_ble_eq_true rfl) dX8_rests_63 hl.1 (fun H locs hw => ?_)
    refine lv_icmp_gt (tgt := 73) hx hb dX8_rests_66 (by decide) (fun c_6 => ?_) (fun c_6 => ?_)
    · have hf := sn_if c_6 hf
      refine lv_iconst (v := 0) hx hb dX8_rests_73 rfl ?_
      exact wX8_rests_74 C  hf kc kx _ _ _ hw (lv_sub hl [0, 1, 2, 3, 4, 5] rfl)
    · have hf := sn_el c_6 hf
      refine lv_iconst (v := 1) hx hb dX8_rests_69 rfl ?_
      refine lv_goto (tgt := 74) hx hb dX8_rests_70 (by decide) ?_
      exact wX8_rests_74 C  hf kc kx _ _ _ hw (lv_sub hl [0, 1, 2, 3, 4, 5] rfl)
theorem wX8_rests_L38 (C : sn_C p s m args meth c RX8 cX8_rests 7 (some .int) D ct ad layC A) {x1 : Int32} {x2 : Int32} {x4 : Int32}   {z : sn_S × Int32 × Int32} {t : sn_S × Int32} (h : sn_it (LX8_rests_38 x1 x2 x4) 5000 z = some t) (kx : ∀ v, t = v → sn_At p l e rmX8_rests s m args below meth c Q D ct ad layC A 7 v.1 124 [(0, .ref (ad 0)), (1, .int x1), (2, .int x2), (3, .int v.2), (4, .int x4)] []) : sn_At p l e rmX8_rests s m args below meth c Q D ct ad layC A 7 z.1 38 [(0, .ref (ad 0)), (1, .int x1), (2, .int x2), (3, .int z.2.1), (4, .int x4), (5, .int z.2.2)] [] :=
  sn_loop (f := LX8_rests_38 x1 x2 x4) (G := fun z => sn_At p l e rmX8_rests s m args below meth c Q D ct ad layC A 7 z.1 38 [(0, .ref (ad 0)), (1, .int x1), (2, .int x2), (3, .int z.2.1), (4, .int x4), (5, .int z.2.2)] []) (E := fun t => (∀ v, t = v → sn_At p l e rmX8_rests s m args below meth c Q D ct ad layC A 7 v.1 124 [(0, .ref (ad 0)), (1, .int x1), (2, .int x2), (3, .int v.2), (4, .int x4)] []) ∧ True) (fun z o hf k1 k2 => wX8_rests_38 C  hf (fun v e => k1 v e) (fun v e => (k2 _ e).1 v rfl)) 5000 z t h ⟨kx, trivial⟩
theorem wX8_rests_29 (C : sn_C p s m args meth c RX8 cX8_rests 7 (some .int) D ct ad layC A) {σ : sn_S} {x1 : Int32} {x2 : Int32} {x3 : Int32} {x4 : Int32}  {o : (sn_S × Int32 × Int32) ⊕ (sn_S × Int32)} (hf : BX8_rests_29 σ x1 x2 x3 x4 = some o) (kc : ∀ v, o = .inl v → sn_At p l e rmX8_rests s m args below meth c Q D ct ad layC A 7 v.1 29 [(0, .ref (ad 0)), (1, .int x1), (2, .int x2), (3, .int v.2.1), (4, .int v.2.2)] []) (kx : ∀ v, o = .inr v → sn_At p l e rmX8_rests s m args below meth c Q D ct ad layC A 7 v.1 130 [(3, .int v.2)] []) : sn_At p l e rmX8_rests s m args below meth c Q D ct ad layC A 7 σ 29 [(0, .ref (ad 0)), (1, .int x1), (2, .int x2), (3, .int x3), (4, .int x4)] [] := by
  intro H locs ls hw hl
  have hx := C.1
  have hb := C.2.1
  unfold BX8_rests_29 at hf
  refine lv_iload hx hb dX8_rests_29 (lv_at hl 4 rfl) ?_
  refine lv_iconst (v := 2) hx hb dX8_rests_31 rfl ?_
  refine lv_icmp_ge (tgt := 130) hx hb dX8_rests_32 (by decide) (fun c_1 => ?_) (fun c_1 => ?_)
  · have hf := sn_if c_1 hf
    cases hf
    exact kx _ rfl _ _ _ hw (lv_sub hl [3] rfl)
  · have hf := sn_el c_1 hf
    refine lv_iconst (v := 0) hx hb dX8_rests_35 rfl ?_
    refine lv_istore (lv' := [(5, .int (0 : Int32)), (0, .ref (ad 0)), (1, .int x1), (2, .int x2), (3, .int x3), (4, .int x4)]) hx hb dX8_rests_36 hl (by decide) rfl (fun ls hl => ?_)
    obtain ⟨t_2, h_3, hf⟩ := sn_bd hf
    exact wX8_rests_L38 C  h_3 (fun v e => by cases e; exact wX8_rests_124 C  hf kc kx) _ _ _ hw (lv_sub hl [1, 2, 3, 4, 5, 0] rfl)
theorem wX8_rests_L29 (C : sn_C p s m args meth c RX8 cX8_rests 7 (some .int) D ct ad layC A) {x1 : Int32} {x2 : Int32}   {z : sn_S × Int32 × Int32} {t : sn_S × Int32} (h : sn_it (LX8_rests_29 x1 x2) 5000 z = some t) (kx : ∀ v, t = v → sn_At p l e rmX8_rests s m args below meth c Q D ct ad layC A 7 v.1 130 [(3, .int v.2)] []) : sn_At p l e rmX8_rests s m args below meth c Q D ct ad layC A 7 z.1 29 [(0, .ref (ad 0)), (1, .int x1), (2, .int x2), (3, .int z.2.1), (4, .int z.2.2)] [] :=
  sn_loop (f := LX8_rests_29 x1 x2) (G := fun z => sn_At p l e rmX8_rests s m args below meth c Q D ct ad layC A 7 z.1 29 [(0, .ref (ad 0)), (1, .int x1), (2, .int x2), (3, .int z.2.1), (4, .int z.2.2)] []) (E := fun t => (∀ v, t = v → sn_At p l e rmX8_rests s m args below meth c Q D ct ad layC A 7 v.1 130 [(3, .int v.2)] []) ∧ True) (fun z o hf k1 k2 => wX8_rests_29 C  hf (fun v e => k1 v e) (fun v e => (k2 _ e).1 v rfl)) 5000 z t h ⟨kx, trivial⟩
theorem wX8_rests_in (C : sn_C p s m args meth c RX8 cX8_rests 7 (some .int) D ct ad layC A) {σ : sn_S} {x1 : Int32} {x2 : Int32}  {o : (Int32 × sn_S)} (hf : fX8_rests σ x1 x2 = some o) (kr : sn_Kr p l e rmX8_rests s m args below meth c Q D ct ad layC A cX8_rests .ireturn (true) o.2 [.int o.1]) : sn_At p l e rmX8_rests s m args below meth c Q D ct ad layC A 7 σ 0 [(0, .ref (ad 0)), (1, .int x1), (2, .int x2)] [] := by
  intro H locs ls hw hl
  have hx := C.1
  have hb := C.2.1
  unfold fX8_rests at hf
  refine lv_aload_n hx hb dX8_rests_0 rfl (lv_at hl 0 rfl) ?_
  refine lv_iload_n hx hb dX8_rests_1 rfl (lv_at hl 1 rfl) ?_
  obtain ⟨t_1, h_2, hf⟩ := sn_bd hf
  refine sn_callVi (rest := []) C hw (ctX8_isPerson l  h_2) kl_RX8_107 layC_0 rfl rfl rfl rfl (Nat.le_of_ble_eq_true rfl) dX8_rests_2 hl.1 (fun H locs hw => ?_)
  refine lv_if_eq (tgt := 21) hx hb dX8_rests_5 (by decide) (fun c_3 => ?_) (fun c_3 => ?_)
  · have hf := sn_if c_3 hf
    refine lv_bipush (v := (-2)) hx hb dX8_rests_21 (by decide) ?_
    cases hf
    exact kr _ _ _ _ hw rfl dX8_rests_23
  · have hf := sn_el c_3 hf
    refine lv_aload_n hx hb dX8_rests_8 rfl (lv_at hl 0 rfl) ?_
    refine lv_iload_n hx hb dX8_rests_9 rfl (lv_at hl 2 rfl) ?_
    obtain ⟨t_4, h_5, hf⟩ := sn_bd hf
    refine sn_callVi (rest := []) C hw (ctX8_isPerson l  h_5) kl_RX8_107 layC_0 rfl rfl rfl rfl (Nat.le_of_ble_eq_true rfl) dX8_rests_10 hl.1 (fun H locs hw => ?_)
    refine lv_if_eq (tgt := 21) hx hb dX8_rests_13 (by decide) (fun c_6 => ?_) (fun c_6 => ?_)
    · have hf := sn_if c_6 hf
      refine lv_bipush (v := (-2)) hx hb dX8_rests_21 (by decide) ?_
      cases hf
      exact kr _ _ _ _ hw rfl dX8_rests_23
    · have hf := sn_el c_6 hf
      refine lv_iload_n hx hb dX8_rests_16 rfl (lv_at hl 1 rfl) ?_
      refine lv_iload_n hx hb dX8_rests_17 rfl (lv_at hl 2 rfl) ?_
      refine lv_icmp_ne (tgt := 24) hx hb dX8_rests_18 (by decide) (fun c_7 => ?_) (fun c_7 => ?_)
      · have hf := sn_el c_7 hf
        refine lv_iconst (v := 0) hx hb dX8_rests_24 rfl ?_
        refine lv_istore_n (lv' := [(3, .int (0 : Int32)), (0, .ref (ad 0)), (1, .int x1), (2, .int x2)]) hx hb dX8_rests_25 rfl hl (by decide) rfl (fun ls hl => ?_)
        refine lv_iconst (v := 0) hx hb dX8_rests_26 rfl ?_
        refine lv_istore (lv' := [(4, .int (0 : Int32)), (3, .int (0 : Int32)), (0, .ref (ad 0)), (1, .int x1), (2, .int x2)]) hx hb dX8_rests_27 hl (by decide) rfl (fun ls hl => ?_)
        obtain ⟨t_8, h_9, hf⟩ := sn_bd hf
        exact wX8_rests_L29 C  h_9 (fun v e => by cases e; exact wX8_rests_130 C  hf kr) _ _ _ hw (lv_sub hl [2, 3, 4, 1, 0] rfl)
      · have hf := sn_if c_7 hf
        refine lv_bipush (v := (-2)) hx hb dX8_rests_21 (by decide) ?_
        cases hf
        exact kr _ _ _ _ hw rfl dX8_rests_23
theorem ctX8_rests (l : Launch) {σ : sn_S} {x1 : Int32} {x2 : Int32}  {o : (Int32 × sn_S)} (hf : fX8_rests σ x1 x2 = some o) : sn_M l yX8_rests cX8_rests 7 (some .int) rmX8_rests layC (fun ad => [.ref (ad 0), .int x1, .int x2]) σ (some (fun _ => .int o.1)) o.2 :=
  sn_met (by decide) (fun _ => Nat.le_of_ble_eq_true rfl) (fun p e s m args below meth c ls D ct ad A C hw hl => wX8_rests_in C  hf (fun H locs ls pc hw ok hd => sn_iret C hw hd) _ _ _ hw hl)
-- X8_loses
abbrev rmX8_loses : Room := { frames := 6, cells := 0, slots := 0, locals := 138 }
def fX8_loses (σ : sn_S) (x1 : Int32) (x2 : Int32) (x3 : Int32) (x4 : Int32) : Option (Int32 × sn_S) :=
  ((fX8_isPerson σ x1).bind fun t_1 => (if t_1 = 0 then
  (some ((-2 : Int32), σ))
  else
  ((fX8_isPerson σ x2).bind fun t_4 => (if t_4 = 0 then
  (some ((-2 : Int32), σ))
  else
  (if x1 = x2 then
  (some ((-2 : Int32), σ))
  else
  (if x3 < 0 then
  (some ((-2 : Int32), σ))
  else
  (if (1 : Int32) < x3 then
  (some ((-2 : Int32), σ))
  else
  (if x4 < 0 then
  (some ((-2 : Int32), σ))
  else
  (if x4 ≤ (1 : Int32) then
  ((fX8_lossOf σ x1 x2 x3 x4).bind fun t_12 => (some (t_12.1, t_12.2)))
  else
  (some ((-2 : Int32), σ)))))))))))
theorem wX8_loses_in (C : sn_C p s m args meth c RX8 cX8_loses 5 (some .int) D ct ad layC A) {σ : sn_S} {x1 : Int32} {x2 : Int32} {x3 : Int32} {x4 : Int32}  {o : (Int32 × sn_S)} (hf : fX8_loses σ x1 x2 x3 x4 = some o) (kr : sn_Kr p l e rmX8_loses s m args below meth c Q D ct ad layC A cX8_loses .ireturn (true) o.2 [.int o.1]) : sn_At p l e rmX8_loses s m args below meth c Q D ct ad layC A 5 σ 0 [(0, .ref (ad 0)), (1, .int x1), (2, .int x2), (3, .int x3), (4, .int x4)] [] := by
  intro H locs ls hw hl
  have hx := C.1
  have hb := C.2.1
  unfold fX8_loses at hf
  refine lv_aload_n hx hb dX8_loses_0 rfl (lv_at hl 0 rfl) ?_
  refine lv_iload_n hx hb dX8_loses_1 rfl (lv_at hl 1 rfl) ?_
  obtain ⟨t_1, h_2, hf⟩ := sn_bd hf
  refine sn_callVi (rest := []) C hw (ctX8_isPerson l  h_2) kl_RX8_107 layC_0 rfl rfl rfl rfl (Nat.le_of_ble_eq_true rfl) dX8_loses_2 hl.1 (fun H locs hw => ?_)
  refine lv_if_eq (tgt := 21) hx hb dX8_loses_5 (by decide) (fun c_3 => ?_) (fun c_3 => ?_)
  · have hf := sn_if c_3 hf
    refine lv_bipush (v := (-2)) hx hb dX8_loses_21 (by decide) ?_
    cases hf
    exact kr _ _ _ _ hw rfl dX8_loses_23
  · have hf := sn_el c_3 hf
    refine lv_aload_n hx hb dX8_loses_8 rfl (lv_at hl 0 rfl) ?_
    refine lv_iload_n hx hb dX8_loses_9 rfl (lv_at hl 2 rfl) ?_
    obtain ⟨t_4, h_5, hf⟩ := sn_bd hf
    refine sn_callVi (rest := []) C hw (ctX8_isPerson l  h_5) kl_RX8_107 layC_0 rfl rfl rfl rfl (Nat.le_of_ble_eq_true rfl) dX8_loses_10 hl.1 (fun H locs hw => ?_)
    refine lv_if_eq (tgt := 21) hx hb dX8_loses_13 (by decide) (fun c_6 => ?_) (fun c_6 => ?_)
    · have hf := sn_if c_6 hf
      refine lv_bipush (v := (-2)) hx hb dX8_loses_21 (by decide) ?_
      cases hf
      exact kr _ _ _ _ hw rfl dX8_loses_23
    · have hf := sn_el c_6 hf
      refine lv_iload_n hx hb dX8_loses_16 rfl (lv_at hl 1 rfl) ?_
      refine lv_iload_n hx hb dX8_loses_17 rfl (lv_at hl 2 rfl) ?_
      refine lv_icmp_ne (tgt := 24) hx hb dX8_loses_18 (by decide) (fun c_7 => ?_) (fun c_7 => ?_)
      · have hf := sn_el c_7 hf
        refine lv_iload_n hx hb dX8_loses_24 rfl (lv_at hl 3 rfl) ?_
        refine lv_if_lt (tgt := 44) hx hb dX8_loses_25 (by decide) (fun c_8 => ?_) (fun c_8 => ?_)
        · have hf := sn_if c_8 hf
          refine lv_bipush (v := (-2)) hx hb dX8_loses_44 (by decide) ?_
          cases hf
          exact kr _ _ _ _ hw rfl dX8_loses_46
        · have hf := sn_el c_8 hf
          refine lv_iload_n hx hb dX8_loses_28 rfl (lv_at hl 3 rfl) ?_
          refine lv_iconst (v := 1) hx hb dX8_loses_29 rfl ?_
          refine lv_icmp_gt (tgt := 44) hx hb dX8_loses_30 (by decide) (fun c_9 => ?_) (fun c_9 => ?_)
          · have hf := sn_if c_9 hf
            refine lv_bipush (v := (-2)) hx hb dX8_loses_44 (by decide) ?_
            cases hf
            exact kr _ _ _ _ hw rfl dX8_loses_46
          · have hf := sn_el c_9 hf
            refine lv_iload hx hb dX8_loses_33 (lv_at hl 4 rfl) ?_
            refine lv_if_lt (tgt := 44) hx hb dX8_loses_35 (by decide) (fun c_10 => ?_) (fun c_10 => ?_)
            · have hf := sn_if c_10 hf
              refine lv_bipush (v := (-2)) hx hb dX8_loses_44 (by decide) ?_
              cases hf
              exact kr _ _ _ _ hw rfl dX8_loses_46
            · have hf := sn_el c_10 hf
              refine lv_iload hx hb dX8_loses_38 (lv_at hl 4 rfl) ?_
              refine lv_iconst (v := 1) hx hb dX8_loses_40 rfl ?_
              refine lv_icmp_le (tgt := 47) hx hb dX8_loses_41 (by decide) (fun c_11 => ?_) (fun c_11 => ?_)
              · have hf := sn_if c_11 hf
                refine lv_aload_n hx hb dX8_loses_47 rfl (lv_at hl 0 rfl) ?_
                refine lv_iload_n hx hb dX8_loses_48 rfl (lv_at hl 1 rfl) ?_
                refine lv_iload_n hx hb dX8_loses_49 rfl (lv_at hl 2 rfl) ?_
                refine lv_iload_n hx hb dX8_loses_50 rfl (lv_at hl 3 rfl) ?_
                refine lv_iload hx hb dX8_loses_51 (lv_at hl 4 rfl) ?_
                obtain ⟨t_12, h_13, hf⟩ := sn_bd hf
                refine sn_callVi (rest := []) C hw (ctX8_lossOf l  h_13) kl_RX8_310 layC_0 rfl rfl rfl rfl (Nat.le_of_ble_eq_true rfl) dX8_loses_53 hl.1 (fun H locs hw => ?_)
                cases hf
                exact kr _ _ _ _ hw rfl dX8_loses_56
              · have hf := sn_el c_11 hf
                refine lv_bipush (v := (-2)) hx hb dX8_loses_44 (by decide) ?_
                cases hf
                exact kr _ _ _ _ hw rfl dX8_loses_46
      · have hf := sn_if c_7 hf
        refine lv_bipush (v := (-2)) hx hb dX8_loses_21 (by decide) ?_
        cases hf
        exact kr _ _ _ _ hw rfl dX8_loses_23
theorem ctX8_loses (l : Launch) {σ : sn_S} {x1 : Int32} {x2 : Int32} {x3 : Int32} {x4 : Int32}  {o : (Int32 × sn_S)} (hf : fX8_loses σ x1 x2 x3 x4 = some o) : sn_M l yX8_loses cX8_loses 5 (some .int) rmX8_loses layC (fun ad => [.ref (ad 0), .int x1, .int x2, .int x3, .int x4]) σ (some (fun _ => .int o.1)) o.2 :=
  sn_met (by decide) (fun _ => Nat.le_of_ble_eq_true rfl) (fun p e s m args below meth c ls D ct ad A C hw hl => wX8_loses_in C  hf (fun H locs ls pc hw ok hd => sn_iret C hw hd) _ _ _ hw hl)
-- X8_isPuffMinute
abbrev rmX8_isPuffMinute : Room := { frames := 1, cells := 0, slots := 0, locals := 21 }
def fX8_isPuffMinute (σ : sn_S) (x1 : Int32) : Option Int32 :=
  ((fX8_isMinute σ x1).bind fun t_1 => (if t_1 = 0 then
  (sn_gd (sn_b01 (0 : Int32)) (some (0 : Int32)))
  else
  (if (7 : Int32) < x1 then
  (sn_gd (sn_b01 (0 : Int32)) (some (0 : Int32)))
  else
  (sn_gd (sn_b01 (1 : Int32)) (some (1 : Int32))))))
theorem wX8_isPuffMinute_in (C : sn_C p s m args meth c RX8 cX8_isPuffMinute 2 (some .boolean) D ct ad layC A) {σ : sn_S} {x1 : Int32}  {o : Int32} (hf : fX8_isPuffMinute σ x1 = some o) (kr : sn_Kr p l e rmX8_isPuffMinute s m args below meth c Q D ct ad layC A cX8_isPuffMinute .ireturn (sn_b01 o) σ [.int o]) : sn_At p l e rmX8_isPuffMinute s m args below meth c Q D ct ad layC A 2 σ 0 [(0, .ref (ad 0)), (1, .int x1)] [] := by
  intro H locs ls hw hl
  have hx := C.1
  have hb := C.2.1
  unfold fX8_isPuffMinute at hf
  refine lv_aload_n hx hb dX8_isPuffMinute_0 rfl (lv_at hl 0 rfl) ?_
  refine lv_iload_n hx hb dX8_isPuffMinute_1 rfl (lv_at hl 1 rfl) ?_
  obtain ⟨t_1, h_2, hf⟩ := sn_bd hf
  refine sn_callVi (rest := []) C hw (ctX8_isMinute l  h_2) kl_RX8_125 layC_0 rfl rfl rfl rfl (Nat.le_of_ble_eq_true rfl) dX8_isPuffMinute_2 hl.1 (fun H locs hw => ?_)
  refine lv_if_eq (tgt := 18) hx hb dX8_isPuffMinute_5 (by decide) (fun c_3 => ?_) (fun c_3 => ?_)
  · have hf := sn_if c_3 hf
    refine lv_iconst (v := 0) hx hb dX8_isPuffMinute_18 rfl ?_
    obtain ⟨g_4, hf⟩ := sn_gdE hf
    cases hf
    exact kr _ _ _ _ hw g_4 dX8_isPuffMinute_19
  · have hf := sn_el c_3 hf
    refine lv_iload_n hx hb dX8_isPuffMinute_8 rfl (lv_at hl 1 rfl) ?_
    refine lv_bipush (v := 7) hx hb dX8_isPuffMinute_9 (by decide) ?_
    refine lv_icmp_gt (tgt := 18) hx hb dX8_isPuffMinute_11 (by decide) (fun c_5 => ?_) (fun c_5 => ?_)
    · have hf := sn_if c_5 hf
      refine lv_iconst (v := 0) hx hb dX8_isPuffMinute_18 rfl ?_
      obtain ⟨g_6, hf⟩ := sn_gdE hf
      cases hf
      exact kr _ _ _ _ hw g_6 dX8_isPuffMinute_19
    · have hf := sn_el c_5 hf
      refine lv_iconst (v := 1) hx hb dX8_isPuffMinute_14 rfl ?_
      refine lv_goto (tgt := 19) hx hb dX8_isPuffMinute_15 (by decide) ?_
      obtain ⟨g_7, hf⟩ := sn_gdE hf
      cases hf
      exact kr _ _ _ _ hw g_7 dX8_isPuffMinute_19
theorem ctX8_isPuffMinute (l : Launch) {σ : sn_S} {x1 : Int32}  {o : Int32} (hf : fX8_isPuffMinute σ x1 = some o) : sn_M l yX8_isPuffMinute cX8_isPuffMinute 2 (some .boolean) rmX8_isPuffMinute layC (fun ad => [.ref (ad 0), .int x1]) σ (some (fun _ => .int o)) σ :=
  sn_met (by decide) (fun _ => Nat.le_of_ble_eq_true rfl) (fun p e s m args below meth c ls D ct ad A C hw hl => wX8_isPuffMinute_in C  hf (fun H locs ls pc hw ok hd => sn_zret C hw ok hd) _ _ _ hw hl)
-- X8_chance
abbrev rmX8_chance : Room := { frames := 6, cells := 0, slots := 0, locals := 152 }
def fX8_chance (σ : sn_S) (x1 : Int32) (x2 : Int32) (x3 : Int32) : Option (Int64 × sn_S) :=
  ((fX8_isPerson σ x1).bind fun t_1 => (if t_1 = 0 then
  (some ((-2 : Int64), σ))
  else
  ((fX8_isPuffMinute σ x2).bind fun t_4 => (if t_4 = 0 then
  (some ((-2 : Int64), σ))
  else
  (if x3 < 0 then
  (some ((-2 : Int64), σ))
  else
  (if x3 ≤ (1 : Int32) then
  ((fX4_reckon σ 1 27 (0 : Int32) x1 x2).bind fun t_9 => (if x3 = 0 then
  (some ((sn_L t_9 57 0), t_9))
  else
  (some ((sn_L t_9 57 1), t_9))))
  else
  (some ((-2 : Int64), σ))))))))
theorem wX8_chance_in (C : sn_C p s m args meth c RX8 cX8_chance 4 (some .long) D ct ad layC A) {σ : sn_S} {x1 : Int32} {x2 : Int32} {x3 : Int32}  {o : (Int64 × sn_S)} (hf : fX8_chance σ x1 x2 x3 = some o) (kr : sn_Kr p l e rmX8_chance s m args below meth c Q D ct ad layC A cX8_chance .lreturn (true) o.2 [.long o.1]) : sn_At p l e rmX8_chance s m args below meth c Q D ct ad layC A 4 σ 0 [(0, .ref (ad 0)), (1, .int x1), (2, .int x2), (3, .int x3)] [] := by
  intro H locs ls hw hl
  have hx := C.1
  have hb := C.2.1
  unfold fX8_chance at hf
  refine lv_aload_n hx hb dX8_chance_0 rfl (lv_at hl 0 rfl) ?_
  refine lv_iload_n hx hb dX8_chance_1 rfl (lv_at hl 1 rfl) ?_
  obtain ⟨t_1, h_2, hf⟩ := sn_bd hf
  refine sn_callVi (rest := []) C hw (ctX8_isPerson l  h_2) kl_RX8_107 layC_0 rfl rfl rfl rfl (Nat.le_of_ble_eq_true rfl) dX8_chance_2 hl.1 (fun H locs hw => ?_)
  refine lv_if_eq (tgt := 25) hx hb dX8_chance_5 (by decide) (fun c_3 => ?_) (fun c_3 => ?_)
  · have hf := sn_if c_3 hf
    refine lv_ldc2 hx hb C.2.2.2.1 (C.2.2.2.2.1 _ kk_RX8_317) dX8_chance_25 ?_
    cases hf
    exact kr _ _ _ _ hw rfl dX8_chance_28
  · have hf := sn_el c_3 hf
    refine lv_aload_n hx hb dX8_chance_8 rfl (lv_at hl 0 rfl) ?_
    refine lv_iload_n hx hb dX8_chance_9 rfl (lv_at hl 2 rfl) ?_
    obtain ⟨t_4, h_5, hf⟩ := sn_bd hf
    refine sn_callVi (rest := []) C hw (ctX8_isPuffMinute l  h_5) kl_RX8_314 layC_0 rfl rfl rfl rfl (Nat.le_of_ble_eq_true rfl) dX8_chance_10 hl.1 (fun H locs hw => ?_)
    refine lv_if_eq (tgt := 25) hx hb dX8_chance_13 (by decide) (fun c_6 => ?_) (fun c_6 => ?_)
    · have hf := sn_if c_6 hf
      refine lv_ldc2 hx hb C.2.2.2.1 (C.2.2.2.2.1 _ kk_RX8_317) dX8_chance_25 ?_
      cases hf
      exact kr _ _ _ _ hw rfl dX8_chance_28
    · have hf := sn_el c_6 hf
      refine lv_iload_n hx hb dX8_chance_16 rfl (lv_at hl 3 rfl) ?_
      refine lv_if_lt (tgt := 25) hx hb dX8_chance_17 (by decide) (fun c_7 => ?_) (fun c_7 => ?_)
      · have hf := sn_if c_7 hf
        refine lv_ldc2 hx hb C.2.2.2.1 (C.2.2.2.2.1 _ kk_RX8_317) dX8_chance_25 ?_
        cases hf
        exact kr _ _ _ _ hw rfl dX8_chance_28
      · have hf := sn_el c_7 hf
        refine lv_iload_n hx hb dX8_chance_20 rfl (lv_at hl 3 rfl) ?_
        refine lv_iconst (v := 1) hx hb dX8_chance_21 rfl ?_
        refine lv_icmp_le (tgt := 29) hx hb dX8_chance_22 (by decide) (fun c_8 => ?_) (fun c_8 => ?_)
        · have hf := sn_if c_8 hf
          refine lv_aload_n hx hb dX8_chance_29 rfl (lv_at hl 0 rfl) ?_
          refine sn_getC (r := 57) C hw fd_RX8_75 layC_0 rfl dX8_chance_30 ?_
          refine lv_aload_n hx hb dX8_chance_33 rfl (lv_at hl 0 rfl) ?_
          refine sn_getC (r := 1) C hw fd_RX8_10 layC_0 rfl dX8_chance_34 ?_
          refine lv_aload_n hx hb dX8_chance_37 rfl (lv_at hl 0 rfl) ?_
          refine sn_getC (r := 27) C hw fd_RX8_44 layC_0 rfl dX8_chance_38 ?_
          refine lv_iconst (v := 0) hx hb dX8_chance_41 rfl ?_
          refine lv_iload_n hx hb dX8_chance_42 rfl (lv_at hl 1 rfl) ?_
          refine lv_iload_n hx hb dX8_chance_43 rfl (lv_at hl 2 rfl) ?_
          obtain ⟨t_9, h_10, hf⟩ := sn_bd hf
          refine sn_callVv (rest := []) C hw (ctX4_reckon l sn_isX2_1 sn_isX0_27 h_10) kl_RX8_319 layC_57 rfl rfl rfl rfl (Nat.le_of_ble_eq_true rfl) dX8_chance_44 hl.1 (fun H locs hw => ?_)
          refine lv_iload_n hx hb dX8_chance_47 rfl (lv_at hl 3 rfl) ?_
          refine lv_if_ne (tgt := 61) hx hb dX8_chance_48 (by decide) (fun c_11 => ?_) (fun c_11 => ?_)
          · have hf := sn_el c_11 hf
            refine lv_aload_n hx hb dX8_chance_61 rfl (lv_at hl 0 rfl) ?_
            refine sn_getC (r := 57) C hw fd_RX8_75 layC_0 rfl dX8_chance_62 ?_
            refine sn_getL C hw fd_RX8_326 layC_57 rfl dX8_chance_65 ?_
            cases hf
            exact kr _ _ _ _ hw rfl dX8_chance_68
          · have hf := sn_if c_11 hf
            refine lv_aload_n hx hb dX8_chance_51 rfl (lv_at hl 0 rfl) ?_
            refine sn_getC (r := 57) C hw fd_RX8_75 layC_0 rfl dX8_chance_52 ?_
            refine sn_getL C hw fd_RX8_322 layC_57 rfl dX8_chance_55 ?_
            refine lv_goto (tgt := 68) hx hb dX8_chance_58 (by decide) ?_
            cases hf
            exact kr _ _ _ _ hw rfl dX8_chance_68
        · have hf := sn_el c_8 hf
          refine lv_ldc2 hx hb C.2.2.2.1 (C.2.2.2.2.1 _ kk_RX8_317) dX8_chance_25 ?_
          cases hf
          exact kr _ _ _ _ hw rfl dX8_chance_28
theorem ctX8_chance (l : Launch) {σ : sn_S} {x1 : Int32} {x2 : Int32} {x3 : Int32}  {o : (Int64 × sn_S)} (hf : fX8_chance σ x1 x2 x3 = some o) : sn_M l yX8_chance cX8_chance 4 (some .long) rmX8_chance layC (fun ad => [.ref (ad 0), .int x1, .int x2, .int x3]) σ (some (fun _ => .long o.1)) o.2 :=
  sn_met (by decide) (fun _ => Nat.le_of_ble_eq_true rfl) (fun p e s m args below meth c ls D ct ad A C hw hl => wX8_chance_in C  hf (fun H locs ls pc hw ok hd => sn_lret C hw hd) _ _ _ hw hl)
-- X8_fair
abbrev rmX8_fair : Room := { frames := 6, cells := 0, slots := 0, locals := 152 }
def fX8_fair (σ : sn_S) (x1 : Int32) (x2 : Int32) (x3 : Int32) : Option (Int64 × sn_S) :=
  ((fX8_isPolicy σ x1).bind fun t_1 => (if t_1 = 0 then
  (some ((-2 : Int64), σ))
  else
  ((fX8_isPuffMinute σ x2).bind fun t_4 => (if t_4 = 0 then
  (some ((-2 : Int64), σ))
  else
  (if x3 < 0 then
  (some ((-2 : Int64), σ))
  else
  (if x3 ≤ (1 : Int32) then
  ((fX4_reckon σ 1 27 (1 : Int32) x1 x2).bind fun t_9 => (if x3 = 0 then
  (some ((sn_L t_9 57 0), t_9))
  else
  (some ((sn_L t_9 57 1), t_9))))
  else
  (some ((-2 : Int64), σ))))))))
theorem wX8_fair_in (C : sn_C p s m args meth c RX8 cX8_fair 4 (some .long) D ct ad layC A) {σ : sn_S} {x1 : Int32} {x2 : Int32} {x3 : Int32}  {o : (Int64 × sn_S)} (hf : fX8_fair σ x1 x2 x3 = some o) (kr : sn_Kr p l e rmX8_fair s m args below meth c Q D ct ad layC A cX8_fair .lreturn (true) o.2 [.long o.1]) : sn_At p l e rmX8_fair s m args below meth c Q D ct ad layC A 4 σ 0 [(0, .ref (ad 0)), (1, .int x1), (2, .int x2), (3, .int x3)] [] := by
  intro H locs ls hw hl
  have hx := C.1
  have hb := C.2.1
  unfold fX8_fair at hf
  refine lv_aload_n hx hb dX8_fair_0 rfl (lv_at hl 0 rfl) ?_
  refine lv_iload_n hx hb dX8_fair_1 rfl (lv_at hl 1 rfl) ?_
  obtain ⟨t_1, h_2, hf⟩ := sn_bd hf
  refine sn_callVi (rest := []) C hw (ctX8_isPolicy l  h_2) kl_RX8_114 layC_0 rfl rfl rfl rfl (Nat.le_of_ble_eq_true rfl) dX8_fair_2 hl.1 (fun H locs hw => ?_)
  refine lv_if_eq (tgt := 25) hx hb dX8_fair_5 (by decide) (fun c_3 => ?_) (fun c_3 => ?_)
  · have hf := sn_if c_3 hf
    refine lv_ldc2 hx hb C.2.2.2.1 (C.2.2.2.2.1 _ kk_RX8_317) dX8_fair_25 ?_
    cases hf
    exact kr _ _ _ _ hw rfl dX8_fair_28
  · have hf := sn_el c_3 hf
    refine lv_aload_n hx hb dX8_fair_8 rfl (lv_at hl 0 rfl) ?_
    refine lv_iload_n hx hb dX8_fair_9 rfl (lv_at hl 2 rfl) ?_
    obtain ⟨t_4, h_5, hf⟩ := sn_bd hf
    refine sn_callVi (rest := []) C hw (ctX8_isPuffMinute l  h_5) kl_RX8_314 layC_0 rfl rfl rfl rfl (Nat.le_of_ble_eq_true rfl) dX8_fair_10 hl.1 (fun H locs hw => ?_)
    refine lv_if_eq (tgt := 25) hx hb dX8_fair_13 (by decide) (fun c_6 => ?_) (fun c_6 => ?_)
    · have hf := sn_if c_6 hf
      refine lv_ldc2 hx hb C.2.2.2.1 (C.2.2.2.2.1 _ kk_RX8_317) dX8_fair_25 ?_
      cases hf
      exact kr _ _ _ _ hw rfl dX8_fair_28
    · have hf := sn_el c_6 hf
      refine lv_iload_n hx hb dX8_fair_16 rfl (lv_at hl 3 rfl) ?_
      refine lv_if_lt (tgt := 25) hx hb dX8_fair_17 (by decide) (fun c_7 => ?_) (fun c_7 => ?_)
      · have hf := sn_if c_7 hf
        refine lv_ldc2 hx hb C.2.2.2.1 (C.2.2.2.2.1 _ kk_RX8_317) dX8_fair_25 ?_
        cases hf
        exact kr _ _ _ _ hw rfl dX8_fair_28
      · have hf := sn_el c_7 hf
        refine lv_iload_n hx hb dX8_fair_20 rfl (lv_at hl 3 rfl) ?_
        refine lv_iconst (v := 1) hx hb dX8_fair_21 rfl ?_
        refine lv_icmp_le (tgt := 29) hx hb dX8_fair_22 (by decide) (fun c_8 => ?_) (fun c_8 => ?_)
        · have hf := sn_if c_8 hf
          refine lv_aload_n hx hb dX8_fair_29 rfl (lv_at hl 0 rfl) ?_
          refine sn_getC (r := 57) C hw fd_RX8_75 layC_0 rfl dX8_fair_30 ?_
          refine lv_aload_n hx hb dX8_fair_33 rfl (lv_at hl 0 rfl) ?_
          refine sn_getC (r := 1) C hw fd_RX8_10 layC_0 rfl dX8_fair_34 ?_
          refine lv_aload_n hx hb dX8_fair_37 rfl (lv_at hl 0 rfl) ?_
          refine sn_getC (r := 27) C hw fd_RX8_44 layC_0 rfl dX8_fair_38 ?_
          refine lv_iconst (v := 1) hx hb dX8_fair_41 rfl ?_
          refine lv_iload_n hx hb dX8_fair_42 rfl (lv_at hl 1 rfl) ?_
          refine lv_iload_n hx hb dX8_fair_43 rfl (lv_at hl 2 rfl) ?_
          obtain ⟨t_9, h_10, hf⟩ := sn_bd hf
          refine sn_callVv (rest := []) C hw (ctX4_reckon l sn_isX2_1 sn_isX0_27 h_10) kl_RX8_319 layC_57 rfl rfl rfl rfl (Nat.le_of_ble_eq_true rfl) dX8_fair_44 hl.1 (fun H locs hw => ?_)
          refine lv_iload_n hx hb dX8_fair_47 rfl (lv_at hl 3 rfl) ?_
          refine lv_if_ne (tgt := 61) hx hb dX8_fair_48 (by decide) (fun c_11 => ?_) (fun c_11 => ?_)
          · have hf := sn_el c_11 hf
            refine lv_aload_n hx hb dX8_fair_61 rfl (lv_at hl 0 rfl) ?_
            refine sn_getC (r := 57) C hw fd_RX8_75 layC_0 rfl dX8_fair_62 ?_
            refine sn_getL C hw fd_RX8_326 layC_57 rfl dX8_fair_65 ?_
            cases hf
            exact kr _ _ _ _ hw rfl dX8_fair_68
          · have hf := sn_if c_11 hf
            refine lv_aload_n hx hb dX8_fair_51 rfl (lv_at hl 0 rfl) ?_
            refine sn_getC (r := 57) C hw fd_RX8_75 layC_0 rfl dX8_fair_52 ?_
            refine sn_getL C hw fd_RX8_322 layC_57 rfl dX8_fair_55 ?_
            refine lv_goto (tgt := 68) hx hb dX8_fair_58 (by decide) ?_
            cases hf
            exact kr _ _ _ _ hw rfl dX8_fair_68
        · have hf := sn_el c_8 hf
          refine lv_ldc2 hx hb C.2.2.2.1 (C.2.2.2.2.1 _ kk_RX8_317) dX8_fair_25 ?_
          cases hf
          exact kr _ _ _ _ hw rfl dX8_fair_28
theorem ctX8_fair (l : Launch) {σ : sn_S} {x1 : Int32} {x2 : Int32} {x3 : Int32}  {o : (Int64 × sn_S)} (hf : fX8_fair σ x1 x2 x3 = some o) : sn_M l yX8_fair cX8_fair 4 (some .long) rmX8_fair layC (fun ad => [.ref (ad 0), .int x1, .int x2, .int x3]) σ (some (fun _ => .long o.1)) o.2 :=
  sn_met (by decide) (fun _ => Nat.le_of_ble_eq_true rfl) (fun p e s m args below meth c ls D ct ad A C hw hl => wX8_fair_in C  hf (fun H locs ls pc hw ok hd => sn_lret C hw hd) _ _ _ hw hl)
-- X8_risk
abbrev rmX8_risk : Room := { frames := 6, cells := 0, slots := 0, locals := 152 }
def fX8_risk (σ : sn_S) (x1 : Int32) (x2 : Int32) : Option (Int64 × sn_S) :=
  ((fX8_isPuffMinute σ x1).bind fun t_1 => (if t_1 = 0 then
  (some ((-2 : Int64), σ))
  else
  (if x2 < 0 then
  (some ((-2 : Int64), σ))
  else
  (if x2 ≤ (1 : Int32) then
  ((fX4_reckon σ 1 27 (2 : Int32) (-1 : Int32) x1).bind fun t_6 => (if x2 = 0 then
  (some ((sn_L t_6 57 0), t_6))
  else
  (some ((sn_L t_6 57 1), t_6))))
  else
  (some ((-2 : Int64), σ))))))
theorem wX8_risk_in (C : sn_C p s m args meth c RX8 cX8_risk 3 (some .long) D ct ad layC A) {σ : sn_S} {x1 : Int32} {x2 : Int32}  {o : (Int64 × sn_S)} (hf : fX8_risk σ x1 x2 = some o) (kr : sn_Kr p l e rmX8_risk s m args below meth c Q D ct ad layC A cX8_risk .lreturn (true) o.2 [.long o.1]) : sn_At p l e rmX8_risk s m args below meth c Q D ct ad layC A 3 σ 0 [(0, .ref (ad 0)), (1, .int x1), (2, .int x2)] [] := by
  intro H locs ls hw hl
  have hx := C.1
  have hb := C.2.1
  unfold fX8_risk at hf
  refine lv_aload_n hx hb dX8_risk_0 rfl (lv_at hl 0 rfl) ?_
  refine lv_iload_n hx hb dX8_risk_1 rfl (lv_at hl 1 rfl) ?_
  obtain ⟨t_1, h_2, hf⟩ := sn_bd hf
  refine sn_callVi (rest := []) C hw (ctX8_isPuffMinute l  h_2) kl_RX8_314 layC_0 rfl rfl rfl rfl (Nat.le_of_ble_eq_true rfl) dX8_risk_2 hl.1 (fun H locs hw => ?_)
  refine lv_if_eq (tgt := 17) hx hb dX8_risk_5 (by decide) (fun c_3 => ?_) (fun c_3 => ?_)
  · have hf := sn_if c_3 hf
    refine lv_ldc2 hx hb C.2.2.2.1 (C.2.2.2.2.1 _ kk_RX8_317) dX8_risk_17 ?_
    cases hf
    exact kr _ _ _ _ hw rfl dX8_risk_20
  · have hf := sn_el c_3 hf
    refine lv_iload_n hx hb dX8_risk_8 rfl (lv_at hl 2 rfl) ?_
    refine lv_if_lt (tgt := 17) hx hb dX8_risk_9 (by decide) (fun c_4 => ?_) (fun c_4 => ?_)
    · have hf := sn_if c_4 hf
      refine lv_ldc2 hx hb C.2.2.2.1 (C.2.2.2.2.1 _ kk_RX8_317) dX8_risk_17 ?_
      cases hf
      exact kr _ _ _ _ hw rfl dX8_risk_20
    · have hf := sn_el c_4 hf
      refine lv_iload_n hx hb dX8_risk_12 rfl (lv_at hl 2 rfl) ?_
      refine lv_iconst (v := 1) hx hb dX8_risk_13 rfl ?_
      refine lv_icmp_le (tgt := 21) hx hb dX8_risk_14 (by decide) (fun c_5 => ?_) (fun c_5 => ?_)
      · have hf := sn_if c_5 hf
        refine lv_aload_n hx hb dX8_risk_21 rfl (lv_at hl 0 rfl) ?_
        refine sn_getC (r := 57) C hw fd_RX8_75 layC_0 rfl dX8_risk_22 ?_
        refine lv_aload_n hx hb dX8_risk_25 rfl (lv_at hl 0 rfl) ?_
        refine sn_getC (r := 1) C hw fd_RX8_10 layC_0 rfl dX8_risk_26 ?_
        refine lv_aload_n hx hb dX8_risk_29 rfl (lv_at hl 0 rfl) ?_
        refine sn_getC (r := 27) C hw fd_RX8_44 layC_0 rfl dX8_risk_30 ?_
        refine lv_iconst (v := 2) hx hb dX8_risk_33 rfl ?_
        refine lv_iconst (v := (-1)) hx hb dX8_risk_34 rfl ?_
        refine lv_iload_n hx hb dX8_risk_35 rfl (lv_at hl 1 rfl) ?_
        obtain ⟨t_6, h_7, hf⟩ := sn_bd hf
        refine sn_callVv (rest := []) C hw (ctX4_reckon l sn_isX2_1 sn_isX0_27 h_7) kl_RX8_319 layC_57 rfl rfl rfl rfl (Nat.le_of_ble_eq_true rfl) dX8_risk_36 hl.1 (fun H locs hw => ?_)
        refine lv_iload_n hx hb dX8_risk_39 rfl (lv_at hl 2 rfl) ?_
        refine lv_if_ne (tgt := 53) hx hb dX8_risk_40 (by decide) (fun c_8 => ?_) (fun c_8 => ?_)
        · have hf := sn_el c_8 hf
          refine lv_aload_n hx hb dX8_risk_53 rfl (lv_at hl 0 rfl) ?_
          refine sn_getC (r := 57) C hw fd_RX8_75 layC_0 rfl dX8_risk_54 ?_
          refine sn_getL C hw fd_RX8_326 layC_57 rfl dX8_risk_57 ?_
          cases hf
          exact kr _ _ _ _ hw rfl dX8_risk_60
        · have hf := sn_if c_8 hf
          refine lv_aload_n hx hb dX8_risk_43 rfl (lv_at hl 0 rfl) ?_
          refine sn_getC (r := 57) C hw fd_RX8_75 layC_0 rfl dX8_risk_44 ?_
          refine sn_getL C hw fd_RX8_322 layC_57 rfl dX8_risk_47 ?_
          refine lv_goto (tgt := 60) hx hb dX8_risk_50 (by decide) ?_
          cases hf
          exact kr _ _ _ _ hw rfl dX8_risk_60
      · have hf := sn_el c_5 hf
        refine lv_ldc2 hx hb C.2.2.2.1 (C.2.2.2.2.1 _ kk_RX8_317) dX8_risk_17 ?_
        cases hf
        exact kr _ _ _ _ hw rfl dX8_risk_20
theorem ctX8_risk (l : Launch) {σ : sn_S} {x1 : Int32} {x2 : Int32}  {o : (Int64 × sn_S)} (hf : fX8_risk σ x1 x2 = some o) : sn_M l yX8_risk cX8_risk 3 (some .long) rmX8_risk layC (fun ad => [.ref (ad 0), .int x1, .int x2]) σ (some (fun _ => .long o.1)) o.2 :=
  sn_met (by decide) (fun _ => Nat.le_of_ble_eq_true rfl) (fun p e s m args below meth c ls D ct ad A C hw hl => wX8_risk_in C  hf (fun H locs ls pc hw ok hd => sn_lret C hw hd) _ _ _ hw hl)
-- X8_isSeed
abbrev rmX8_isSeed : Room := { frames := 0, cells := 0, slots := 0, locals := 0 }
def fX8_isSeed (x0 : Int32) : Option Int32 :=
  (if x0 < 0 then
  (sn_gd (sn_b01 (0 : Int32)) (some (0 : Int32)))
  else
  (if (2000000000 : Int32) < x0 then
  (sn_gd (sn_b01 (0 : Int32)) (some (0 : Int32)))
  else
  (sn_gd (sn_b01 (1 : Int32)) (some (1 : Int32)))))
theorem wX8_isSeed_in (C : sn_C p s m args meth c RX8 cX8_isSeed 1 (some .boolean) D ct ad layC A) {σ : sn_S} {x0 : Int32}  {o : Int32} (hf : fX8_isSeed x0 = some o) (kr : sn_Kr p l e rmX8_isSeed s m args below meth c Q D ct ad layC A cX8_isSeed .ireturn (sn_b01 o) σ [.int o]) : sn_At p l e rmX8_isSeed s m args below meth c Q D ct ad layC A 1 σ 0 [(0, .int x0)] [] := by
  intro H locs ls hw hl
  have hx := C.1
  have hb := C.2.1
  unfold fX8_isSeed at hf
  refine lv_iload_n hx hb dX8_isSeed_0 rfl (lv_at hl 0 rfl) ?_
  refine lv_if_lt (tgt := 15) hx hb dX8_isSeed_1 (by decide) (fun c_1 => ?_) (fun c_1 => ?_)
  · have hf := sn_if c_1 hf
    refine lv_iconst (v := 0) hx hb dX8_isSeed_15 rfl ?_
    obtain ⟨g_2, hf⟩ := sn_gdE hf
    cases hf
    exact kr _ _ _ _ hw g_2 dX8_isSeed_16
  · have hf := sn_el c_1 hf
    refine lv_iload_n hx hb dX8_isSeed_4 rfl (lv_at hl 0 rfl) ?_
    refine lv_ldcw hx hb C.2.2.2.1 (C.2.2.2.2.1 _ kk_RX8_376) dX8_isSeed_5 ?_
    refine lv_icmp_gt (tgt := 15) hx hb dX8_isSeed_8 (by decide) (fun c_3 => ?_) (fun c_3 => ?_)
    · have hf := sn_if c_3 hf
      refine lv_iconst (v := 0) hx hb dX8_isSeed_15 rfl ?_
      obtain ⟨g_4, hf⟩ := sn_gdE hf
      cases hf
      exact kr _ _ _ _ hw g_4 dX8_isSeed_16
    · have hf := sn_el c_3 hf
      refine lv_iconst (v := 1) hx hb dX8_isSeed_11 rfl ?_
      refine lv_goto (tgt := 16) hx hb dX8_isSeed_12 (by decide) ?_
      obtain ⟨g_5, hf⟩ := sn_gdE hf
      cases hf
      exact kr _ _ _ _ hw g_5 dX8_isSeed_16
theorem ctX8_isSeed (l : Launch) {σ : sn_S} {x0 : Int32}  {o : Int32} (hf : fX8_isSeed x0 = some o) : sn_M l yX8_isSeed cX8_isSeed 1 (some .boolean) rmX8_isSeed layC (fun ad => [.int x0]) σ (some (fun _ => .int o)) σ :=
  sn_met (by decide) (fun _ => Nat.le_of_ble_eq_true rfl) (fun p e s m args below meth c ls D ct ad A C hw hl => wX8_isSeed_in C  hf (fun H locs ls pc hw ok hd => sn_zret C hw ok hd) _ _ _ hw hl)
-- X8_liveDrawn
abbrev rmX8_liveDrawn : Room := { frames := 5, cells := 0, slots := 0, locals := 113 }
def BX8_liveDrawn_95 (σ : sn_S) (x2 : Int32) : Option ((Int32 × sn_S)) :=
  ((fX0_liveWhole σ 38).bind fun t_1 => (some (x2, t_1)))
def BX8_liveDrawn_89 (σ : sn_S) (x2 : Int32) (x3 : Int64) (x5 : Int32) : Option ((sn_S × Int32 × Int64 × Int32) ⊕ (sn_S × Int32)) :=
  (sn_lt (x5 + 1) fun y_1 => (some (.inl (σ, x2, x3, y_1))))
def BX8_liveDrawn_19 (σ : sn_S) (x2 : Int32) (x3 : Int64) (x5 : Int32) : Option ((sn_S × Int32 × Int64 × Int32) ⊕ (sn_S × Int32)) :=
  (if (sn_I σ 27 0) ≤ x5 then
  (some (.inr (σ, x2)))
  else
  (sn_lt ((((1103515245 : Int64) * x3) + (12345 : Int64)) - (((1103515245 : Int64) * x3) + (12345 : Int64)) / (2147483648 : Int64) * (2147483648 : Int64)) fun y_2 => (sn_gd (sn_in (4 : Int32) 11) (if 0 ≤ (lg_cmp ((y_2 / (65536 : Int64)) - (y_2 / (65536 : Int64)) / (10 : Int64) * (10 : Int64)) ((sn_I σ (1 + 1) (4 : Int32).toNatClampNeg).toInt64)) then
  (BX8_liveDrawn_89 σ x2 y_2 x5)
  else
  (sn_lt (x2 ||| ((1 : Int32) <<< (x5 &&& 31))) fun y_6 => (sn_gd (sn_in x5 30) (sn_gd (sn_in x5 30) (sn_lt (sn_pI σ (38 + 1) x5.toNatClampNeg ((sn_I σ (38 + 1) x5.toNatClampNeg) + (3 : Int32))) fun σ_10 => (BX8_liveDrawn_89 σ_10 y_6 y_2 x5)))))))))
def LX8_liveDrawn_19  (s : sn_S × Int32 × Int64 × Int32) : Option ((sn_S × Int32 × Int64 × Int32) ⊕ (sn_S × Int32)) := BX8_liveDrawn_19 s.1 s.2.1 s.2.2.1 s.2.2.2
def fX8_liveDrawn (σ : sn_S) (x1 : Int32) : Option (Int32 × sn_S) :=
  ((fX0_copyFrom σ 38 27).bind fun t_1 => ((sn_it (LX8_liveDrawn_19 ) 5000 (t_1, (0 : Int32), x1.toInt64, (0 : Int32))).bind fun t_3 => (BX8_liveDrawn_95 t_3.1 t_3.2)))
theorem wX8_liveDrawn_95 (C : sn_C p s m args meth c RX8 cX8_liveDrawn 6 (some .int) D ct ad layC A) {σ : sn_S} {x2 : Int32}  {o : (Int32 × sn_S)} (hf : BX8_liveDrawn_95 σ x2 = some o) (kr : sn_Kr p l e rmX8_liveDrawn s m args below meth c Q D ct ad layC A cX8_liveDrawn .ireturn (true) o.2 [.int o.1]) : sn_At p l e rmX8_liveDrawn s m args below meth c Q D ct ad layC A 6 σ 95 [(0, .ref (ad 0)), (2, .int x2)] [] := by
  intro H locs ls hw hl
  have hx := C.1
  have hb := C.2.1
  unfold BX8_liveDrawn_95 at hf
  refine lv_aload_n hx hb dX8_liveDrawn_95 rfl (lv_at hl 0 rfl) ?_
  refine sn_getC (r := 38) C hw fd_RX8_48 layC_0 rfl dX8_liveDrawn_96 ?_
  obtain ⟨t_1, h_2, hf⟩ := sn_bd hf
  refine sn_callVv (rest := []) C hw (ctX0_liveWhole l sn_isX0_38 h_2) kl_RX8_189 (sn_look sn_isX0_38 (k := 0) rfl) rfl rfl rfl rfl (Nat.le_of_ble_eq_true rfl) dX8_liveDrawn_99 hl.1 (fun H locs hw => ?_)
  refine lv_iload_n hx hb dX8_liveDrawn_102 rfl (lv_at hl 1 rfl) ?_
  cases hf
  exact kr _ _ _ _ hw rfl dX8_liveDrawn_103
theorem wX8_liveDrawn_89 (C : sn_C p s m args meth c RX8 cX8_liveDrawn 6 (some .int) D ct ad layC A) {σ : sn_S} {x2 : Int32} {x3 : Int64} {x5 : Int32}  {o : (sn_S × Int32 × Int64 × Int32) ⊕ (sn_S × Int32)} (hf : BX8_liveDrawn_89 σ x2 x3 x5 = some o) (kc : ∀ v, o = .inl v → sn_At p l e rmX8_liveDrawn s m args below meth c Q D ct ad layC A 6 v.1 19 [(0, .ref (ad 0)), (2, .int v.2.1), (3, .long v.2.2.1), (5, .int v.2.2.2)] []) (kx : ∀ v, o = .inr v → sn_At p l e rmX8_liveDrawn s m args below meth c Q D ct ad layC A 6 v.1 95 [(0, .ref (ad 0)), (2, .int v.2)] []) : sn_At p l e rmX8_liveDrawn s m args below meth c Q D ct ad layC A 6 σ 89 [(0, .ref (ad 0)), (2, .int x2), (3, .long x3), (5, .int x5)] [] := by
  intro H locs ls hw hl
  have hx := C.1
  have hb := C.2.1
  unfold BX8_liveDrawn_89 at hf
  obtain ⟨y_1, e_2, hf⟩ := sn_ltE hf
  refine lv_iinc (v := y_1) (lv' := [(5, .int y_1), (0, .ref (ad 0)), (2, .int x2), (3, .long x3)]) hx hb dX8_liveDrawn_89 hl (k := 3) rfl (by rw [e_2]; rfl) (by decide) rfl (fun ls hl => ?_)
  refine lv_goto (tgt := 19) hx hb dX8_liveDrawn_92 (by decide) ?_
  cases hf
  exact kc _ rfl _ _ _ hw (lv_sub hl [1, 2, 3, 0] rfl)
theorem wX8_liveDrawn_19 (C : sn_C p s m args meth c RX8 cX8_liveDrawn 6 (some .int) D ct ad layC A) {σ : sn_S} {x2 : Int32} {x3 : Int64} {x5 : Int32}  {o : (sn_S × Int32 × Int64 × Int32) ⊕ (sn_S × Int32)} (hf : BX8_liveDrawn_19 σ x2 x3 x5 = some o) (kc : ∀ v, o = .inl v → sn_At p l e rmX8_liveDrawn s m args below meth c Q D ct ad layC A 6 v.1 19 [(0, .ref (ad 0)), (2, .int v.2.1), (3, .long v.2.2.1), (5, .int v.2.2.2)] []) (kx : ∀ v, o = .inr v → sn_At p l e rmX8_liveDrawn s m args below meth c Q D ct ad layC A 6 v.1 95 [(0, .ref (ad 0)), (2, .int v.2)] []) : sn_At p l e rmX8_liveDrawn s m args below meth c Q D ct ad layC A 6 σ 19 [(0, .ref (ad 0)), (2, .int x2), (3, .long x3), (5, .int x5)] [] := by
  intro H locs ls hw hl
  have hx := C.1
  have hb := C.2.1
  unfold BX8_liveDrawn_19 at hf
  refine lv_iload hx hb dX8_liveDrawn_19 (lv_at hl 3 rfl) ?_
  refine lv_aload_n hx hb dX8_liveDrawn_21 rfl (lv_at hl 0 rfl) ?_
  refine sn_getC (r := 27) C hw fd_RX8_44 layC_0 rfl dX8_liveDrawn_22 ?_
  refine sn_getI C hw fd_RX8_151 (sn_look sn_isX0_27 (k := 0) rfl) rfl dX8_liveDrawn_25 ?_
  refine lv_icmp_ge (tgt := 95) hx hb dX8_liveDrawn_28 (by decide) (fun c_1 => ?_) (fun c_1 => ?_)
  · have hf := sn_if c_1 hf
    cases hf
    exact kx _ rfl _ _ _ hw (lv_sub hl [0, 1] rfl)
  · have hf := sn_el c_1 hf
    refine lv_ldc2 hx hb C.2.2.2.1 (C.2.2.2.2.1 _ kk_RX8_335) dX8_liveDrawn_31 ?_
    refine lv_lload_n hx hb dX8_liveDrawn_34 rfl (lv_at hl 2 rfl) ?_
    refine lv_lmul hx hb dX8_liveDrawn_35 ?_
    refine lv_ldc2 hx hb C.2.2.2.1 (C.2.2.2.2.1 _ kk_RX8_337) dX8_liveDrawn_36 ?_
    refine lv_ladd hx hb dX8_liveDrawn_39 ?_
    refine lv_ldc2 hx hb C.2.2.2.1 (C.2.2.2.2.1 _ kk_RX8_339) dX8_liveDrawn_40 ?_
    refine lv_lrem hx hb dX8_liveDrawn_43 (by decide) ?_
    obtain ⟨y_2, e_3, hf⟩ := sn_ltE hf
    refine lv_topl (fun y_2_ e_3_ => ?_)
    obtain rfl : y_2 = y_2_ := e_3.trans e_3_.symm
    refine lv_lstore_n (lv' := [(3, .long y_2), (0, .ref (ad 0)), (2, .int x2), (5, .int x5)]) hx hb dX8_liveDrawn_44 rfl hl (by decide) rfl (fun ls hl => ?_)
    refine lv_lload_n hx hb dX8_liveDrawn_45 rfl (lv_at hl 0 rfl) ?_
    refine lv_ldc2 hx hb C.2.2.2.1 (C.2.2.2.2.1 _ kk_RX8_341) dX8_liveDrawn_46 ?_
    refine lv_ldiv hx hb dX8_liveDrawn_49 (by decide) ?_
    refine lv_ldc2 hx hb C.2.2.2.1 (C.2.2.2.2.1 _ kk_RX8_343) dX8_liveDrawn_50 ?_
    refine lv_lrem hx hb dX8_liveDrawn_53 (by decide) ?_
    refine lv_aload_n hx hb dX8_liveDrawn_54 rfl (lv_at hl 1 rfl) ?_
    refine sn_getC (r := 1) C hw fd_RX8_10 layC_0 rfl dX8_liveDrawn_55 ?_
    refine sn_getC (r := (1 + 1)) C hw fd_RX8_100 (sn_look sn_isX2_1 (k := 0) rfl) rfl dX8_liveDrawn_58 ?_
    refine lv_iconst (v := 4) hx hb dX8_liveDrawn_61 rfl ?_
    obtain ⟨g_4, hf⟩ := sn_gdE hf
    refine sn_iald C hw (sn_look sn_isX2_1 (k := 1) rfl) g_4 dX8_liveDrawn_62 ?_
    refine lv_i2l hx hb dX8_liveDrawn_63 rfl ?_
    refine W.lcmp hx hb dX8_liveDrawn_64 ?_
    refine lv_if_ge (tgt := 89) hx hb dX8_liveDrawn_65 (by decide) (fun c_5 => ?_) (fun c_5 => ?_)
    · have hf := sn_if c_5 hf
      exact wX8_liveDrawn_89 C  hf kc kx _ _ _ hw (lv_sub hl [1, 2, 0, 3] rfl)
    · have hf := sn_el c_5 hf
      refine lv_iload_n hx hb dX8_liveDrawn_68 rfl (lv_at hl 2 rfl) ?_
      refine lv_iconst (v := 1) hx hb dX8_liveDrawn_69 rfl ?_
      refine lv_iload hx hb dX8_liveDrawn_70 (lv_at hl 3 rfl) ?_
      refine lv_ishl hx hb dX8_liveDrawn_72 ?_
      refine lv_ior hx hb dX8_liveDrawn_73 ?_
      obtain ⟨y_6, e_7, hf⟩ := sn_ltE hf
      refine lv_topi (fun y_6_ e_7_ => ?_)
      obtain rfl : y_6 = y_6_ := e_7.trans e_7_.symm
      refine lv_istore_n (lv' := [(2, .int y_6), (3, .long y_2), (0, .ref (ad 0)), (5, .int x5)]) hx hb dX8_liveDrawn_74 rfl hl (by decide) rfl (fun ls hl => ?_)
      refine lv_aload_n hx hb dX8_liveDrawn_75 rfl (lv_at hl 2 rfl) ?_
      refine sn_getC (r := 38) C hw fd_RX8_48 layC_0 rfl dX8_liveDrawn_76 ?_
      refine sn_getC (r := (38 + 1)) C hw fd_RX8_128 (sn_look sn_isX0_38 (k := 0) rfl) rfl dX8_liveDrawn_79 ?_
      refine lv_iload hx hb dX8_liveDrawn_82 (lv_at hl 3 rfl) ?_
      refine lv_dup2_11 hx hb dX8_liveDrawn_84 rfl rfl ?_
      obtain ⟨g_8, hf⟩ := sn_gdE hf
      refine sn_iald C hw (sn_look sn_isX0_38 (k := 1) rfl) g_8 dX8_liveDrawn_85 ?_
      refine lv_iconst (v := 3) hx hb dX8_liveDrawn_86 rfl ?_
      refine lv_iadd hx hb dX8_liveDrawn_87 ?_
      obtain ⟨g_9, hf⟩ := sn_gdE hf
      refine sn_iast C hw (sn_look sn_isX0_38 (k := 1) rfl) g_9 dX8_liveDrawn_88 (fun H locs hw => ?_)
      obtain ⟨σ_10, e_11, hf⟩ := sn_ltE hf
      rw [← e_11] at hw
      exact wX8_liveDrawn_89 C  hf kc kx _ _ _ hw (lv_sub hl [2, 0, 1, 3] rfl)
theorem wX8_liveDrawn_L19 (C : sn_C p s m args meth c RX8 cX8_liveDrawn 6 (some .int) D ct ad layC A)    {z : sn_S × Int32 × Int64 × Int32} {t : sn_S × Int32} (h : sn_it (LX8_liveDrawn_19 ) 5000 z = some t) (kx : ∀ v, t = v → sn_At p l e rmX8_liveDrawn s m args below meth c Q D ct ad layC A 6 v.1 95 [(0, .ref (ad 0)), (2, .int v.2)] []) : sn_At p l e rmX8_liveDrawn s m args below meth c Q D ct ad layC A 6 z.1 19 [(0, .ref (ad 0)), (2, .int z.2.1), (3, .long z.2.2.1), (5, .int z.2.2.2)] [] :=
  sn_loop (f := LX8_liveDrawn_19 ) (G := fun z => sn_At p l e rmX8_liveDrawn s m args below meth c Q D ct ad layC A 6 z.1 19 [(0, .ref (ad 0)), (2, .int z.2.1), (3, .long z.2.2.1), (5, .int z.2.2.2)] []) (E := fun t => (∀ v, t = v → sn_At p l e rmX8_liveDrawn s m args below meth c Q D ct ad layC A 6 v.1 95 [(0, .ref (ad 0)), (2, .int v.2)] []) ∧ True) (fun z o hf k1 k2 => wX8_liveDrawn_19 C  hf (fun v e => k1 v e) (fun v e => (k2 _ e).1 v rfl)) 5000 z t h ⟨kx, trivial⟩
theorem wX8_liveDrawn_in (C : sn_C p s m args meth c RX8 cX8_liveDrawn 6 (some .int) D ct ad layC A) {σ : sn_S} {x1 : Int32}  {o : (Int32 × sn_S)} (hf : fX8_liveDrawn σ x1 = some o) (kr : sn_Kr p l e rmX8_liveDrawn s m args below meth c Q D ct ad layC A cX8_liveDrawn .ireturn (true) o.2 [.int o.1]) : sn_At p l e rmX8_liveDrawn s m args below meth c Q D ct ad layC A 6 σ 0 [(0, .ref (ad 0)), (1, .int x1)] [] := by
  intro H locs ls hw hl
  have hx := C.1
  have hb := C.2.1
  unfold fX8_liveDrawn at hf
  refine lv_aload_n hx hb dX8_liveDrawn_0 rfl (lv_at hl 0 rfl) ?_
  refine sn_getC (r := 38) C hw fd_RX8_48 layC_0 rfl dX8_liveDrawn_1 ?_
  refine lv_aload_n hx hb dX8_liveDrawn_4 rfl (lv_at hl 0 rfl) ?_
  refine sn_getC (r := 27) C hw fd_RX8_44 layC_0 rfl dX8_liveDrawn_5 ?_
  obtain ⟨t_1, h_2, hf⟩ := sn_bd hf
  refine sn_callVv (rest := []) C hw (ctX0_copyFrom l sn_isX0_38 sn_isX0_27 h_2) kl_RX8_183 (sn_look sn_isX0_38 (k := 0) rfl) rfl rfl rfl rfl (Nat.le_of_ble_eq_true rfl) dX8_liveDrawn_8 hl.1 (fun H locs hw => ?_)
  refine lv_iconst (v := 0) hx hb dX8_liveDrawn_11 rfl ?_
  refine lv_istore_n (lv' := [(2, .int (0 : Int32)), (0, .ref (ad 0)), (1, .int x1)]) hx hb dX8_liveDrawn_12 rfl hl (by decide) rfl (fun ls hl => ?_)
  refine lv_iload_n hx hb dX8_liveDrawn_13 rfl (lv_at hl 2 rfl) ?_
  refine lv_i2l hx hb dX8_liveDrawn_14 rfl ?_
  refine lv_lstore_n (lv' := [(3, .long x1.toInt64), (2, .int (0 : Int32)), (0, .ref (ad 0)), (1, .int x1)]) hx hb dX8_liveDrawn_15 rfl hl (by decide) rfl (fun ls hl => ?_)
  refine lv_iconst (v := 0) hx hb dX8_liveDrawn_16 rfl ?_
  refine lv_istore (lv' := [(5, .int (0 : Int32)), (3, .long x1.toInt64), (2, .int (0 : Int32)), (0, .ref (ad 0)), (1, .int x1)]) hx hb dX8_liveDrawn_17 hl (by decide) rfl (fun ls hl => ?_)
  obtain ⟨t_3, h_4, hf⟩ := sn_bd hf
  exact wX8_liveDrawn_L19 C  h_4 (fun v e => by cases e; exact wX8_liveDrawn_95 C  hf kr) _ _ _ hw (lv_sub hl [3, 2, 1, 0] rfl)
theorem ctX8_liveDrawn (l : Launch) {σ : sn_S} {x1 : Int32}  {o : (Int32 × sn_S)} (hf : fX8_liveDrawn σ x1 = some o) : sn_M l yX8_liveDrawn cX8_liveDrawn 6 (some .int) rmX8_liveDrawn layC (fun ad => [.ref (ad 0), .int x1]) σ (some (fun _ => .int o.1)) o.2 :=
  sn_met (by decide) (fun _ => Nat.le_of_ble_eq_true rfl) (fun p e s m args below meth c ls D ct ad A C hw hl => wX8_liveDrawn_in C  hf (fun H locs ls pc hw ok hd => sn_iret C hw hd) _ _ _ hw hl)
-- X8_drawn
abbrev rmX8_drawn : Room := { frames := 6, cells := 0, slots := 0, locals := 138 }
def fX8_drawn (σ : sn_S) (x1 : Int32) (x2 : Int32) : Option (Int32 × sn_S) :=
  ((fX8_isHouse σ).bind fun t_1 => (if t_1 = 0 then
  (some ((-2 : Int32), σ))
  else
  ((fX8_isSeed x1).bind fun t_4 => (if t_4 = 0 then
  (some ((-2 : Int32), σ))
  else
  (if x2 < 0 then
  (some ((-2 : Int32), σ))
  else
  (if x2 ≤ (2 : Int32) then
  ((fX8_liveDrawn σ x1).bind fun t_9 => (if x2 = 0 then
  (some (t_9.1, t_9.2))
  else
  (if x2 = (1 : Int32) then
  ((fX0_total t_9.2 38).bind fun t_18 => (some (t_18, t_9.2)))
  else
  (sn_gd (sn_in (2 : Int32) 11) ((fX3_reckon t_9.2 49 1 38 (sn_I t_9.2 (1 + 1) (2 : Int32).toNatClampNeg)).bind fun t_14 => ((fX3_firstBelow t_14 49 (sn_I t_14 38 0)).bind fun t_16 => (some (t_16, t_14))))))))
  else
  (some ((-2 : Int32), σ))))))))
theorem wX8_drawn_in (C : sn_C p s m args meth c RX8 cX8_drawn 4 (some .int) D ct ad layC A) {σ : sn_S} {x1 : Int32} {x2 : Int32}  {o : (Int32 × sn_S)} (hf : fX8_drawn σ x1 x2 = some o) (kr : sn_Kr p l e rmX8_drawn s m args below meth c Q D ct ad layC A cX8_drawn .ireturn (true) o.2 [.int o.1]) : sn_At p l e rmX8_drawn s m args below meth c Q D ct ad layC A 4 σ 0 [(0, .ref (ad 0)), (1, .int x1), (2, .int x2)] [] := by
  intro H locs ls hw hl
  have hx := C.1
  have hb := C.2.1
  unfold fX8_drawn at hf
  refine lv_aload_n hx hb dX8_drawn_0 rfl (lv_at hl 0 rfl) ?_
  obtain ⟨t_1, h_2, hf⟩ := sn_bd hf
  refine sn_callVi (rest := []) C hw (ctX8_isHouse l  h_2) kl_RX8_137 layC_0 rfl rfl rfl rfl (Nat.le_of_ble_eq_true rfl) dX8_drawn_1 hl.1 (fun H locs hw => ?_)
  refine lv_if_eq (tgt := 23) hx hb dX8_drawn_4 (by decide) (fun c_3 => ?_) (fun c_3 => ?_)
  · have hf := sn_if c_3 hf
    refine lv_bipush (v := (-2)) hx hb dX8_drawn_23 (by decide) ?_
    cases hf
    exact kr _ _ _ _ hw rfl dX8_drawn_25
  · have hf := sn_el c_3 hf
    refine lv_iload_n hx hb dX8_drawn_7 rfl (lv_at hl 1 rfl) ?_
    obtain ⟨t_4, h_5, hf⟩ := sn_bd hf
    refine sn_callSi (rest := []) C hw (ctX8_isSeed l  h_5) kl_RX8_329 rfl rfl rfl (Nat.le_of_ble_eq_true rfl) dX8_drawn_8 hl.1 (fun H locs hw => ?_)
    refine lv_if_eq (tgt := 23) hx hb dX8_drawn_11 (by decide) (fun c_6 => ?_) (fun c_6 => ?_)
    · have hf := sn_if c_6 hf
      refine lv_bipush (v := (-2)) hx hb dX8_drawn_23 (by decide) ?_
      cases hf
      exact kr _ _ _ _ hw rfl dX8_drawn_25
    · have hf := sn_el c_6 hf
      refine lv_iload_n hx hb dX8_drawn_14 rfl (lv_at hl 2 rfl) ?_
      refine lv_if_lt (tgt := 23) hx hb dX8_drawn_15 (by decide) (fun c_7 => ?_) (fun c_7 => ?_)
      · have hf := sn_if c_7 hf
        refine lv_bipush (v := (-2)) hx hb dX8_drawn_23 (by decide) ?_
        cases hf
        exact kr _ _ _ _ hw rfl dX8_drawn_25
      · have hf := sn_el c_7 hf
        refine lv_iload_n hx hb dX8_drawn_18 rfl (lv_at hl 2 rfl) ?_
        refine lv_iconst (v := 2) hx hb dX8_drawn_19 rfl ?_
        refine lv_icmp_le (tgt := 26) hx hb dX8_drawn_20 (by decide) (fun c_8 => ?_) (fun c_8 => ?_)
        · have hf := sn_if c_8 hf
          refine lv_aload_n hx hb dX8_drawn_26 rfl (lv_at hl 0 rfl) ?_
          refine lv_iload_n hx hb dX8_drawn_27 rfl (lv_at hl 1 rfl) ?_
          obtain ⟨t_9, h_10, hf⟩ := sn_bd hf
          refine sn_callVi (rest := []) C hw (ctX8_liveDrawn l  h_10) kl_RX8_332 layC_0 rfl rfl rfl rfl (Nat.le_of_ble_eq_true rfl) dX8_drawn_28 hl.1 (fun H locs hw => ?_)
          refine lv_istore_n (lv' := [(3, .int t_9.1), (0, .ref (ad 0)), (1, .int x1), (2, .int x2)]) hx hb dX8_drawn_31 rfl hl (by decide) rfl (fun ls hl => ?_)
          refine lv_iload_n hx hb dX8_drawn_32 rfl (lv_at hl 3 rfl) ?_
          refine lv_if_ne (tgt := 38) hx hb dX8_drawn_33 (by decide) (fun c_11 => ?_) (fun c_11 => ?_)
          · have hf := sn_el c_11 hf
            refine lv_iload_n hx hb dX8_drawn_38 rfl (lv_at hl 3 rfl) ?_
            refine lv_iconst (v := 1) hx hb dX8_drawn_39 rfl ?_
            refine lv_icmp_ne (tgt := 51) hx hb dX8_drawn_40 (by decide) (fun c_12 => ?_) (fun c_12 => ?_)
            · have hf := sn_el c_12 hf
              refine lv_aload_n hx hb dX8_drawn_51 rfl (lv_at hl 1 rfl) ?_
              refine sn_getC (r := 49) C hw fd_RX8_54 layC_0 rfl dX8_drawn_52 ?_
              refine lv_aload_n hx hb dX8_drawn_55 rfl (lv_at hl 1 rfl) ?_
              refine sn_getC (r := 1) C hw fd_RX8_10 layC_0 rfl dX8_drawn_56 ?_
              refine lv_aload_n hx hb dX8_drawn_59 rfl (lv_at hl 1 rfl) ?_
              refine sn_getC (r := 38) C hw fd_RX8_48 layC_0 rfl dX8_drawn_60 ?_
              refine lv_aload_n hx hb dX8_drawn_63 rfl (lv_at hl 1 rfl) ?_
              refine sn_getC (r := 1) C hw fd_RX8_10 layC_0 rfl dX8_drawn_64 ?_
              refine sn_getC (r := (1 + 1)) C hw fd_RX8_100 (sn_look sn_isX2_1 (k := 0) rfl) rfl dX8_drawn_67 ?_
              refine lv_iconst (v := 2) hx hb dX8_drawn_70 rfl ?_
              obtain ⟨g_13, hf⟩ := sn_gdE hf
              refine sn_iald C hw (sn_look sn_isX2_1 (k := 1) rfl) g_13 dX8_drawn_71 ?_
              obtain ⟨t_14, h_15, hf⟩ := sn_bd hf
              refine sn_callVv (rest := []) C hw (ctX3_reckon l sn_isX3_49 sn_isX2_1 sn_isX0_38 h_15) kl_RX8_234 (sn_look sn_isX3_49 (k := 0) rfl) rfl rfl rfl rfl (Nat.le_of_ble_eq_true rfl) dX8_drawn_72 hl.1 (fun H locs hw => ?_)
              refine lv_aload_n hx hb dX8_drawn_75 rfl (lv_at hl 1 rfl) ?_
              refine sn_getC (r := 49) C hw fd_RX8_54 layC_0 rfl dX8_drawn_76 ?_
              refine lv_aload_n hx hb dX8_drawn_79 rfl (lv_at hl 1 rfl) ?_
              refine sn_getC (r := 38) C hw fd_RX8_48 layC_0 rfl dX8_drawn_80 ?_
              refine sn_getI C hw fd_RX8_151 (sn_look sn_isX0_38 (k := 0) rfl) rfl dX8_drawn_83 ?_
              obtain ⟨t_16, h_17, hf⟩ := sn_bd hf
              refine sn_callVi (rest := []) C hw (ctX3_firstBelow l sn_isX3_49 h_17) kl_RX8_228 (sn_look sn_isX3_49 (k := 0) rfl) rfl rfl rfl rfl (Nat.le_of_ble_eq_true rfl) dX8_drawn_86 hl.1 (fun H locs hw => ?_)
              cases hf
              exact kr _ _ _ _ hw rfl dX8_drawn_89
            · have hf := sn_if c_12 hf
              refine lv_aload_n hx hb dX8_drawn_43 rfl (lv_at hl 1 rfl) ?_
              refine sn_getC (r := 38) C hw fd_RX8_48 layC_0 rfl dX8_drawn_44 ?_
              obtain ⟨t_18, h_19, hf⟩ := sn_bd hf
              refine sn_callVi (rest := []) C hw (ctX0_total l sn_isX0_38 h_19) kl_RX8_141 (sn_look sn_isX0_38 (k := 0) rfl) rfl rfl rfl rfl (Nat.le_of_ble_eq_true rfl) dX8_drawn_47 hl.1 (fun H locs hw => ?_)
              cases hf
              exact kr _ _ _ _ hw rfl dX8_drawn_50
          · have hf := sn_if c_11 hf
            refine lv_iload_n hx hb dX8_drawn_36 rfl (lv_at hl 0 rfl) ?_
            cases hf
            exact kr _ _ _ _ hw rfl dX8_drawn_37
        · have hf := sn_el c_8 hf
          refine lv_bipush (v := (-2)) hx hb dX8_drawn_23 (by decide) ?_
          cases hf
          exact kr _ _ _ _ hw rfl dX8_drawn_25
theorem ctX8_drawn (l : Launch) {σ : sn_S} {x1 : Int32} {x2 : Int32}  {o : (Int32 × sn_S)} (hf : fX8_drawn σ x1 x2 = some o) : sn_M l yX8_drawn cX8_drawn 4 (some .int) rmX8_drawn layC (fun ad => [.ref (ad 0), .int x1, .int x2]) σ (some (fun _ => .int o.1)) o.2 :=
  sn_met (by decide) (fun _ => Nat.le_of_ble_eq_true rfl) (fun p e s m args below meth c ls D ct ad A C hw hl => wX8_drawn_in C  hf (fun H locs ls pc hw ok hd => sn_iret C hw hd) _ _ _ hw hl)
-- X8_luck
abbrev rmX8_luck : Room := { frames := 6, cells := 0, slots := 0, locals := 138 }
def BX8_luck_95 (σ : sn_S) (x4 : Int32) : Option ((Int32 × sn_S)) :=
  (some (x4, σ))
def BX8_luck_89 (σ : sn_S) (x1 : Int32) (x2 : Int32) (x3 : Int32) (x4 : Int32) (x5 : Int32) : Option ((sn_S × Int32 × Int32) ⊕ (sn_S × Int32)) :=
  (sn_lt (x5 + 1) fun y_1 => (some (.inl (σ, x4, y_1))))
def BX8_luck_35 (σ : sn_S) (x1 : Int32) (x2 : Int32) (x3 : Int32) (x4 : Int32) (x5 : Int32) : Option ((sn_S × Int32 × Int32) ⊕ (sn_S × Int32)) :=
  (if x2 ≤ x5 then
  (some (.inr (σ, x4)))
  else
  ((fX8_liveDrawn σ (x1 + x5)).bind fun t_2 => (sn_gd (sn_in (2 : Int32) 11) ((fX3_reckon t_2.2 49 1 38 (sn_I t_2.2 (1 + 1) (2 : Int32).toNatClampNeg)).bind fun t_5 => (sn_gd (sn_in x3 6) (if (sn_I t_5 (49 + 1) x3.toNatClampNeg) ≤ 0 then
  (BX8_luck_89 t_5 x1 x2 x3 x4 x5)
  else
  (sn_lt (x4 + 1) fun y_9 => (BX8_luck_89 t_5 x1 x2 x3 y_9 x5))))))))
def LX8_luck_35 (x1 : Int32) (x2 : Int32) (x3 : Int32) (s : sn_S × Int32 × Int32) : Option ((sn_S × Int32 × Int32) ⊕ (sn_S × Int32)) := BX8_luck_35 s.1 x1 x2 x3 s.2.1 s.2.2
def fX8_luck (σ : sn_S) (x1 : Int32) (x2 : Int32) (x3 : Int32) : Option (Int32 × sn_S) :=
  ((fX8_isPolicy σ x3).bind fun t_1 => (if t_1 = 0 then
  (some ((-2 : Int32), σ))
  else
  ((fX8_isSeed x1).bind fun t_4 => (if t_4 = 0 then
  (some ((-2 : Int32), σ))
  else
  (if x2 < (1 : Int32) then
  (some ((-2 : Int32), σ))
  else
  (if x2 ≤ (20 : Int32) then
  ((sn_it (LX8_luck_35 x1 x2 x3) 5000 (σ, (0 : Int32), (0 : Int32))).bind fun t_9 => (BX8_luck_95 t_9.1 t_9.2))
  else
  (some ((-2 : Int32), σ))))))))
theorem wX8_luck_95 (C : sn_C p s m args meth c RX8 cX8_luck 6 (some .int) D ct ad layC A) {σ : sn_S} {x4 : Int32}  {o : (Int32 × sn_S)} (hf : BX8_luck_95 σ x4 = some o) (kr : sn_Kr p l e rmX8_luck s m args below meth c Q D ct ad layC A cX8_luck .ireturn (true) o.2 [.int o.1]) : sn_At p l e rmX8_luck s m args below meth c Q D ct ad layC A 6 σ 95 [(4, .int x4)] [] := by
  intro H locs ls hw hl
  have hx := C.1
  have hb := C.2.1
  unfold BX8_luck_95 at hf
  refine lv_iload hx hb dX8_luck_95 (lv_at hl 0 rfl) ?_
  cases hf
  exact kr _ _ _ _ hw rfl dX8_luck_97
theorem wX8_luck_89 (C : sn_C p s m args meth c RX8 cX8_luck 6 (some .int) D ct ad layC A) {σ : sn_S} {x1 : Int32} {x2 : Int32} {x3 : Int32} {x4 : Int32} {x5 : Int32}  {o : (sn_S × Int32 × Int32) ⊕ (sn_S × Int32)} (hf : BX8_luck_89 σ x1 x2 x3 x4 x5 = some o) (kc : ∀ v, o = .inl v → sn_At p l e rmX8_luck s m args below meth c Q D ct ad layC A 6 v.1 35 [(0, .ref (ad 0)), (1, .int x1), (2, .int x2), (3, .int x3), (4, .int v.2.1), (5, .int v.2.2)] []) (kx : ∀ v, o = .inr v → sn_At p l e rmX8_luck s m args below meth c Q D ct ad layC A 6 v.1 95 [(4, .int v.2)] []) : sn_At p l e rmX8_luck s m args below meth c Q D ct ad layC A 6 σ 89 [(0, .ref (ad 0)), (1, .int x1), (2, .int x2), (3, .int x3), (4, .int x4), (5, .int x5)] [] := by
  intro H locs ls hw hl
  have hx := C.1
  have hb := C.2.1
  unfold BX8_luck_89 at hf
  obtain ⟨y_1, e_2, hf⟩ := sn_ltE hf
  refine lv_iinc (v := y_1) (lv' := [(5, .int y_1), (0, .ref (ad 0)), (1, .int x1), (2, .int x2), (3, .int x3), (4, .int x4)]) hx hb dX8_luck_89 hl (k := 5) rfl (by rw [e_2]; rfl) (by decide) rfl (fun ls hl => ?_)
  refine lv_goto (tgt := 35) hx hb dX8_luck_92 (by decide) ?_
  cases hf
  exact kc _ rfl _ _ _ hw (lv_sub hl [1, 2, 3, 4, 5, 0] rfl)
theorem wX8_luck_35 (C : sn_C p s m args meth c RX8 cX8_luck 6 (some .int) D ct ad layC A) {σ : sn_S} {x1 : Int32} {x2 : Int32} {x3 : Int32} {x4 : Int32} {x5 : Int32}  {o : (sn_S × Int32 × Int32) ⊕ (sn_S × Int32)} (hf : BX8_luck_35 σ x1 x2 x3 x4 x5 = some o) (kc : ∀ v, o = .inl v → sn_At p l e rmX8_luck s m args below meth c Q D ct ad layC A 6 v.1 35 [(0, .ref (ad 0)), (1, .int x1), (2, .int x2), (3, .int x3), (4, .int v.2.1), (5, .int v.2.2)] []) (kx : ∀ v, o = .inr v → sn_At p l e rmX8_luck s m args below meth c Q D ct ad layC A 6 v.1 95 [(4, .int v.2)] []) : sn_At p l e rmX8_luck s m args below meth c Q D ct ad layC A 6 σ 35 [(0, .ref (ad 0)), (1, .int x1), (2, .int x2), (3, .int x3), (4, .int x4), (5, .int x5)] [] := by
  intro H locs ls hw hl
  have hx := C.1
  have hb := C.2.1
  unfold BX8_luck_35 at hf
  refine lv_iload hx hb dX8_luck_35 (lv_at hl 5 rfl) ?_
  refine lv_iload_n hx hb dX8_luck_37 rfl (lv_at hl 2 rfl) ?_
  refine lv_icmp_ge (tgt := 95) hx hb dX8_luck_38 (by decide) (fun c_1 => ?_) (fun c_1 => ?_)
  · have hf := sn_if c_1 hf
    cases hf
    exact kx _ rfl _ _ _ hw (lv_sub hl [4] rfl)
  · have hf := sn_el c_1 hf
    refine lv_aload_n hx hb dX8_luck_41 rfl (lv_at hl 0 rfl) ?_
    refine lv_iload_n hx hb dX8_luck_42 rfl (lv_at hl 1 rfl) ?_
    refine lv_iload hx hb dX8_luck_43 (lv_at hl 5 rfl) ?_
    refine lv_iadd hx hb dX8_luck_45 ?_
    obtain ⟨t_2, h_3, hf⟩ := sn_bd hf
    refine sn_callVi (rest := []) C hw (ctX8_liveDrawn l  h_3) kl_RX8_332 layC_0 rfl rfl rfl rfl (Nat.le_of_ble_eq_true rfl) dX8_luck_46 hl.1 (fun H locs hw => ?_)
    refine lv_pop hx hb dX8_luck_49 rfl ?_
    refine lv_aload_n hx hb dX8_luck_50 rfl (lv_at hl 0 rfl) ?_
    refine sn_getC (r := 49) C hw fd_RX8_54 layC_0 rfl dX8_luck_51 ?_
    refine lv_aload_n hx hb dX8_luck_54 rfl (lv_at hl 0 rfl) ?_
    refine sn_getC (r := 1) C hw fd_RX8_10 layC_0 rfl dX8_luck_55 ?_
    refine lv_aload_n hx hb dX8_luck_58 rfl (lv_at hl 0 rfl) ?_
    refine sn_getC (r := 38) C hw fd_RX8_48 layC_0 rfl dX8_luck_59 ?_
    refine lv_aload_n hx hb dX8_luck_62 rfl (lv_at hl 0 rfl) ?_
    refine sn_getC (r := 1) C hw fd_RX8_10 layC_0 rfl dX8_luck_63 ?_
    refine sn_getC (r := (1 + 1)) C hw fd_RX8_100 (sn_look sn_isX2_1 (k := 0) rfl) rfl dX8_luck_66 ?_
    refine lv_iconst (v := 2) hx hb dX8_luck_69 rfl ?_
    obtain ⟨g_4, hf⟩ := sn_gdE hf
    refine sn_iald C hw (sn_look sn_isX2_1 (k := 1) rfl) g_4 dX8_luck_70 ?_
    obtain ⟨t_5, h_6, hf⟩ := sn_bd hf
    refine sn_callVv (rest := []) C hw (ctX3_reckon l sn_isX3_49 sn_isX2_1 sn_isX0_38 h_6) kl_RX8_234 (sn_look sn_isX3_49 (k := 0) rfl) rfl rfl rfl rfl (Nat.le_of_ble_eq_true rfl) dX8_luck_71 hl.1 (fun H locs hw => ?_)
    refine lv_aload_n hx hb dX8_luck_74 rfl (lv_at hl 0 rfl) ?_
    refine sn_getC (r := 49) C hw fd_RX8_54 layC_0 rfl dX8_luck_75 ?_
    refine sn_getC (r := (49 + 1)) C hw fd_RX8_212 (sn_look sn_isX3_49 (k := 0) rfl) rfl dX8_luck_78 ?_
    refine lv_iload_n hx hb dX8_luck_81 rfl (lv_at hl 3 rfl) ?_
    obtain ⟨g_7, hf⟩ := sn_gdE hf
    refine sn_iald C hw (sn_look sn_isX3_49 (k := 1) rfl) g_7 dX8_luck_82 ?_
    refine lv_if_le (tgt := 89) hx hb dX8_luck_83 (by decide) (fun c_8 => ?_) (fun c_8 => ?_)
    · have hf := sn_if c_8 hf
      exact wX8_luck_89 C  hf kc kx _ _ _ hw (lv_sub hl [0, 1, 2, 3, 4, 5] rfl)
    · have hf := sn_el c_8 hf
      obtain ⟨y_9, e_10, hf⟩ := sn_ltE hf
      refine lv_iinc (v := y_9) (lv' := [(4, .int y_9), (0, .ref (ad 0)), (1, .int x1), (2, .int x2), (3, .int x3), (5, .int x5)]) hx hb dX8_luck_86 hl (k := 4) rfl (by rw [e_10]; rfl) (by decide) rfl (fun ls hl => ?_)
      exact wX8_luck_89 C  hf kc kx _ _ _ hw (lv_sub hl [1, 2, 3, 4, 0, 5] rfl)
theorem wX8_luck_L35 (C : sn_C p s m args meth c RX8 cX8_luck 6 (some .int) D ct ad layC A) {x1 : Int32} {x2 : Int32} {x3 : Int32}   {z : sn_S × Int32 × Int32} {t : sn_S × Int32} (h : sn_it (LX8_luck_35 x1 x2 x3) 5000 z = some t) (kx : ∀ v, t = v → sn_At p l e rmX8_luck s m args below meth c Q D ct ad layC A 6 v.1 95 [(4, .int v.2)] []) : sn_At p l e rmX8_luck s m args below meth c Q D ct ad layC A 6 z.1 35 [(0, .ref (ad 0)), (1, .int x1), (2, .int x2), (3, .int x3), (4, .int z.2.1), (5, .int z.2.2)] [] :=
  sn_loop (f := LX8_luck_35 x1 x2 x3) (G := fun z => sn_At p l e rmX8_luck s m args below meth c Q D ct ad layC A 6 z.1 35 [(0, .ref (ad 0)), (1, .int x1), (2, .int x2), (3, .int x3), (4, .int z.2.1), (5, .int z.2.2)] []) (E := fun t => (∀ v, t = v → sn_At p l e rmX8_luck s m args below meth c Q D ct ad layC A 6 v.1 95 [(4, .int v.2)] []) ∧ True) (fun z o hf k1 k2 => wX8_luck_35 C  hf (fun v e => k1 v e) (fun v e => (k2 _ e).1 v rfl)) 5000 z t h ⟨kx, trivial⟩
theorem wX8_luck_in (C : sn_C p s m args meth c RX8 cX8_luck 6 (some .int) D ct ad layC A) {σ : sn_S} {x1 : Int32} {x2 : Int32} {x3 : Int32}  {o : (Int32 × sn_S)} (hf : fX8_luck σ x1 x2 x3 = some o) (kr : sn_Kr p l e rmX8_luck s m args below meth c Q D ct ad layC A cX8_luck .ireturn (true) o.2 [.int o.1]) : sn_At p l e rmX8_luck s m args below meth c Q D ct ad layC A 6 σ 0 [(0, .ref (ad 0)), (1, .int x1), (2, .int x2), (3, .int x3)] [] := by
  intro H locs ls hw hl
  have hx := C.1
  have hb := C.2.1
  unfold fX8_luck at hf
  refine lv_aload_n hx hb dX8_luck_0 rfl (lv_at hl 0 rfl) ?_
  refine lv_iload_n hx hb dX8_luck_1 rfl (lv_at hl 3 rfl) ?_
  obtain ⟨t_1, h_2, hf⟩ := sn_bd hf
  refine sn_callVi (rest := []) C hw (ctX8_isPolicy l  h_2) kl_RX8_114 layC_0 rfl rfl rfl rfl (Nat.le_of_ble_eq_true rfl) dX8_luck_2 hl.1 (fun H locs hw => ?_)
  refine lv_if_eq (tgt := 26) hx hb dX8_luck_5 (by decide) (fun c_3 => ?_) (fun c_3 => ?_)
  · have hf := sn_if c_3 hf
    refine lv_bipush (v := (-2)) hx hb dX8_luck_26 (by decide) ?_
    cases hf
    exact kr _ _ _ _ hw rfl dX8_luck_28
  · have hf := sn_el c_3 hf
    refine lv_iload_n hx hb dX8_luck_8 rfl (lv_at hl 1 rfl) ?_
    obtain ⟨t_4, h_5, hf⟩ := sn_bd hf
    refine sn_callSi (rest := []) C hw (ctX8_isSeed l  h_5) kl_RX8_329 rfl rfl rfl (Nat.le_of_ble_eq_true rfl) dX8_luck_9 hl.1 (fun H locs hw => ?_)
    refine lv_if_eq (tgt := 26) hx hb dX8_luck_12 (by decide) (fun c_6 => ?_) (fun c_6 => ?_)
    · have hf := sn_if c_6 hf
      refine lv_bipush (v := (-2)) hx hb dX8_luck_26 (by decide) ?_
      cases hf
      exact kr _ _ _ _ hw rfl dX8_luck_28
    · have hf := sn_el c_6 hf
      refine lv_iload_n hx hb dX8_luck_15 rfl (lv_at hl 2 rfl) ?_
      refine lv_iconst (v := 1) hx hb dX8_luck_16 rfl ?_
      refine lv_icmp_lt (tgt := 26) hx hb dX8_luck_17 (by decide) (fun c_7 => ?_) (fun c_7 => ?_)
      · have hf := sn_if c_7 hf
        refine lv_bipush (v := (-2)) hx hb dX8_luck_26 (by decide) ?_
        cases hf
        exact kr _ _ _ _ hw rfl dX8_luck_28
      · have hf := sn_el c_7 hf
        refine lv_iload_n hx hb dX8_luck_20 rfl (lv_at hl 2 rfl) ?_
        refine lv_bipush (v := 20) hx hb dX8_luck_21 (by decide) ?_
        refine lv_icmp_le (tgt := 29) hx hb dX8_luck_23 (by decide) (fun c_8 => ?_) (fun c_8 => ?_)
        · have hf := sn_if c_8 hf
          refine lv_iconst (v := 0) hx hb dX8_luck_29 rfl ?_
          refine lv_istore (lv' := [(4, .int (0 : Int32)), (0, .ref (ad 0)), (1, .int x1), (2, .int x2), (3, .int x3)]) hx hb dX8_luck_30 hl (by decide) rfl (fun ls hl => ?_)
          refine lv_iconst (v := 0) hx hb dX8_luck_32 rfl ?_
          refine lv_istore (lv' := [(5, .int (0 : Int32)), (4, .int (0 : Int32)), (0, .ref (ad 0)), (1, .int x1), (2, .int x2), (3, .int x3)]) hx hb dX8_luck_33 hl (by decide) rfl (fun ls hl => ?_)
          obtain ⟨t_9, h_10, hf⟩ := sn_bd hf
          exact wX8_luck_L35 C  h_10 (fun v e => by cases e; exact wX8_luck_95 C  hf kr) _ _ _ hw (lv_sub hl [2, 3, 4, 5, 1, 0] rfl)
        · have hf := sn_el c_8 hf
          refine lv_bipush (v := (-2)) hx hb dX8_luck_26 (by decide) ?_
          cases hf
          exact kr _ _ _ _ hw rfl dX8_luck_28
theorem ctX8_luck (l : Launch) {σ : sn_S} {x1 : Int32} {x2 : Int32} {x3 : Int32}  {o : (Int32 × sn_S)} (hf : fX8_luck σ x1 x2 x3 = some o) : sn_M l yX8_luck cX8_luck 6 (some .int) rmX8_luck layC (fun ad => [.ref (ad 0), .int x1, .int x2, .int x3]) σ (some (fun _ => .int o.1)) o.2 :=
  sn_met (by decide) (fun _ => Nat.le_of_ble_eq_true rfl) (fun p e s m args below meth c ls D ct ad A C hw hl => wX8_luck_in C  hf (fun H locs ls pc hw ok hd => sn_iret C hw hd) _ _ _ hw hl)
-- X8_stifle
abbrev rmX8_stifle : Room := { frames := 6, cells := 0, slots := 0, locals := 133 }
def fX8_stifle (σ : sn_S) (x1 : Int32) (x2 : Int32) : Option (Int32 × sn_S) :=
  ((fX8_isPerson σ x1).bind fun t_1 => (if t_1 = 0 then
  (some ((-2 : Int32), σ))
  else
  ((fX8_isMinute σ x2).bind fun t_4 => (if t_4 = 0 then
  (some ((-2 : Int32), σ))
  else
  ((fX2_act σ 1 (0 : Int32) x1 x2).bind fun t_7 => (if t_7.1 = 0 then
  (some ((-5 : Int32), t_7.2))
  else
  ((fX8_liveAnew t_7.2).bind fun t_10 => ((fX0_tickleAt t_10 27 x1 x2).bind fun t_12 => (some (t_12, t_10))))))))))
theorem wX8_stifle_in (C : sn_C p s m args meth c RX8 cX8_stifle 3 (some .int) D ct ad layC A) {σ : sn_S} {x1 : Int32} {x2 : Int32}  {o : (Int32 × sn_S)} (hf : fX8_stifle σ x1 x2 = some o) (kr : sn_Kr p l e rmX8_stifle s m args below meth c Q D ct ad layC A cX8_stifle .ireturn (true) o.2 [.int o.1]) : sn_At p l e rmX8_stifle s m args below meth c Q D ct ad layC A 3 σ 0 [(0, .ref (ad 0)), (1, .int x1), (2, .int x2)] [] := by
  intro H locs ls hw hl
  have hx := C.1
  have hb := C.2.1
  unfold fX8_stifle at hf
  refine lv_aload_n hx hb dX8_stifle_0 rfl (lv_at hl 0 rfl) ?_
  refine lv_iload_n hx hb dX8_stifle_1 rfl (lv_at hl 1 rfl) ?_
  obtain ⟨t_1, h_2, hf⟩ := sn_bd hf
  refine sn_callVi (rest := []) C hw (ctX8_isPerson l  h_2) kl_RX8_107 layC_0 rfl rfl rfl rfl (Nat.le_of_ble_eq_true rfl) dX8_stifle_2 hl.1 (fun H locs hw => ?_)
  refine lv_if_eq (tgt := 16) hx hb dX8_stifle_5 (by decide) (fun c_3 => ?_) (fun c_3 => ?_)
  · have hf := sn_if c_3 hf
    refine lv_bipush (v := (-2)) hx hb dX8_stifle_16 (by decide) ?_
    cases hf
    exact kr _ _ _ _ hw rfl dX8_stifle_18
  · have hf := sn_el c_3 hf
    refine lv_aload_n hx hb dX8_stifle_8 rfl (lv_at hl 0 rfl) ?_
    refine lv_iload_n hx hb dX8_stifle_9 rfl (lv_at hl 2 rfl) ?_
    obtain ⟨t_4, h_5, hf⟩ := sn_bd hf
    refine sn_callVi (rest := []) C hw (ctX8_isMinute l  h_5) kl_RX8_125 layC_0 rfl rfl rfl rfl (Nat.le_of_ble_eq_true rfl) dX8_stifle_10 hl.1 (fun H locs hw => ?_)
    refine lv_if_ne (tgt := 19) hx hb dX8_stifle_13 (by decide) (fun c_6 => ?_) (fun c_6 => ?_)
    · have hf := sn_el c_6 hf
      refine lv_aload_n hx hb dX8_stifle_19 rfl (lv_at hl 0 rfl) ?_
      refine sn_getC (r := 1) C hw fd_RX8_10 layC_0 rfl dX8_stifle_20 ?_
      refine lv_iconst (v := 0) hx hb dX8_stifle_23 rfl ?_
      refine lv_iload_n hx hb dX8_stifle_24 rfl (lv_at hl 1 rfl) ?_
      refine lv_iload_n hx hb dX8_stifle_25 rfl (lv_at hl 2 rfl) ?_
      obtain ⟨t_7, h_8, hf⟩ := sn_bd hf
      refine sn_callVi (rest := []) C hw (ctX2_act l sn_isX2_1 h_8) kl_RX8_345 (sn_look sn_isX2_1 (k := 0) rfl) rfl rfl rfl rfl (Nat.le_of_ble_eq_true rfl) dX8_stifle_26 hl.1 (fun H locs hw => ?_)
      refine lv_if_ne (tgt := 35) hx hb dX8_stifle_29 (by decide) (fun c_9 => ?_) (fun c_9 => ?_)
      · have hf := sn_el c_9 hf
        refine lv_aload_n hx hb dX8_stifle_35 rfl (lv_at hl 0 rfl) ?_
        obtain ⟨t_10, h_11, hf⟩ := sn_bd hf
        refine sn_callVv (rest := []) C hw (ctX8_liveAnew l  h_11) kl_RX8_97 layC_0 rfl rfl rfl rfl (Nat.le_of_ble_eq_true rfl) dX8_stifle_36 hl.1 (fun H locs hw => ?_)
        refine lv_aload_n hx hb dX8_stifle_39 rfl (lv_at hl 0 rfl) ?_
        refine sn_getC (r := 27) C hw fd_RX8_44 layC_0 rfl dX8_stifle_40 ?_
        refine lv_iload_n hx hb dX8_stifle_43 rfl (lv_at hl 1 rfl) ?_
        refine lv_iload_n hx hb dX8_stifle_44 rfl (lv_at hl 2 rfl) ?_
        obtain ⟨t_12, h_13, hf⟩ := sn_bd hf
        refine sn_callVi (rest := []) C hw (ctX0_tickleAt l sn_isX0_27 h_13) kl_RX8_148 (sn_look sn_isX0_27 (k := 0) rfl) rfl rfl rfl rfl (Nat.le_of_ble_eq_true rfl) dX8_stifle_45 hl.1 (fun H locs hw => ?_)
        cases hf
        exact kr _ _ _ _ hw rfl dX8_stifle_48
      · have hf := sn_if c_9 hf
        refine lv_bipush (v := (-5)) hx hb dX8_stifle_32 (by decide) ?_
        cases hf
        exact kr _ _ _ _ hw rfl dX8_stifle_34
    · have hf := sn_if c_6 hf
      refine lv_bipush (v := (-2)) hx hb dX8_stifle_16 (by decide) ?_
      cases hf
      exact kr _ _ _ _ hw rfl dX8_stifle_18
theorem ctX8_stifle (l : Launch) {σ : sn_S} {x1 : Int32} {x2 : Int32}  {o : (Int32 × sn_S)} (hf : fX8_stifle σ x1 x2 = some o) : sn_M l yX8_stifle cX8_stifle 3 (some .int) rmX8_stifle layC (fun ad => [.ref (ad 0), .int x1, .int x2]) σ (some (fun _ => .int o.1)) o.2 :=
  sn_met (by decide) (fun _ => Nat.le_of_ble_eq_true rfl) (fun p e s m args below meth c ls D ct ad A C hw hl => wX8_stifle_in C  hf (fun H locs ls pc hw ok hd => sn_iret C hw hd) _ _ _ hw hl)
-- X8_sniff
abbrev rmX8_sniff : Room := { frames := 6, cells := 0, slots := 0, locals := 133 }
def fX8_sniff (σ : sn_S) (x1 : Int32) (x2 : Int32) : Option (Int32 × sn_S) :=
  ((fX8_isPerson σ x1).bind fun t_1 => (if t_1 = 0 then
  (some ((-2 : Int32), σ))
  else
  ((fX8_isMinute σ x2).bind fun t_4 => (if t_4 = 0 then
  (some ((-2 : Int32), σ))
  else
  ((fX2_act σ 1 (1 : Int32) x1 x2).bind fun t_7 => (if t_7.1 = 0 then
  (some ((-5 : Int32), t_7.2))
  else
  ((fX8_liveAnew t_7.2).bind fun t_10 => (sn_gd (sn_in x1 6) ((fX8_hasBit (sn_I t_10 (27 + 10) x1.toNatClampNeg) x2).bind fun t_13 => (if t_13 = 0 then
  (some ((0 : Int32), t_10))
  else
  (some ((1 : Int32), t_10))))))))))))
theorem wX8_sniff_in (C : sn_C p s m args meth c RX8 cX8_sniff 3 (some .int) D ct ad layC A) {σ : sn_S} {x1 : Int32} {x2 : Int32}  {o : (Int32 × sn_S)} (hf : fX8_sniff σ x1 x2 = some o) (kr : sn_Kr p l e rmX8_sniff s m args below meth c Q D ct ad layC A cX8_sniff .ireturn (true) o.2 [.int o.1]) : sn_At p l e rmX8_sniff s m args below meth c Q D ct ad layC A 3 σ 0 [(0, .ref (ad 0)), (1, .int x1), (2, .int x2)] [] := by
  intro H locs ls hw hl
  have hx := C.1
  have hb := C.2.1
  unfold fX8_sniff at hf
  refine lv_aload_n hx hb dX8_sniff_0 rfl (lv_at hl 0 rfl) ?_
  refine lv_iload_n hx hb dX8_sniff_1 rfl (lv_at hl 1 rfl) ?_
  obtain ⟨t_1, h_2, hf⟩ := sn_bd hf
  refine sn_callVi (rest := []) C hw (ctX8_isPerson l  h_2) kl_RX8_107 layC_0 rfl rfl rfl rfl (Nat.le_of_ble_eq_true rfl) dX8_sniff_2 hl.1 (fun H locs hw => ?_)
  refine lv_if_eq (tgt := 16) hx hb dX8_sniff_5 (by decide) (fun c_3 => ?_) (fun c_3 => ?_)
  · have hf := sn_if c_3 hf
    refine lv_bipush (v := (-2)) hx hb dX8_sniff_16 (by decide) ?_
    cases hf
    exact kr _ _ _ _ hw rfl dX8_sniff_18
  · have hf := sn_el c_3 hf
    refine lv_aload_n hx hb dX8_sniff_8 rfl (lv_at hl 0 rfl) ?_
    refine lv_iload_n hx hb dX8_sniff_9 rfl (lv_at hl 2 rfl) ?_
    obtain ⟨t_4, h_5, hf⟩ := sn_bd hf
    refine sn_callVi (rest := []) C hw (ctX8_isMinute l  h_5) kl_RX8_125 layC_0 rfl rfl rfl rfl (Nat.le_of_ble_eq_true rfl) dX8_sniff_10 hl.1 (fun H locs hw => ?_)
    refine lv_if_ne (tgt := 19) hx hb dX8_sniff_13 (by decide) (fun c_6 => ?_) (fun c_6 => ?_)
    · have hf := sn_el c_6 hf
      refine lv_aload_n hx hb dX8_sniff_19 rfl (lv_at hl 0 rfl) ?_
      refine sn_getC (r := 1) C hw fd_RX8_10 layC_0 rfl dX8_sniff_20 ?_
      refine lv_iconst (v := 1) hx hb dX8_sniff_23 rfl ?_
      refine lv_iload_n hx hb dX8_sniff_24 rfl (lv_at hl 1 rfl) ?_
      refine lv_iload_n hx hb dX8_sniff_25 rfl (lv_at hl 2 rfl) ?_
      obtain ⟨t_7, h_8, hf⟩ := sn_bd hf
      refine sn_callVi (rest := []) C hw (ctX2_act l sn_isX2_1 h_8) kl_RX8_345 (sn_look sn_isX2_1 (k := 0) rfl) rfl rfl rfl rfl (Nat.le_of_ble_eq_true rfl) dX8_sniff_26 hl.1 (fun H locs hw => ?_)
      refine lv_if_ne (tgt := 35) hx hb dX8_sniff_29 (by decide) (fun c_9 => ?_) (fun c_9 => ?_)
      · have hf := sn_el c_9 hf
        refine lv_aload_n hx hb dX8_sniff_35 rfl (lv_at hl 0 rfl) ?_
        obtain ⟨t_10, h_11, hf⟩ := sn_bd hf
        refine sn_callVv (rest := []) C hw (ctX8_liveAnew l  h_11) kl_RX8_97 layC_0 rfl rfl rfl rfl (Nat.le_of_ble_eq_true rfl) dX8_sniff_36 hl.1 (fun H locs hw => ?_)
        refine lv_aload_n hx hb dX8_sniff_39 rfl (lv_at hl 0 rfl) ?_
        refine sn_getC (r := 27) C hw fd_RX8_44 layC_0 rfl dX8_sniff_40 ?_
        refine sn_getC (r := (27 + 10)) C hw fd_RX8_131 (sn_look sn_isX0_27 (k := 0) rfl) rfl dX8_sniff_43 ?_
        refine lv_iload_n hx hb dX8_sniff_46 rfl (lv_at hl 1 rfl) ?_
        obtain ⟨g_12, hf⟩ := sn_gdE hf
        refine sn_iald C hw (sn_look sn_isX0_27 (k := 10) rfl) g_12 dX8_sniff_47 ?_
        refine lv_iload_n hx hb dX8_sniff_48 rfl (lv_at hl 2 rfl) ?_
        obtain ⟨t_13, h_14, hf⟩ := sn_bd hf
        refine sn_callSi (rest := []) C hw (ctX8_hasBit l  h_14) kl_RX8_170 rfl rfl rfl (Nat.le_of_ble_eq_true rfl) dX8_sniff_49 hl.1 (fun H locs hw => ?_)
        refine lv_if_eq (tgt := 59) hx hb dX8_sniff_52 (by decide) (fun c_15 => ?_) (fun c_15 => ?_)
        · have hf := sn_if c_15 hf
          refine lv_iconst (v := 0) hx hb dX8_sniff_59 rfl ?_
          cases hf
          exact kr _ _ _ _ hw rfl dX8_sniff_60
        · have hf := sn_el c_15 hf
          refine lv_iconst (v := 1) hx hb dX8_sniff_55 rfl ?_
          refine lv_goto (tgt := 60) hx hb dX8_sniff_56 (by decide) ?_
          cases hf
          exact kr _ _ _ _ hw rfl dX8_sniff_60
      · have hf := sn_if c_9 hf
        refine lv_bipush (v := (-5)) hx hb dX8_sniff_32 (by decide) ?_
        cases hf
        exact kr _ _ _ _ hw rfl dX8_sniff_34
    · have hf := sn_if c_6 hf
      refine lv_bipush (v := (-2)) hx hb dX8_sniff_16 (by decide) ?_
      cases hf
      exact kr _ _ _ _ hw rfl dX8_sniff_18
theorem ctX8_sniff (l : Launch) {σ : sn_S} {x1 : Int32} {x2 : Int32}  {o : (Int32 × sn_S)} (hf : fX8_sniff σ x1 x2 = some o) : sn_M l yX8_sniff cX8_sniff 3 (some .int) rmX8_sniff layC (fun ad => [.ref (ad 0), .int x1, .int x2]) σ (some (fun _ => .int o.1)) o.2 :=
  sn_met (by decide) (fun _ => Nat.le_of_ble_eq_true rfl) (fun p e s m args below meth c ls D ct ad A C hw hl => wX8_sniff_in C  hf (fun H locs ls pc hw ok hd => sn_iret C hw hd) _ _ _ hw hl)
-- X8_undo
abbrev rmX8_undo : Room := { frames := 6, cells := 0, slots := 0, locals := 133 }
def fX8_undo (σ : sn_S) : Option (Int32 × sn_S) :=
  ((fX8_isHouse σ).bind fun t_1 => (if t_1 = 0 then
  (some ((-2 : Int32), σ))
  else
  (sn_gd (sn_in (9 : Int32) 11) (if (1 : Int32) ≤ (sn_I σ (1 + 1) (9 : Int32).toNatClampNeg) then
  (sn_gd (sn_in (9 : Int32) 11) (sn_gd (sn_in (9 : Int32) 11) (sn_lt (sn_pI σ (1 + 1) (9 : Int32).toNatClampNeg ((sn_I σ (1 + 1) (9 : Int32).toNatClampNeg) - (1 : Int32))) fun σ_8 => ((fX8_liveAnew σ_8).bind fun t_10 => (sn_gd (sn_in (9 : Int32) 11) (some ((sn_I t_10 (1 + 1) (9 : Int32).toNatClampNeg), t_10)))))))
  else
  (some ((-5 : Int32), σ))))))
theorem wX8_undo_in (C : sn_C p s m args meth c RX8 cX8_undo 1 (some .int) D ct ad layC A) {σ : sn_S}  {o : (Int32 × sn_S)} (hf : fX8_undo σ = some o) (kr : sn_Kr p l e rmX8_undo s m args below meth c Q D ct ad layC A cX8_undo .ireturn (true) o.2 [.int o.1]) : sn_At p l e rmX8_undo s m args below meth c Q D ct ad layC A 1 σ 0 [(0, .ref (ad 0))] [] := by
  intro H locs ls hw hl
  have hx := C.1
  have hb := C.2.1
  unfold fX8_undo at hf
  refine lv_aload_n hx hb dX8_undo_0 rfl (lv_at hl 0 rfl) ?_
  obtain ⟨t_1, h_2, hf⟩ := sn_bd hf
  refine sn_callVi (rest := []) C hw (ctX8_isHouse l  h_2) kl_RX8_137 layC_0 rfl rfl rfl rfl (Nat.le_of_ble_eq_true rfl) dX8_undo_1 hl.1 (fun H locs hw => ?_)
  refine lv_if_ne (tgt := 10) hx hb dX8_undo_4 (by decide) (fun c_3 => ?_) (fun c_3 => ?_)
  · have hf := sn_el c_3 hf
    refine lv_aload_n hx hb dX8_undo_10 rfl (lv_at hl 0 rfl) ?_
    refine sn_getC (r := 1) C hw fd_RX8_10 layC_0 rfl dX8_undo_11 ?_
    refine sn_getC (r := (1 + 1)) C hw fd_RX8_100 (sn_look sn_isX2_1 (k := 0) rfl) rfl dX8_undo_14 ?_
    refine lv_bipush (v := 9) hx hb dX8_undo_17 (by decide) ?_
    obtain ⟨g_4, hf⟩ := sn_gdE hf
    refine sn_iald C hw (sn_look sn_isX2_1 (k := 1) rfl) g_4 dX8_undo_19 ?_
    refine lv_iconst (v := 1) hx hb dX8_undo_20 rfl ?_
    refine lv_icmp_ge (tgt := 27) hx hb dX8_undo_21 (by decide) (fun c_5 => ?_) (fun c_5 => ?_)
    · have hf := sn_if c_5 hf
      refine lv_aload_n hx hb dX8_undo_27 rfl (lv_at hl 0 rfl) ?_
      refine sn_getC (r := 1) C hw fd_RX8_10 layC_0 rfl dX8_undo_28 ?_
      refine sn_getC (r := (1 + 1)) C hw fd_RX8_100 (sn_look sn_isX2_1 (k := 0) rfl) rfl dX8_undo_31 ?_
      refine lv_bipush (v := 9) hx hb dX8_undo_34 (by decide) ?_
      refine lv_dup2_11 hx hb dX8_undo_36 rfl rfl ?_
      obtain ⟨g_6, hf⟩ := sn_gdE hf
      refine sn_iald C hw (sn_look sn_isX2_1 (k := 1) rfl) g_6 dX8_undo_37 ?_
      refine lv_iconst (v := 1) hx hb dX8_undo_38 rfl ?_
      refine lv_isub hx hb dX8_undo_39 ?_
      obtain ⟨g_7, hf⟩ := sn_gdE hf
      refine sn_iast C hw (sn_look sn_isX2_1 (k := 1) rfl) g_7 dX8_undo_40 (fun H locs hw => ?_)
      obtain ⟨σ_8, e_9, hf⟩ := sn_ltE hf
      rw [← e_9] at hw
      refine lv_aload_n hx hb dX8_undo_41 rfl (lv_at hl 0 rfl) ?_
      obtain ⟨t_10, h_11, hf⟩ := sn_bd hf
      refine sn_callVv (rest := []) C hw (ctX8_liveAnew l  h_11) kl_RX8_97 layC_0 rfl rfl rfl rfl (Nat.le_of_ble_eq_true rfl) dX8_undo_42 hl.1 (fun H locs hw => ?_)
      refine lv_aload_n hx hb dX8_undo_45 rfl (lv_at hl 0 rfl) ?_
      refine sn_getC (r := 1) C hw fd_RX8_10 layC_0 rfl dX8_undo_46 ?_
      refine sn_getC (r := (1 + 1)) C hw fd_RX8_100 (sn_look sn_isX2_1 (k := 0) rfl) rfl dX8_undo_49 ?_
      refine lv_bipush (v := 9) hx hb dX8_undo_52 (by decide) ?_
      obtain ⟨g_12, hf⟩ := sn_gdE hf
      refine sn_iald C hw (sn_look sn_isX2_1 (k := 1) rfl) g_12 dX8_undo_54 ?_
      cases hf
      exact kr _ _ _ _ hw rfl dX8_undo_55
    · have hf := sn_el c_5 hf
      refine lv_bipush (v := (-5)) hx hb dX8_undo_24 (by decide) ?_
      cases hf
      exact kr _ _ _ _ hw rfl dX8_undo_26
  · have hf := sn_if c_3 hf
    refine lv_bipush (v := (-2)) hx hb dX8_undo_7 (by decide) ?_
    cases hf
    exact kr _ _ _ _ hw rfl dX8_undo_9
theorem ctX8_undo (l : Launch) {σ : sn_S}  {o : (Int32 × sn_S)} (hf : fX8_undo σ = some o) : sn_M l yX8_undo cX8_undo 1 (some .int) rmX8_undo layC (fun ad => [.ref (ad 0)]) σ (some (fun _ => .int o.1)) o.2 :=
  sn_met (by decide) (fun _ => Nat.le_of_ble_eq_true rfl) (fun p e s m args below meth c ls D ct ad A C hw hl => wX8_undo_in C  hf (fun H locs ls pc hw ok hd => sn_iret C hw hd) _ _ _ hw hl)
-- X8_anew
abbrev rmX8_anew : Room := { frames := 6, cells := 0, slots := 0, locals := 133 }
def fX8_anew (σ : sn_S) : Option (Int32 × sn_S) :=
  ((fX8_isHouse σ).bind fun t_1 => (if t_1 = 0 then
  (some ((-2 : Int32), σ))
  else
  (sn_gd (sn_in (9 : Int32) 11) (sn_lt (sn_I σ (1 + 1) (9 : Int32).toNatClampNeg) fun y_5 => (sn_gd (sn_in (9 : Int32) 11) (sn_lt (sn_pI σ (1 + 1) (9 : Int32).toNatClampNeg (0 : Int32)) fun σ_8 => ((fX8_liveAnew σ_8).bind fun t_10 => (some (y_5, t_10)))))))))
theorem wX8_anew_in (C : sn_C p s m args meth c RX8 cX8_anew 2 (some .int) D ct ad layC A) {σ : sn_S}  {o : (Int32 × sn_S)} (hf : fX8_anew σ = some o) (kr : sn_Kr p l e rmX8_anew s m args below meth c Q D ct ad layC A cX8_anew .ireturn (true) o.2 [.int o.1]) : sn_At p l e rmX8_anew s m args below meth c Q D ct ad layC A 2 σ 0 [(0, .ref (ad 0))] [] := by
  intro H locs ls hw hl
  have hx := C.1
  have hb := C.2.1
  unfold fX8_anew at hf
  refine lv_aload_n hx hb dX8_anew_0 rfl (lv_at hl 0 rfl) ?_
  obtain ⟨t_1, h_2, hf⟩ := sn_bd hf
  refine sn_callVi (rest := []) C hw (ctX8_isHouse l  h_2) kl_RX8_137 layC_0 rfl rfl rfl rfl (Nat.le_of_ble_eq_true rfl) dX8_anew_1 hl.1 (fun H locs hw => ?_)
  refine lv_if_ne (tgt := 10) hx hb dX8_anew_4 (by decide) (fun c_3 => ?_) (fun c_3 => ?_)
  · have hf := sn_el c_3 hf
    refine lv_aload_n hx hb dX8_anew_10 rfl (lv_at hl 0 rfl) ?_
    refine sn_getC (r := 1) C hw fd_RX8_10 layC_0 rfl dX8_anew_11 ?_
    refine sn_getC (r := (1 + 1)) C hw fd_RX8_100 (sn_look sn_isX2_1 (k := 0) rfl) rfl dX8_anew_14 ?_
    refine lv_bipush (v := 9) hx hb dX8_anew_17 (by decide) ?_
    obtain ⟨g_4, hf⟩ := sn_gdE hf
    refine sn_iald C hw (sn_look sn_isX2_1 (k := 1) rfl) g_4 dX8_anew_19 ?_
    obtain ⟨y_5, e_6, hf⟩ := sn_ltE hf
    refine lv_topi (fun y_5_ e_6_ => ?_)
    obtain rfl : y_5 = y_5_ := e_6.trans e_6_.symm
    refine lv_istore_n (lv' := [(1, .int y_5), (0, .ref (ad 0))]) hx hb dX8_anew_20 rfl hl (by decide) rfl (fun ls hl => ?_)
    refine lv_aload_n hx hb dX8_anew_21 rfl (lv_at hl 1 rfl) ?_
    refine sn_getC (r := 1) C hw fd_RX8_10 layC_0 rfl dX8_anew_22 ?_
    refine sn_getC (r := (1 + 1)) C hw fd_RX8_100 (sn_look sn_isX2_1 (k := 0) rfl) rfl dX8_anew_25 ?_
    refine lv_bipush (v := 9) hx hb dX8_anew_28 (by decide) ?_
    refine lv_iconst (v := 0) hx hb dX8_anew_30 rfl ?_
    obtain ⟨g_7, hf⟩ := sn_gdE hf
    refine sn_iast C hw (sn_look sn_isX2_1 (k := 1) rfl) g_7 dX8_anew_31 (fun H locs hw => ?_)
    obtain ⟨σ_8, e_9, hf⟩ := sn_ltE hf
    rw [← e_9] at hw
    refine lv_aload_n hx hb dX8_anew_32 rfl (lv_at hl 1 rfl) ?_
    obtain ⟨t_10, h_11, hf⟩ := sn_bd hf
    refine sn_callVv (rest := []) C hw (ctX8_liveAnew l  h_11) kl_RX8_97 layC_0 rfl rfl rfl rfl (Nat.le_of_ble_eq_true rfl) dX8_anew_33 hl.1 (fun H locs hw => ?_)
    refine lv_iload_n hx hb dX8_anew_36 rfl (lv_at hl 0 rfl) ?_
    cases hf
    exact kr _ _ _ _ hw rfl dX8_anew_37
  · have hf := sn_if c_3 hf
    refine lv_bipush (v := (-2)) hx hb dX8_anew_7 (by decide) ?_
    cases hf
    exact kr _ _ _ _ hw rfl dX8_anew_9
theorem ctX8_anew (l : Launch) {σ : sn_S}  {o : (Int32 × sn_S)} (hf : fX8_anew σ = some o) : sn_M l yX8_anew cX8_anew 2 (some .int) rmX8_anew layC (fun ad => [.ref (ad 0)]) σ (some (fun _ => .int o.1)) o.2 :=
  sn_met (by decide) (fun _ => Nat.le_of_ble_eq_true rfl) (fun p e s m args below meth c ls D ct ad A C hw hl => wX8_anew_in C  hf (fun H locs ls pc hw ok hd => sn_iret C hw hd) _ _ _ hw hl)
-- X8_rate
abbrev rmX8_rate : Room := { frames := 1, cells := 0, slots := 0, locals := 22 }
def fX8_rate (σ : sn_S) (x1 : Int32) (x2 : Int32) : Option (Int32 × sn_S) :=
  ((fX8_isPolicy σ x1).bind fun t_1 => (if t_1 = 0 then
  (some ((-2 : Int32), σ))
  else
  (if x2 < 0 then
  (some ((-2 : Int32), σ))
  else
  (if x2 ≤ (99 : Int32) then
  (sn_gd (sn_in (9 : Int32) 11) (if (sn_I σ (1 + 1) (9 : Int32).toNatClampNeg) ≤ 0 then
  ((fX2_ofPolicy σ 1 x1 (4 : Int32)).bind fun t_8 => (sn_gd (sn_in (((5 : Int32) * x1) + (4 : Int32)) 30) (sn_lt (sn_pI σ (1 + 5) (((5 : Int32) * x1) + (4 : Int32)).toNatClampNeg x2) fun σ_11 => (some (t_8, σ_11)))))
  else
  (some ((-5 : Int32), σ))))
  else
  (some ((-2 : Int32), σ))))))
theorem wX8_rate_in (C : sn_C p s m args meth c RX8 cX8_rate 4 (some .int) D ct ad layC A) {σ : sn_S} {x1 : Int32} {x2 : Int32}  {o : (Int32 × sn_S)} (hf : fX8_rate σ x1 x2 = some o) (kr : sn_Kr p l e rmX8_rate s m args below meth c Q D ct ad layC A cX8_rate .ireturn (true) o.2 [.int o.1]) : sn_At p l e rmX8_rate s m args below meth c Q D ct ad layC A 4 σ 0 [(0, .ref (ad 0)), (1, .int x1), (2, .int x2)] [] := by
  intro H locs ls hw hl
  have hx := C.1
  have hb := C.2.1
  unfold fX8_rate at hf
  refine lv_aload_n hx hb dX8_rate_0 rfl (lv_at hl 0 rfl) ?_
  refine lv_iload_n hx hb dX8_rate_1 rfl (lv_at hl 1 rfl) ?_
  obtain ⟨t_1, h_2, hf⟩ := sn_bd hf
  refine sn_callVi (rest := []) C hw (ctX8_isPolicy l  h_2) kl_RX8_114 layC_0 rfl rfl rfl rfl (Nat.le_of_ble_eq_true rfl) dX8_rate_2 hl.1 (fun H locs hw => ?_)
  refine lv_if_eq (tgt := 18) hx hb dX8_rate_5 (by decide) (fun c_3 => ?_) (fun c_3 => ?_)
  · have hf := sn_if c_3 hf
    refine lv_bipush (v := (-2)) hx hb dX8_rate_18 (by decide) ?_
    cases hf
    exact kr _ _ _ _ hw rfl dX8_rate_20
  · have hf := sn_el c_3 hf
    refine lv_iload_n hx hb dX8_rate_8 rfl (lv_at hl 2 rfl) ?_
    refine lv_if_lt (tgt := 18) hx hb dX8_rate_9 (by decide) (fun c_4 => ?_) (fun c_4 => ?_)
    · have hf := sn_if c_4 hf
      refine lv_bipush (v := (-2)) hx hb dX8_rate_18 (by decide) ?_
      cases hf
      exact kr _ _ _ _ hw rfl dX8_rate_20
    · have hf := sn_el c_4 hf
      refine lv_iload_n hx hb dX8_rate_12 rfl (lv_at hl 2 rfl) ?_
      refine lv_bipush (v := 99) hx hb dX8_rate_13 (by decide) ?_
      refine lv_icmp_le (tgt := 21) hx hb dX8_rate_15 (by decide) (fun c_5 => ?_) (fun c_5 => ?_)
      · have hf := sn_if c_5 hf
        refine lv_aload_n hx hb dX8_rate_21 rfl (lv_at hl 0 rfl) ?_
        refine sn_getC (r := 1) C hw fd_RX8_10 layC_0 rfl dX8_rate_22 ?_
        refine sn_getC (r := (1 + 1)) C hw fd_RX8_100 (sn_look sn_isX2_1 (k := 0) rfl) rfl dX8_rate_25 ?_
        refine lv_bipush (v := 9) hx hb dX8_rate_28 (by decide) ?_
        obtain ⟨g_6, hf⟩ := sn_gdE hf
        refine sn_iald C hw (sn_look sn_isX2_1 (k := 1) rfl) g_6 dX8_rate_30 ?_
        refine lv_if_le (tgt := 37) hx hb dX8_rate_31 (by decide) (fun c_7 => ?_) (fun c_7 => ?_)
        · have hf := sn_if c_7 hf
          refine lv_aload_n hx hb dX8_rate_37 rfl (lv_at hl 0 rfl) ?_
          refine sn_getC (r := 1) C hw fd_RX8_10 layC_0 rfl dX8_rate_38 ?_
          refine lv_iload_n hx hb dX8_rate_41 rfl (lv_at hl 1 rfl) ?_
          refine lv_iconst (v := 4) hx hb dX8_rate_42 rfl ?_
          obtain ⟨t_8, h_9, hf⟩ := sn_bd hf
          refine sn_callVi (rest := []) C hw (ctX2_ofPolicy l sn_isX2_1 h_9) kl_RX8_117 (sn_look sn_isX2_1 (k := 0) rfl) rfl rfl rfl rfl (Nat.le_of_ble_eq_true rfl) dX8_rate_43 hl.1 (fun H locs hw => ?_)
          refine lv_istore_n (lv' := [(3, .int t_8), (0, .ref (ad 0)), (1, .int x1), (2, .int x2)]) hx hb dX8_rate_46 rfl hl (by decide) rfl (fun ls hl => ?_)
          refine lv_aload_n hx hb dX8_rate_47 rfl (lv_at hl 1 rfl) ?_
          refine sn_getC (r := 1) C hw fd_RX8_10 layC_0 rfl dX8_rate_48 ?_
          refine sn_getC (r := (1 + 5)) C hw fd_RX8_349 (sn_look sn_isX2_1 (k := 0) rfl) rfl dX8_rate_51 ?_
          refine lv_iconst (v := 5) hx hb dX8_rate_54 rfl ?_
          refine lv_iload_n hx hb dX8_rate_55 rfl (lv_at hl 2 rfl) ?_
          refine lv_imul hx hb dX8_rate_56 ?_
          refine lv_iconst (v := 4) hx hb dX8_rate_57 rfl ?_
          refine lv_iadd hx hb dX8_rate_58 ?_
          refine lv_iload_n hx hb dX8_rate_59 rfl (lv_at hl 3 rfl) ?_
          obtain ⟨g_10, hf⟩ := sn_gdE hf
          refine sn_iast C hw (sn_look sn_isX2_1 (k := 5) rfl) g_10 dX8_rate_60 (fun H locs hw => ?_)
          obtain ⟨σ_11, e_12, hf⟩ := sn_ltE hf
          rw [← e_12] at hw
          refine lv_iload_n hx hb dX8_rate_61 rfl (lv_at hl 0 rfl) ?_
          cases hf
          exact kr _ _ _ _ hw rfl dX8_rate_62
        · have hf := sn_el c_7 hf
          refine lv_bipush (v := (-5)) hx hb dX8_rate_34 (by decide) ?_
          cases hf
          exact kr _ _ _ _ hw rfl dX8_rate_36
      · have hf := sn_el c_5 hf
        refine lv_bipush (v := (-2)) hx hb dX8_rate_18 (by decide) ?_
        cases hf
        exact kr _ _ _ _ hw rfl dX8_rate_20
theorem ctX8_rate (l : Launch) {σ : sn_S} {x1 : Int32} {x2 : Int32}  {o : (Int32 × sn_S)} (hf : fX8_rate σ x1 x2 = some o) : sn_M l yX8_rate cX8_rate 4 (some .int) rmX8_rate layC (fun ad => [.ref (ad 0), .int x1, .int x2]) σ (some (fun _ => .int o.1)) o.2 :=
  sn_met (by decide) (fun _ => Nat.le_of_ble_eq_true rfl) (fun p e s m args below meth c ls D ct ad A C hw hl => wX8_rate_in C  hf (fun H locs ls pc hw ok hd => sn_iret C hw hd) _ _ _ hw hl)
-- X8_count
abbrev rmX8_count : Room := { frames := 2, cells := 0, slots := 0, locals := 43 }
def fX8_count (σ : sn_S) (x1 : Int32) : Option Int32 :=
  (if x1 = (11 : Int32) then
  (some (sn_I σ 17 1))
  else
  (if x1 = (12 : Int32) then
  ((fX6_howMany σ).bind fun t_6 => (some t_6))
  else
  (if x1 < 0 then
  (some (-1 : Int32))
  else
  (if x1 < (11 : Int32) then
  (sn_gd (sn_in x1 11) (some (sn_I σ (1 + 1) x1.toNatClampNeg)))
  else
  (some (-1 : Int32))))))
theorem wX8_count_in (C : sn_C p s m args meth c RX8 cX8_count 2 (some .int) D ct ad layC A) {σ : sn_S} {x1 : Int32}  {o : Int32} (hf : fX8_count σ x1 = some o) (kr : sn_Kr p l e rmX8_count s m args below meth c Q D ct ad layC A cX8_count .ireturn (true) σ [.int o]) : sn_At p l e rmX8_count s m args below meth c Q D ct ad layC A 2 σ 0 [(0, .ref (ad 0)), (1, .int x1)] [] := by
  intro H locs ls hw hl
  have hx := C.1
  have hb := C.2.1
  unfold fX8_count at hf
  refine lv_iload_n hx hb dX8_count_0 rfl (lv_at hl 1 rfl) ?_
  refine lv_bipush (v := 11) hx hb dX8_count_1 (by decide) ?_
  refine lv_icmp_ne (tgt := 14) hx hb dX8_count_3 (by decide) (fun c_1 => ?_) (fun c_1 => ?_)
  · have hf := sn_el c_1 hf
    refine lv_iload_n hx hb dX8_count_14 rfl (lv_at hl 1 rfl) ?_
    refine lv_bipush (v := 12) hx hb dX8_count_15 (by decide) ?_
    refine lv_icmp_ne (tgt := 28) hx hb dX8_count_17 (by decide) (fun c_2 => ?_) (fun c_2 => ?_)
    · have hf := sn_el c_2 hf
      refine lv_iload_n hx hb dX8_count_28 rfl (lv_at hl 1 rfl) ?_
      refine lv_if_lt (tgt := 38) hx hb dX8_count_29 (by decide) (fun c_3 => ?_) (fun c_3 => ?_)
      · have hf := sn_if c_3 hf
        refine lv_iconst (v := (-1)) hx hb dX8_count_38 rfl ?_
        refine lv_goto (tgt := 51) hx hb dX8_count_39 (by decide) ?_
        cases hf
        exact kr _ _ _ _ hw rfl dX8_count_51
      · have hf := sn_el c_3 hf
        refine lv_iload_n hx hb dX8_count_32 rfl (lv_at hl 1 rfl) ?_
        refine lv_bipush (v := 11) hx hb dX8_count_33 (by decide) ?_
        refine lv_icmp_lt (tgt := 42) hx hb dX8_count_35 (by decide) (fun c_4 => ?_) (fun c_4 => ?_)
        · have hf := sn_if c_4 hf
          refine lv_aload_n hx hb dX8_count_42 rfl (lv_at hl 0 rfl) ?_
          refine sn_getC (r := 1) C hw fd_RX8_10 layC_0 rfl dX8_count_43 ?_
          refine sn_getC (r := (1 + 1)) C hw fd_RX8_100 (sn_look sn_isX2_1 (k := 0) rfl) rfl dX8_count_46 ?_
          refine lv_iload_n hx hb dX8_count_49 rfl (lv_at hl 1 rfl) ?_
          obtain ⟨g_5, hf⟩ := sn_gdE hf
          refine sn_iald C hw (sn_look sn_isX2_1 (k := 1) rfl) g_5 dX8_count_50 ?_
          cases hf
          exact kr _ _ _ _ hw rfl dX8_count_51
        · have hf := sn_el c_4 hf
          refine lv_iconst (v := (-1)) hx hb dX8_count_38 rfl ?_
          refine lv_goto (tgt := 51) hx hb dX8_count_39 (by decide) ?_
          cases hf
          exact kr _ _ _ _ hw rfl dX8_count_51
    · have hf := sn_if c_2 hf
      refine lv_aload_n hx hb dX8_count_20 rfl (lv_at hl 0 rfl) ?_
      refine sn_getC (r := 19) C hw fd_RX8_37 layC_0 rfl dX8_count_21 ?_
      obtain ⟨t_6, h_7, hf⟩ := sn_bd hf
      refine sn_callVi (rest := []) C hw (ctX6_howMany l  h_7) kl_RX8_351 layC_19 rfl rfl rfl rfl (Nat.le_of_ble_eq_true rfl) dX8_count_24 hl.1 (fun H locs hw => ?_)
      cases hf
      exact kr _ _ _ _ hw rfl dX8_count_27
  · have hf := sn_if c_1 hf
    refine lv_aload_n hx hb dX8_count_6 rfl (lv_at hl 0 rfl) ?_
    refine sn_getC (r := 17) C hw fd_RX8_30 layC_0 rfl dX8_count_7 ?_
    refine sn_getI C hw fd_RX8_79 layC_17 rfl dX8_count_10 ?_
    cases hf
    exact kr _ _ _ _ hw rfl dX8_count_13
theorem ctX8_count (l : Launch) {σ : sn_S} {x1 : Int32}  {o : Int32} (hf : fX8_count σ x1 = some o) : sn_M l yX8_count cX8_count 2 (some .int) rmX8_count layC (fun ad => [.ref (ad 0), .int x1]) σ (some (fun _ => .int o)) σ :=
  sn_met (by decide) (fun _ => Nat.le_of_ble_eq_true rfl) (fun p e s m args below meth c ls D ct ad A C hw hl => wX8_count_in C  hf (fun H locs ls pc hw ok hd => sn_iret C hw hd) _ _ _ hw hl)
-- X8_image
abbrev rmX8_image : Room := { frames := 2, cells := 0, slots := 0, locals := 69 }
def fX8_image (σ : sn_S) (x1 : Int32) : Option (Int32 × sn_S) :=
  (if x1 < 0 then
  (some ((-2 : Int32), σ))
  else
  (if x1 < (3 : Int32) then
  (sn_gd (sn_in x1 3) ((fX2_copyFrom σ (sn_at sn_rs15 x1) 1).bind fun t_4 => (sn_gd (sn_in x1 3) (sn_lt (sn_pI t_4 16 x1.toNatClampNeg (vp_nar .boolean (1 : Int32))) fun σ_7 => (some ((0 : Int32), σ_7))))))
  else
  (some ((-2 : Int32), σ))))
theorem wX8_image_in (C : sn_C p s m args meth c RX8 cX8_image 2 (some .int) D ct ad layC A) {σ : sn_S} {x1 : Int32}  {o : (Int32 × sn_S)} (hf : fX8_image σ x1 = some o) (kr : sn_Kr p l e rmX8_image s m args below meth c Q D ct ad layC A cX8_image .ireturn (true) o.2 [.int o.1]) : sn_At p l e rmX8_image s m args below meth c Q D ct ad layC A 2 σ 0 [(0, .ref (ad 0)), (1, .int x1)] [] := by
  intro H locs ls hw hl
  have hx := C.1
  have hb := C.2.1
  unfold fX8_image at hf
  refine lv_iload_n hx hb dX8_image_0 rfl (lv_at hl 1 rfl) ?_
  refine lv_if_lt (tgt := 9) hx hb dX8_image_1 (by decide) (fun c_1 => ?_) (fun c_1 => ?_)
  · have hf := sn_if c_1 hf
    refine lv_bipush (v := (-2)) hx hb dX8_image_9 (by decide) ?_
    cases hf
    exact kr _ _ _ _ hw rfl dX8_image_11
  · have hf := sn_el c_1 hf
    refine lv_iload_n hx hb dX8_image_4 rfl (lv_at hl 1 rfl) ?_
    refine lv_iconst (v := 3) hx hb dX8_image_5 rfl ?_
    refine lv_icmp_lt (tgt := 12) hx hb dX8_image_6 (by decide) (fun c_2 => ?_) (fun c_2 => ?_)
    · have hf := sn_if c_2 hf
      refine lv_aload_n hx hb dX8_image_12 rfl (lv_at hl 0 rfl) ?_
      refine sn_getC (r := 15) C hw fd_RX8_19 layC_0 rfl dX8_image_13 ?_
      refine lv_iload_n hx hb dX8_image_16 rfl (lv_at hl 1 rfl) ?_
      obtain ⟨g_3, hf⟩ := sn_gdE hf
      refine sn_aldO C hw layC_15 rfl g_3 dX8_image_17 ?_
      refine lv_aload_n hx hb dX8_image_18 rfl (lv_at hl 0 rfl) ?_
      refine sn_getC (r := 1) C hw fd_RX8_10 layC_0 rfl dX8_image_19 ?_
      obtain ⟨t_4, h_5, hf⟩ := sn_bd hf
      refine sn_callVv (rest := []) C hw (ctX2_copyFrom l (sn_rs_house g_3) sn_isX2_1 h_5) kl_RX8_94 (sn_look (sn_rs_house g_3) (k := 0) rfl) rfl rfl rfl rfl (Nat.le_of_ble_eq_true rfl) dX8_image_22 hl.1 (fun H locs hw => ?_)
      refine lv_aload_n hx hb dX8_image_25 rfl (lv_at hl 0 rfl) ?_
      refine sn_getC (r := 16) C hw fd_RX8_23 layC_0 rfl dX8_image_26 ?_
      refine lv_iload_n hx hb dX8_image_29 rfl (lv_at hl 1 rfl) ?_
      refine lv_iconst (v := 1) hx hb dX8_image_30 rfl ?_
      obtain ⟨g_6, hf⟩ := sn_gdE hf
      refine sn_zast C hw layC_16 g_6 dX8_image_31 (fun H locs hw => ?_)
      obtain ⟨σ_7, e_8, hf⟩ := sn_ltE hf
      rw [← e_8] at hw
      refine lv_iconst (v := 0) hx hb dX8_image_32 rfl ?_
      cases hf
      exact kr _ _ _ _ hw rfl dX8_image_33
    · have hf := sn_el c_2 hf
      refine lv_bipush (v := (-2)) hx hb dX8_image_9 (by decide) ?_
      cases hf
      exact kr _ _ _ _ hw rfl dX8_image_11
theorem ctX8_image (l : Launch) {σ : sn_S} {x1 : Int32}  {o : (Int32 × sn_S)} (hf : fX8_image σ x1 = some o) : sn_M l yX8_image cX8_image 2 (some .int) rmX8_image layC (fun ad => [.ref (ad 0), .int x1]) σ (some (fun _ => .int o.1)) o.2 :=
  sn_met (by decide) (fun _ => Nat.le_of_ble_eq_true rfl) (fun p e s m args below meth c ls D ct ad A C hw hl => wX8_image_in C  hf (fun H locs ls pc hw ok hd => sn_iret C hw hd) _ _ _ hw hl)
end
end
section
section
variable {p : Program} {l : Launch} {e : Env} {s : State} {m : MethodId} {args : Array Value} {below : List Frame} {meth : Method} {c : Code} {Q : State → Prop} {D : va_G} {ct : Nat → ClassId} {ad : Nat → Nat} {A : Nat → Prop} {lay : List sn_E}
-- X8_back
abbrev rmX8_back : Room := { frames := 6, cells := 0, slots := 0, locals := 133 }
def fX8_back (σ : sn_S) (x1 : Int32) : Option (Int32 × sn_S) :=
  (if x1 < 0 then
  (some ((-2 : Int32), σ))
  else
  (if x1 < (3 : Int32) then
  (sn_gd (sn_in x1 3) (if (sn_I σ 16 x1.toNatClampNeg) = 0 then
  (some ((-6 : Int32), σ))
  else
  (sn_gd (sn_in x1 3) ((fX2_copyFrom σ 1 (sn_at sn_rs15 x1)).bind fun t_6 => ((fX8_liveAnew t_6).bind fun t_8 => (some ((0 : Int32), t_8)))))))
  else
  (some ((-2 : Int32), σ))))
theorem wX8_back_in (C : sn_C p s m args meth c RX8 cX8_back 2 (some .int) D ct ad layC A) {σ : sn_S} {x1 : Int32}  {o : (Int32 × sn_S)} (hf : fX8_back σ x1 = some o) (kr : sn_Kr p l e rmX8_back s m args below meth c Q D ct ad layC A cX8_back .ireturn (true) o.2 [.int o.1]) : sn_At p l e rmX8_back s m args below meth c Q D ct ad layC A 2 σ 0 [(0, .ref (ad 0)), (1, .int x1)] [] := by
  intro H locs ls hw hl
  have hx := C.1
  have hb := C.2.1
  unfold fX8_back at hf
  refine lv_iload_n hx hb dX8_back_0 rfl (lv_at hl 1 rfl) ?_
  refine lv_if_lt (tgt := 9) hx hb dX8_back_1 (by decide) (fun c_1 => ?_) (fun c_1 => ?_)
  · have hf := sn_if c_1 hf
    refine lv_bipush (v := (-2)) hx hb dX8_back_9 (by decide) ?_
    cases hf
    exact kr _ _ _ _ hw rfl dX8_back_11
  · have hf := sn_el c_1 hf
    refine lv_iload_n hx hb dX8_back_4 rfl (lv_at hl 1 rfl) ?_
    refine lv_iconst (v := 3) hx hb dX8_back_5 rfl ?_
    refine lv_icmp_lt (tgt := 12) hx hb dX8_back_6 (by decide) (fun c_2 => ?_) (fun c_2 => ?_)
    · have hf := sn_if c_2 hf
      refine lv_aload_n hx hb dX8_back_12 rfl (lv_at hl 0 rfl) ?_
      refine sn_getC (r := 16) C hw fd_RX8_23 layC_0 rfl dX8_back_13 ?_
      refine lv_iload_n hx hb dX8_back_16 rfl (lv_at hl 1 rfl) ?_
      obtain ⟨g_3, hf⟩ := sn_gdE hf
      refine sn_zald C hw layC_16 g_3 dX8_back_17 ?_
      refine lv_if_ne (tgt := 24) hx hb dX8_back_18 (by decide) (fun c_4 => ?_) (fun c_4 => ?_)
      · have hf := sn_el c_4 hf
        refine lv_aload_n hx hb dX8_back_24 rfl (lv_at hl 0 rfl) ?_
        refine sn_getC (r := 1) C hw fd_RX8_10 layC_0 rfl dX8_back_25 ?_
        refine lv_aload_n hx hb dX8_back_28 rfl (lv_at hl 0 rfl) ?_
        refine sn_getC (r := 15) C hw fd_RX8_19 layC_0 rfl dX8_back_29 ?_
        refine lv_iload_n hx hb dX8_back_32 rfl (lv_at hl 1 rfl) ?_
        obtain ⟨g_5, hf⟩ := sn_gdE hf
        refine sn_aldO C hw layC_15 rfl g_5 dX8_back_33 ?_
        obtain ⟨t_6, h_7, hf⟩ := sn_bd hf
        refine sn_callVv (rest := []) C hw (ctX2_copyFrom l sn_isX2_1 (sn_rs_house g_5) h_7) kl_RX8_94 (sn_look sn_isX2_1 (k := 0) rfl) rfl rfl rfl rfl (Nat.le_of_ble_eq_true rfl) dX8_back_34 hl.1 (fun H locs hw => ?_)
        refine lv_aload_n hx hb dX8_back_37 rfl (lv_at hl 0 rfl) ?_
        obtain ⟨t_8, h_9, hf⟩ := sn_bd hf
        refine sn_callVv (rest := []) C hw (ctX8_liveAnew l  h_9) kl_RX8_97 layC_0 rfl rfl rfl rfl (Nat.le_of_ble_eq_true rfl) dX8_back_38 hl.1 (fun H locs hw => ?_)
        refine lv_iconst (v := 0) hx hb dX8_back_41 rfl ?_
        cases hf
        exact kr _ _ _ _ hw rfl dX8_back_42
      · have hf := sn_if c_4 hf
        refine lv_bipush (v := (-6)) hx hb dX8_back_21 (by decide) ?_
        cases hf
        exact kr _ _ _ _ hw rfl dX8_back_23
    · have hf := sn_el c_2 hf
      refine lv_bipush (v := (-2)) hx hb dX8_back_9 (by decide) ?_
      cases hf
      exact kr _ _ _ _ hw rfl dX8_back_11
theorem ctX8_back (l : Launch) {σ : sn_S} {x1 : Int32}  {o : (Int32 × sn_S)} (hf : fX8_back σ x1 = some o) : sn_M l yX8_back cX8_back 2 (some .int) rmX8_back layC (fun ad => [.ref (ad 0), .int x1]) σ (some (fun _ => .int o.1)) o.2 :=
  sn_met (by decide) (fun _ => Nat.le_of_ble_eq_true rfl) (fun p e s m args below meth c ls D ct ad A C hw hl => wX8_back_in C  hf (fun H locs ls pc hw ok hd => sn_iret C hw hd) _ _ _ hw hl)
-- X8_row
abbrev rmX8_row : Room := { frames := 2, cells := 0, slots := 0, locals := 47 }
def fX8_row (σ : sn_S) (x1 : Int32) (x2 : Int32) (x3 : Int32) : Option (Int32 × sn_S) :=
  ((fX6_isSlot x1).bind fun t_1 => (if t_1 = 0 then
  (some ((-2 : Int32), σ))
  else
  (if x2 < 0 then
  (some ((-2 : Int32), σ))
  else
  (if (3 : Int32) < x2 then
  (some ((-2 : Int32), σ))
  else
  (if x3 ≤ (60 : Int32) then
  (if 0 ≤ x3 then
  ((fX6_make σ x1 x2 x3).bind fun t_8 => (some ((0 : Int32), t_8)))
  else
  (some ((-3 : Int32), σ)))
  else
  (some ((-2 : Int32), σ)))))))
theorem wX8_row_in (C : sn_C p s m args meth c RX8 cX8_row 4 (some .int) D ct ad layC A) {σ : sn_S} {x1 : Int32} {x2 : Int32} {x3 : Int32}  {o : (Int32 × sn_S)} (hf : fX8_row σ x1 x2 x3 = some o) (kr : sn_Kr p l e rmX8_row s m args below meth c Q D ct ad layC A cX8_row .ireturn (true) o.2 [.int o.1]) : sn_At p l e rmX8_row s m args below meth c Q D ct ad layC A 4 σ 0 [(0, .ref (ad 0)), (1, .int x1), (2, .int x2), (3, .int x3)] [] := by
  intro H locs ls hw hl
  have hx := C.1
  have hb := C.2.1
  unfold fX8_row at hf
  refine lv_iload_n hx hb dX8_row_0 rfl (lv_at hl 1 rfl) ?_
  obtain ⟨t_1, h_2, hf⟩ := sn_bd hf
  refine sn_callSi (rest := []) C hw (ctX6_isSlot l  h_2) kl_RX8_287 rfl rfl rfl (Nat.le_of_ble_eq_true rfl) dX8_row_1 hl.1 (fun H locs hw => ?_)
  refine lv_if_eq (tgt := 22) hx hb dX8_row_4 (by decide) (fun c_3 => ?_) (fun c_3 => ?_)
  · have hf := sn_if c_3 hf
    refine lv_bipush (v := (-2)) hx hb dX8_row_22 (by decide) ?_
    cases hf
    exact kr _ _ _ _ hw rfl dX8_row_24
  · have hf := sn_el c_3 hf
    refine lv_iload_n hx hb dX8_row_7 rfl (lv_at hl 2 rfl) ?_
    refine lv_if_lt (tgt := 22) hx hb dX8_row_8 (by decide) (fun c_4 => ?_) (fun c_4 => ?_)
    · have hf := sn_if c_4 hf
      refine lv_bipush (v := (-2)) hx hb dX8_row_22 (by decide) ?_
      cases hf
      exact kr _ _ _ _ hw rfl dX8_row_24
    · have hf := sn_el c_4 hf
      refine lv_iload_n hx hb dX8_row_11 rfl (lv_at hl 2 rfl) ?_
      refine lv_iconst (v := 3) hx hb dX8_row_12 rfl ?_
      refine lv_icmp_gt (tgt := 22) hx hb dX8_row_13 (by decide) (fun c_5 => ?_) (fun c_5 => ?_)
      · have hf := sn_if c_5 hf
        refine lv_bipush (v := (-2)) hx hb dX8_row_22 (by decide) ?_
        cases hf
        exact kr _ _ _ _ hw rfl dX8_row_24
      · have hf := sn_el c_5 hf
        refine lv_iload_n hx hb dX8_row_16 rfl (lv_at hl 3 rfl) ?_
        refine lv_bipush (v := 60) hx hb dX8_row_17 (by decide) ?_
        refine lv_icmp_le (tgt := 25) hx hb dX8_row_19 (by decide) (fun c_6 => ?_) (fun c_6 => ?_)
        · have hf := sn_if c_6 hf
          refine lv_iload_n hx hb dX8_row_25 rfl (lv_at hl 3 rfl) ?_
          refine lv_if_ge (tgt := 32) hx hb dX8_row_26 (by decide) (fun c_7 => ?_) (fun c_7 => ?_)
          · have hf := sn_if c_7 hf
            refine lv_aload_n hx hb dX8_row_32 rfl (lv_at hl 0 rfl) ?_
            refine sn_getC (r := 19) C hw fd_RX8_37 layC_0 rfl dX8_row_33 ?_
            refine lv_iload_n hx hb dX8_row_36 rfl (lv_at hl 1 rfl) ?_
            refine lv_iload_n hx hb dX8_row_37 rfl (lv_at hl 2 rfl) ?_
            refine lv_iload_n hx hb dX8_row_38 rfl (lv_at hl 3 rfl) ?_
            obtain ⟨t_8, h_9, hf⟩ := sn_bd hf
            refine sn_callVv (rest := []) C hw (ctX6_make l  h_9) kl_RX8_354 layC_19 rfl rfl rfl rfl (Nat.le_of_ble_eq_true rfl) dX8_row_39 hl.1 (fun H locs hw => ?_)
            refine lv_iconst (v := 0) hx hb dX8_row_42 rfl ?_
            cases hf
            exact kr _ _ _ _ hw rfl dX8_row_43
          · have hf := sn_el c_7 hf
            refine lv_bipush (v := (-3)) hx hb dX8_row_29 (by decide) ?_
            cases hf
            exact kr _ _ _ _ hw rfl dX8_row_31
        · have hf := sn_el c_6 hf
          refine lv_bipush (v := (-2)) hx hb dX8_row_22 (by decide) ?_
          cases hf
          exact kr _ _ _ _ hw rfl dX8_row_24
theorem ctX8_row (l : Launch) {σ : sn_S} {x1 : Int32} {x2 : Int32} {x3 : Int32}  {o : (Int32 × sn_S)} (hf : fX8_row σ x1 x2 x3 = some o) : sn_M l yX8_row cX8_row 4 (some .int) rmX8_row layC (fun ad => [.ref (ad 0), .int x1, .int x2, .int x3]) σ (some (fun _ => .int o.1)) o.2 :=
  sn_met (by decide) (fun _ => Nat.le_of_ble_eq_true rfl) (fun p e s m args below meth c ls D ct ad A C hw hl => wX8_row_in C  hf (fun H locs ls pc hw ok hd => sn_iret C hw hd) _ _ _ hw hl)
-- X8_write
abbrev rmX8_write : Room := { frames := 1, cells := 0, slots := 0, locals := 24 }
def fX8_write (σ : sn_S) (x1 : Int32) (x2 : Int32) (x3 : Int64) : Option (Int32 × sn_S) :=
  ((fX6_isSlot x1).bind fun t_1 => (if t_1 = 0 then
  (some ((-2 : Int32), σ))
  else
  ((fX6_has σ x1).bind fun t_4 => (if t_4 = 0 then
  (some ((-6 : Int32), σ))
  else
  (if x2 < 0 then
  (some ((-7 : Int32), σ))
  else
  (sn_gd (sn_in x1 4) (if x2 < (sn_I σ 26 x1.toNatClampNeg) then
  ((fX6_put σ x1 x2 x3).bind fun t_10 => (some ((0 : Int32), t_10)))
  else
  (some ((-7 : Int32), σ)))))))))
theorem wX8_write_in (C : sn_C p s m args meth c RX8 cX8_write 5 (some .int) D ct ad layC A) {σ : sn_S} {x1 : Int32} {x2 : Int32} {x3 : Int64}  {o : (Int32 × sn_S)} (hf : fX8_write σ x1 x2 x3 = some o) (kr : sn_Kr p l e rmX8_write s m args below meth c Q D ct ad layC A cX8_write .ireturn (true) o.2 [.int o.1]) : sn_At p l e rmX8_write s m args below meth c Q D ct ad layC A 5 σ 0 [(0, .ref (ad 0)), (1, .int x1), (2, .int x2), (3, .long x3)] [] := by
  intro H locs ls hw hl
  have hx := C.1
  have hb := C.2.1
  unfold fX8_write at hf
  refine lv_iload_n hx hb dX8_write_0 rfl (lv_at hl 1 rfl) ?_
  obtain ⟨t_1, h_2, hf⟩ := sn_bd hf
  refine sn_callSi (rest := []) C hw (ctX6_isSlot l  h_2) kl_RX8_287 rfl rfl rfl (Nat.le_of_ble_eq_true rfl) dX8_write_1 hl.1 (fun H locs hw => ?_)
  refine lv_if_ne (tgt := 10) hx hb dX8_write_4 (by decide) (fun c_3 => ?_) (fun c_3 => ?_)
  · have hf := sn_el c_3 hf
    refine lv_aload_n hx hb dX8_write_10 rfl (lv_at hl 0 rfl) ?_
    refine sn_getC (r := 19) C hw fd_RX8_37 layC_0 rfl dX8_write_11 ?_
    refine lv_iload_n hx hb dX8_write_14 rfl (lv_at hl 1 rfl) ?_
    obtain ⟨t_4, h_5, hf⟩ := sn_bd hf
    refine sn_callVi (rest := []) C hw (ctX6_has l  h_5) kl_RX8_290 layC_19 rfl rfl rfl rfl (Nat.le_of_ble_eq_true rfl) dX8_write_15 hl.1 (fun H locs hw => ?_)
    refine lv_if_ne (tgt := 24) hx hb dX8_write_18 (by decide) (fun c_6 => ?_) (fun c_6 => ?_)
    · have hf := sn_el c_6 hf
      refine lv_iload_n hx hb dX8_write_24 rfl (lv_at hl 2 rfl) ?_
      refine lv_if_lt (tgt := 41) hx hb dX8_write_25 (by decide) (fun c_7 => ?_) (fun c_7 => ?_)
      · have hf := sn_if c_7 hf
        refine lv_bipush (v := (-7)) hx hb dX8_write_41 (by decide) ?_
        cases hf
        exact kr _ _ _ _ hw rfl dX8_write_43
      · have hf := sn_el c_7 hf
        refine lv_iload_n hx hb dX8_write_28 rfl (lv_at hl 2 rfl) ?_
        refine lv_aload_n hx hb dX8_write_29 rfl (lv_at hl 0 rfl) ?_
        refine sn_getC (r := 19) C hw fd_RX8_37 layC_0 rfl dX8_write_30 ?_
        refine sn_getC (r := 26) C hw fd_RX8_293 layC_19 rfl dX8_write_33 ?_
        refine lv_iload_n hx hb dX8_write_36 rfl (lv_at hl 1 rfl) ?_
        obtain ⟨g_8, hf⟩ := sn_gdE hf
        refine sn_iald C hw layC_26 g_8 dX8_write_37 ?_
        refine lv_icmp_lt (tgt := 44) hx hb dX8_write_38 (by decide) (fun c_9 => ?_) (fun c_9 => ?_)
        · have hf := sn_if c_9 hf
          refine lv_aload_n hx hb dX8_write_44 rfl (lv_at hl 0 rfl) ?_
          refine sn_getC (r := 19) C hw fd_RX8_37 layC_0 rfl dX8_write_45 ?_
          refine lv_iload_n hx hb dX8_write_48 rfl (lv_at hl 1 rfl) ?_
          refine lv_iload_n hx hb dX8_write_49 rfl (lv_at hl 2 rfl) ?_
          refine lv_lload_n hx hb dX8_write_50 rfl (lv_at hl 3 rfl) ?_
          obtain ⟨t_10, h_11, hf⟩ := sn_bd hf
          refine sn_callVv (rest := []) C hw (ctX6_put l  h_11) kl_RX8_358 layC_19 rfl rfl rfl rfl (Nat.le_of_ble_eq_true rfl) dX8_write_51 hl.1 (fun H locs hw => ?_)
          refine lv_iconst (v := 0) hx hb dX8_write_54 rfl ?_
          cases hf
          exact kr _ _ _ _ hw rfl dX8_write_55
        · have hf := sn_el c_9 hf
          refine lv_bipush (v := (-7)) hx hb dX8_write_41 (by decide) ?_
          cases hf
          exact kr _ _ _ _ hw rfl dX8_write_43
    · have hf := sn_if c_6 hf
      refine lv_bipush (v := (-6)) hx hb dX8_write_21 (by decide) ?_
      cases hf
      exact kr _ _ _ _ hw rfl dX8_write_23
  · have hf := sn_if c_3 hf
    refine lv_bipush (v := (-2)) hx hb dX8_write_7 (by decide) ?_
    cases hf
    exact kr _ _ _ _ hw rfl dX8_write_9
theorem ctX8_write (l : Launch) {σ : sn_S} {x1 : Int32} {x2 : Int32} {x3 : Int64}  {o : (Int32 × sn_S)} (hf : fX8_write σ x1 x2 x3 = some o) : sn_M l yX8_write cX8_write 5 (some .int) rmX8_write layC (fun ad => [.ref (ad 0), .int x1, .int x2, .long x3]) σ (some (fun _ => .int o.1)) o.2 :=
  sn_met (by decide) (fun _ => Nat.le_of_ble_eq_true rfl) (fun p e s m args below meth c ls D ct ad A C hw hl => wX8_write_in C  hf (fun H locs ls pc hw ok hd => sn_iret C hw hd) _ _ _ hw hl)
-- X8_paste
abbrev rmX8_paste : Room := { frames := 1, cells := 0, slots := 0, locals := 48 }
def fX8_paste (σ : sn_S) (x1 : Int32) (x2 : Int32) (x3 : Int32) (x4 : Int32) (x5 : Int32) : Option (Int32 × sn_S) :=
  ((fX6_isSlot x1).bind fun t_1 => (if t_1 = 0 then
  (some ((-2 : Int32), σ))
  else
  ((fX6_isSlot x3).bind fun t_4 => (if t_4 = 0 then
  (some ((-2 : Int32), σ))
  else
  ((fX6_has σ x1).bind fun t_7 => (if t_7 = 0 then
  (some ((-6 : Int32), σ))
  else
  ((fX6_has σ x3).bind fun t_10 => (if t_10 = 0 then
  (some ((-6 : Int32), σ))
  else
  (sn_gd (sn_in x1 4) (sn_gd (sn_in x3 4) (if (sn_I σ 25 x1.toNatClampNeg) = (sn_I σ 25 x3.toNatClampNeg) then
  ((fX6_spans σ x1 x2 x5).bind fun t_16 => (if t_16 = 0 then
  (some ((-7 : Int32), σ))
  else
  ((fX6_spans σ x3 x4 x5).bind fun t_19 => (if t_19 = 0 then
  (some ((-7 : Int32), σ))
  else
  (sn_gd (sn_in x1 4) (sn_gd (sn_in x3 4) (sn_gd (sn_cpok x2 x4 x5 60 60) (sn_lt (sn_wL σ (sn_at sn_rs20 x3) (va_cpy (sn_L σ (sn_at sn_rs20 x1)) (sn_L σ (sn_at sn_rs20 x3)) x2.toNatClampNeg x4.toNatClampNeg x5.toNatClampNeg)) fun σ_25 => (some ((0 : Int32), σ_25))))))))))
  else
  (some ((-8 : Int32), σ)))))))))))))
theorem wX8_paste_in (C : sn_C p s m args meth c RX8 cX8_paste 6 (some .int) D ct ad layC A) {σ : sn_S} {x1 : Int32} {x2 : Int32} {x3 : Int32} {x4 : Int32} {x5 : Int32}  {o : (Int32 × sn_S)} (hf : fX8_paste σ x1 x2 x3 x4 x5 = some o) (kr : sn_Kr p l e rmX8_paste s m args below meth c Q D ct ad layC A cX8_paste .ireturn (true) o.2 [.int o.1]) : sn_At p l e rmX8_paste s m args below meth c Q D ct ad layC A 6 σ 0 [(0, .ref (ad 0)), (1, .int x1), (2, .int x2), (3, .int x3), (4, .int x4), (5, .int x5)] [] := by
  intro H locs ls hw hl
  have hx := C.1
  have hb := C.2.1
  unfold fX8_paste at hf
  refine lv_iload_n hx hb dX8_paste_0 rfl (lv_at hl 1 rfl) ?_
  obtain ⟨t_1, h_2, hf⟩ := sn_bd hf
  refine sn_callSi (rest := []) C hw (ctX6_isSlot l  h_2) kl_RX8_287 rfl rfl rfl (Nat.le_of_ble_eq_true rfl) dX8_paste_1 hl.1 (fun H locs hw => ?_)
  refine lv_if_eq (tgt := 14) hx hb dX8_paste_4 (by decide) (fun c_3 => ?_) (fun c_3 => ?_)
  · have hf := sn_if c_3 hf
    refine lv_bipush (v := (-2)) hx hb dX8_paste_14 (by decide) ?_
    cases hf
    exact kr _ _ _ _ hw rfl dX8_paste_16
  · have hf := sn_el c_3 hf
    refine lv_iload_n hx hb dX8_paste_7 rfl (lv_at hl 3 rfl) ?_
    obtain ⟨t_4, h_5, hf⟩ := sn_bd hf
    refine sn_callSi (rest := []) C hw (ctX6_isSlot l  h_5) kl_RX8_287 rfl rfl rfl (Nat.le_of_ble_eq_true rfl) dX8_paste_8 hl.1 (fun H locs hw => ?_)
    refine lv_if_ne (tgt := 17) hx hb dX8_paste_11 (by decide) (fun c_6 => ?_) (fun c_6 => ?_)
    · have hf := sn_el c_6 hf
      refine lv_aload_n hx hb dX8_paste_17 rfl (lv_at hl 0 rfl) ?_
      refine sn_getC (r := 19) C hw fd_RX8_37 layC_0 rfl dX8_paste_18 ?_
      refine lv_iload_n hx hb dX8_paste_21 rfl (lv_at hl 1 rfl) ?_
      obtain ⟨t_7, h_8, hf⟩ := sn_bd hf
      refine sn_callVi (rest := []) C hw (ctX6_has l  h_8) kl_RX8_290 layC_19 rfl rfl rfl rfl (Nat.le_of_ble_eq_true rfl) dX8_paste_22 hl.1 (fun H locs hw => ?_)
      refine lv_if_eq (tgt := 39) hx hb dX8_paste_25 (by decide) (fun c_9 => ?_) (fun c_9 => ?_)
      · have hf := sn_if c_9 hf
        refine lv_bipush (v := (-6)) hx hb dX8_paste_39 (by decide) ?_
        cases hf
        exact kr _ _ _ _ hw rfl dX8_paste_41
      · have hf := sn_el c_9 hf
        refine lv_aload_n hx hb dX8_paste_28 rfl (lv_at hl 0 rfl) ?_
        refine sn_getC (r := 19) C hw fd_RX8_37 layC_0 rfl dX8_paste_29 ?_
        refine lv_iload_n hx hb dX8_paste_32 rfl (lv_at hl 3 rfl) ?_
        obtain ⟨t_10, h_11, hf⟩ := sn_bd hf
        refine sn_callVi (rest := []) C hw (ctX6_has l  h_11) kl_RX8_290 layC_19 rfl rfl rfl rfl (Nat.le_of_ble_eq_true rfl) dX8_paste_33 hl.1 (fun H locs hw => ?_)
        refine lv_if_ne (tgt := 42) hx hb dX8_paste_36 (by decide) (fun c_12 => ?_) (fun c_12 => ?_)
        · have hf := sn_el c_12 hf
          refine lv_aload_n hx hb dX8_paste_42 rfl (lv_at hl 0 rfl) ?_
          refine sn_getC (r := 19) C hw fd_RX8_37 layC_0 rfl dX8_paste_43 ?_
          refine sn_getC (r := 25) C hw fd_RX8_361 layC_19 rfl dX8_paste_46 ?_
          refine lv_iload_n hx hb dX8_paste_49 rfl (lv_at hl 1 rfl) ?_
          obtain ⟨g_13, hf⟩ := sn_gdE hf
          refine sn_iald C hw layC_25 g_13 dX8_paste_50 ?_
          refine lv_aload_n hx hb dX8_paste_51 rfl (lv_at hl 0 rfl) ?_
          refine sn_getC (r := 19) C hw fd_RX8_37 layC_0 rfl dX8_paste_52 ?_
          refine sn_getC (r := 25) C hw fd_RX8_361 layC_19 rfl dX8_paste_55 ?_
          refine lv_iload_n hx hb dX8_paste_58 rfl (lv_at hl 3 rfl) ?_
          obtain ⟨g_14, hf⟩ := sn_gdE hf
          refine sn_iald C hw layC_25 g_14 dX8_paste_59 ?_
          refine lv_icmp_eq (tgt := 66) hx hb dX8_paste_60 (by decide) (fun c_15 => ?_) (fun c_15 => ?_)
          · have hf := sn_if c_15 hf
            refine lv_aload_n hx hb dX8_paste_66 rfl (lv_at hl 0 rfl) ?_
            refine sn_getC (r := 19) C hw fd_RX8_37 layC_0 rfl dX8_paste_67 ?_
            refine lv_iload_n hx hb dX8_paste_70 rfl (lv_at hl 1 rfl) ?_
            refine lv_iload_n hx hb dX8_paste_71 rfl (lv_at hl 2 rfl) ?_
            refine lv_iload hx hb dX8_paste_72 (lv_at hl 5 rfl) ?_
            obtain ⟨t_16, h_17, hf⟩ := sn_bd hf
            refine sn_callVi (rest := []) C hw (ctX6_spans l  h_17) kl_RX8_364 layC_19 rfl rfl rfl rfl (Nat.le_of_ble_eq_true rfl) dX8_paste_74 hl.1 (fun H locs hw => ?_)
            refine lv_if_eq (tgt := 95) hx hb dX8_paste_77 (by decide) (fun c_18 => ?_) (fun c_18 => ?_)
            · have hf := sn_if c_18 hf
              refine lv_bipush (v := (-7)) hx hb dX8_paste_95 (by decide) ?_
              cases hf
              exact kr _ _ _ _ hw rfl dX8_paste_97
            · have hf := sn_el c_18 hf
              refine lv_aload_n hx hb dX8_paste_80 rfl (lv_at hl 0 rfl) ?_
              refine sn_getC (r := 19) C hw fd_RX8_37 layC_0 rfl dX8_paste_81 ?_
              refine lv_iload_n hx hb dX8_paste_84 rfl (lv_at hl 3 rfl) ?_
              refine lv_iload hx hb dX8_paste_85 (lv_at hl 4 rfl) ?_
              refine lv_iload hx hb dX8_paste_87 (lv_at hl 5 rfl) ?_
              obtain ⟨t_19, h_20, hf⟩ := sn_bd hf
              refine sn_callVi (rest := []) C hw (ctX6_spans l  h_20) kl_RX8_364 layC_19 rfl rfl rfl rfl (Nat.le_of_ble_eq_true rfl) dX8_paste_89 hl.1 (fun H locs hw => ?_)
              refine lv_if_ne (tgt := 98) hx hb dX8_paste_92 (by decide) (fun c_21 => ?_) (fun c_21 => ?_)
              · have hf := sn_el c_21 hf
                refine lv_aload_n hx hb dX8_paste_98 rfl (lv_at hl 0 rfl) ?_
                refine sn_getC (r := 19) C hw fd_RX8_37 layC_0 rfl dX8_paste_99 ?_
                refine sn_getC (r := 20) C hw fd_RX8_299 layC_19 rfl dX8_paste_102 ?_
                refine lv_iload_n hx hb dX8_paste_105 rfl (lv_at hl 1 rfl) ?_
                obtain ⟨g_22, hf⟩ := sn_gdE hf
                refine sn_aldA C hw layC_20 rfl g_22 dX8_paste_106 ?_
                refine lv_iload_n hx hb dX8_paste_107 rfl (lv_at hl 2 rfl) ?_
                refine lv_aload_n hx hb dX8_paste_108 rfl (lv_at hl 0 rfl) ?_
                refine sn_getC (r := 19) C hw fd_RX8_37 layC_0 rfl dX8_paste_109 ?_
                refine sn_getC (r := 20) C hw fd_RX8_299 layC_19 rfl dX8_paste_112 ?_
                refine lv_iload_n hx hb dX8_paste_115 rfl (lv_at hl 3 rfl) ?_
                obtain ⟨g_23, hf⟩ := sn_gdE hf
                refine sn_aldA C hw layC_20 rfl g_23 dX8_paste_116 ?_
                refine lv_iload hx hb dX8_paste_117 (lv_at hl 4 rfl) ?_
                refine lv_iload hx hb dX8_paste_119 (lv_at hl 5 rfl) ?_
                obtain ⟨g_24, hf⟩ := sn_gdE hf
                refine sn_cpyL (rest := []) C hw km_RX8_367 kna_copy kst_copy ki_System (sn_rs_row g_22) (sn_rs_row g_23) g_24 (Nat.le_of_ble_eq_true rfl) (Nat.le_of_ble_eq_true rfl) dX8_paste_121 hl.1 (fun H locs hw => ?_)
                obtain ⟨σ_25, e_26, hf⟩ := sn_ltE hf
                rw [← e_26] at hw
                refine lv_iconst (v := 0) hx hb dX8_paste_124 rfl ?_
                cases hf
                exact kr _ _ _ _ hw rfl dX8_paste_125
              · have hf := sn_if c_21 hf
                refine lv_bipush (v := (-7)) hx hb dX8_paste_95 (by decide) ?_
                cases hf
                exact kr _ _ _ _ hw rfl dX8_paste_97
          · have hf := sn_el c_15 hf
            refine lv_bipush (v := (-8)) hx hb dX8_paste_63 (by decide) ?_
            cases hf
            exact kr _ _ _ _ hw rfl dX8_paste_65
        · have hf := sn_if c_12 hf
          refine lv_bipush (v := (-6)) hx hb dX8_paste_39 (by decide) ?_
          cases hf
          exact kr _ _ _ _ hw rfl dX8_paste_41
    · have hf := sn_if c_6 hf
      refine lv_bipush (v := (-2)) hx hb dX8_paste_14 (by decide) ?_
      cases hf
      exact kr _ _ _ _ hw rfl dX8_paste_16
theorem ctX8_paste (l : Launch) {σ : sn_S} {x1 : Int32} {x2 : Int32} {x3 : Int32} {x4 : Int32} {x5 : Int32}  {o : (Int32 × sn_S)} (hf : fX8_paste σ x1 x2 x3 x4 x5 = some o) : sn_M l yX8_paste cX8_paste 6 (some .int) rmX8_paste layC (fun ad => [.ref (ad 0), .int x1, .int x2, .int x3, .int x4, .int x5]) σ (some (fun _ => .int o.1)) o.2 :=
  sn_met (by decide) (fun _ => Nat.le_of_ble_eq_true rfl) (fun p e s m args below meth c ls D ct ad A C hw hl => wX8_paste_in C  hf (fun H locs ls pc hw ok hd => sn_iret C hw hd) _ _ _ hw hl)
end
end
section
/-! rows that make cells: the world grows by a place at its end, addresses run on from a first one -/
def sn_zr (σ : sn_S) (a : Nat) : Prop := σ.1 a = (fun _ => 0) ∧ σ.2.1 a = (fun _ => 0) ∧ σ.2.2 a = (fun _ => none)
theorem sn_zr_pI {σ : sn_S} {q k a : Nat} {v : Int32} (hq : a ≠ q) (h : sn_zr σ a) : sn_zr (sn_pI σ q k v) a := by
  refine ⟨?_, h.2.1, h.2.2⟩
  funext b
  show (if a = q ∧ b = k then v else σ.1 a b) = 0
  rw [if_neg (fun z => hq z.1), h.1]
theorem sn_zr_pR {σ : sn_S} {q k a : Nat} {v : Option Nat} (hq : a ≠ q) (h : sn_zr σ a) : sn_zr (sn_pR σ q k v) a := by
  refine ⟨h.1, h.2.1, ?_⟩
  funext b
  show (if a = q ∧ b = k then v else σ.2.2 a b) = none
  rw [if_neg (fun z => hq z.1), h.2.2]
theorem sn_zr_wI {σ : sn_S} {q a : Nat} {f : Nat → Int32} (hq : a ≠ q) (h : sn_zr σ a) : sn_zr (sn_wI σ q f) a := by
  refine ⟨?_, h.2.1, h.2.2⟩
  show (if a = q then f else σ.1 a) = _
  rw [if_neg hq, h.1]
def sn_z : sn_S := (fun _ _ => 0, fun _ _ => 0, fun _ _ => none)
theorem sn_z_zr (a : Nat) : sn_zr sn_z a := ⟨rfl, rfl, rfl⟩
theorem sn_W_app {ct : Nat → ClassId} {ad : Nat → Nat} {σ : sn_S} {l2 : List sn_E} : ∀ (l1 : List sn_E) (k : Nat), sn_W ct ad σ k (l1 ++ l2) = sn_W ct ad σ k l1 ++ sn_W ct ad σ (k + l1.length) l2 := by
  intro l1
  induction l1 with
  | nil => intro k; rfl
  | cons x r ih =>
    intro k
    show (ad k, sn_ev ct ad σ k x) :: sn_W ct ad σ (k + 1) (r ++ l2) = (ad k, sn_ev ct ad σ k x) :: (sn_W ct ad σ (k + 1) r ++ sn_W ct ad σ (k + (r.length + 1)) l2)
    rw [ih (k + 1), show k + 1 + r.length = k + (r.length + 1) by omega]
theorem sn_W_at {ct : Nat → ClassId} {ad : Nat → Nat} {σ : sn_S} : ∀ (lay : List sn_E) (j k : Nat) (q : Nat × va_E), (sn_W ct ad σ j lay)[k]? = some q → k < lay.length ∧ q.1 = ad (j + k) := by
  intro lay
  induction lay with
  | nil => intro j k q h; simp [sn_W] at h
  | cons x r ih =>
    intro j k q h
    match k with
    | 0 =>
      simp [sn_W] at h
      subst h
      exact ⟨by simp, rfl⟩
    | k + 1 =>
      have h1 : (sn_W ct ad σ (j + 1) r)[k]? = some q := by simpa [sn_W] using h
      obtain ⟨h2, h3⟩ := ih (j + 1) k q h1
      exact ⟨by simpa using h2, by rw [h3, show j + 1 + k = j + (k + 1) by omega]⟩
/-- the addresses of the places -/
def sn_E0 (ad : Nat → Nat) (A : Nat → Prop) (N0 : Nat) : Prop := (∀ k, k < 200 → ad k = N0 + k) ∧ ∀ q, N0 ≤ q → A q
theorem sn_D_of {ct : Nat → ClassId} {ad : Nat → Nat} {A : Nat → Prop} {N0 : Nat} {lay : List sn_E} (hE : sn_E0 ad A N0) (hl : lay.length ≤ 200) : ∀ σ, va_D A (sn_W ct ad σ 0 lay) := by
  intro σ
  refine ⟨fun i j p q hi hj hpq => ?_, fun k q hk => ?_⟩
  · obtain ⟨a1, a2⟩ := sn_W_at lay 0 i p hi
    obtain ⟨b1, b2⟩ := sn_W_at lay 0 j q hj
    rw [Nat.zero_add, hE.1 i (by omega)] at a2
    rw [Nat.zero_add, hE.1 j (by omega)] at b2
    omega
  · obtain ⟨a1, a2⟩ := sn_W_at lay 0 k q hk
    rw [Nat.zero_add, hE.1 k (by omega)] at a2
    exact hE.2 _ (by omega)
section AL
variable {p : Program} {l : Launch} {e : Env} {R : Room} {s : State} {m : MethodId} {args : Array Value} {below : List Frame} {meth : Method} {c : Code} {H : Heap} {locs : List Loc} {cells slots : Nat} {Q : State → Prop}
variable {cc : ByteArray} {pc nL N0 : Nat} {ls : Array Slot} {rest : List Value} {own : String} {ret : Option FieldType} {D : va_G} {ct : Nat → ClassId} {ad : Nat → Nat} {lay : List sn_E} {A : Nat → Prop} {σ : sn_S}
theorem sn_C_lay {lay2 : List sn_E} (C : sn_C p s m args meth c own cc nL ret D ct ad lay A) (hE : sn_E0 ad A N0) (hl : lay2.length ≤ 200) : sn_C p s m args meth c own cc nL ret D ct ad lay2 A := by
  obtain ⟨hx, hb, hml, hown, hts, hr, hlk, hK, hD, hG⟩ := C
  exact ⟨hx, hb, hml, hown, hts, hr, hlk, hK, sn_D_of hE hl, hG⟩
theorem sn_size {g : JFrame} (kk : H.size ≤ s.heap.size + cells → W p l e R s m args below meth c H locs cells slots Q g) : W p l e R s m args below meth c H locs cells slots Q g := by
  intro T hT X
  have h := X.heapSize
  rw [hT] at h
  exact kk h T hT X
/-- how large the heap is, where all that was made lies in the world -/
theorem sn_heap {g : JFrame} (hE : sn_E0 ad A N0) (h0 : 0 < lay.length) (hl : lay.length ≤ 200) (hs : s.heap.size + cells = N0 + lay.length) (h : sn_H s D ct ad lay A σ H locs) (kk : H.size = N0 + lay.length → W p l e R s m args below meth c H locs cells slots Q g) : W p l e R s m args below meth c H locs cells slots Q g := by
  refine sn_size (fun h1 => kk ?_)
  have h2 := h.2.1
  obtain ⟨x, hx⟩ : ∃ x, lay[lay.length - 1]? = some x := ⟨lay[lay.length - 1], List.getElem?_eq_getElem (by omega)⟩
  have h3 := (h.1 _ _ (sn_W_get (ct := ct) (ad := ad) (σ := σ) 0 hx)).lt
  rw [Nat.zero_add] at h3
  have h4 : ad (lay.length - 1) < H.size := h3
  rw [hE.1 _ (by omega)] at h4
  omega
theorem sn_grow {x : sn_E} {H1 : Heap} (hE : sn_E0 ad A N0) (hl : lay.length < 200) (hz : H.size = N0 + lay.length) (h : sn_H s D ct ad lay A σ H locs) (hx : va_at D vwCl (ad lay.length, sn_ev ct ad σ lay.length x) H1) (hs : H1.size = H.size + 1) (ho : ∀ q, q < H.size → H1[q]? = H[q]?) : sn_H s D ct ad (lay ++ [x]) A σ H1 locs := by
  refine ⟨?_, Nat.le_trans h.2.1 (by omega), fun q h1 h2 => ?_, h.2.2.2⟩
  · rw [sn_W_app]
    refine (h.1.kept (fun k q hq => ?_)).app (fun k q hq => ?_)
    · obtain ⟨a1, a2⟩ := sn_W_at lay 0 k q hq
      rw [Nat.zero_add, hE.1 k (by omega)] at a2
      exact ho _ (by omega)
    · have h0 : k < 1 := (List.getElem?_eq_some_iff.mp hq).1
      rw [show k = 0 by omega] at hq
      have e1 : q = (ad (0 + lay.length), sn_ev ct ad σ (0 + lay.length) x) := (Option.some.inj hq).symm
      rw [e1, Nat.zero_add]
      exact hx
  · rw [ho q (Nat.lt_of_lt_of_le h1 h.2.1)]
    exact h.2.2.1 q h1 h2
theorem sn_newarr {atype : ArrayType} {t N kd : Nat} {ty : FieldType} {n : Int32} {lay3 : List sn_E} {nn : Nat} (C : sn_C p s m args meth c own cc nL ret D ct ad lay A) (hE : sn_E0 ad A N0) (h : sn_H s D ct ad lay A σ H locs) (hnn : lay.length = nn) (hl3 : lay ++ [.inl (t, N, kd, [])] = lay3) (hl : 0 < nn ∧ nn < 200) (hs : s.heap.size + cells = N0 + nn)
    (hty : newarray.typeOf atype = ty) (ht : (sn_tys ct)[t]? = some (ct t, ty)) (hprim : ∀ K, ty ≠ .object K) (harr : Cond.arrayClass ty ∈ sn_gw) (hcell : ∀ cA, vp_cell cA (sn_av ad σ nn N [] kd) = arrV cA N (fun _ => defaultValue ty))
    (hn : ¬ n < 0) (hN : n.toNatClampNeg = N) (hby : N * componentBytes ty ≤ 536870912) (hce : cells + 1 ≤ R.cells) (hsl : slots + N ≤ R.slots) (hd : decode cc pc = .ok (.newarray atype, 2))
    (kk : ∀ (H : Heap), sn_C p s m args meth c own cc nL ret D ct ad lay3 A → sn_H s D ct ad lay3 A σ H locs → W p l e R s m args below meth c H locs (cells + 1) (slots + N) Q (F0 m (pc + 2) ls (.ref (ad nn) :: rest))) :
    W p l e R s m args below meth c H locs cells slots Q (F0 m pc ls (.int n :: rest)) := by
  subst hty
  subst hnn
  subst hl3
  refine sn_heap hE hl.1 (Nat.le_of_lt hl.2) hs h (fun hz => ?_)
  have C2 := sn_C_lay (lay2 := lay ++ [.inl (t, N, kd, [])]) C hE (by have := hl.2; simp; omega)
  obtain ⟨hx, hb, hml, hown, hts, hr, hlk, hK, hD, hG⟩ := C
  refine va_newaK hx hb (hts _ harr) rfl hd rfl hn hN hby hce hsl rfl fun H1 cA e1 z1 o1 hAr hNm => ?_
  have ec : cA = ct t := by
    have h2 := (hK.2 t _ ht).2
    cases atype <;> exact Option.some.inj (hNm.symm.trans h2)
  subst ec
  rw [hz, ← hE.1 _ hl.2] at e1
  rw [hz, ← hE.1 _ hl.2]
  exact kk H1 C2 (sn_grow hE hl.2 hz h (by show H1[ad lay.length]? = some (vp_cell _ _); rw [hcell]; exact e1) z1 o1)
theorem sn_newobj {index ci N : Nat} {K : String} {T : u_T} {ty : Nat → FieldType} {ks : List Nat} {lay3 : List sn_E} {nn : Nat} (C : sn_C p s m args meth c own cc nL ret D ct ad lay A) (hE : sn_E0 ad A N0) (h : sn_H s D ct ad lay A σ H locs) (hnn : lay.length = nn) (hl3 : lay ++ [.inr (ci, ks)] = lay3) (hl : 0 < nn ∧ nn < 200) (hs : s.heap.size + cells = N0 + nn)
    (hc : vwCl[ci]? = some (K, T, N)) (hin : ∀ w ∈ u_ws K T N, w ∈ sn_gw) (hty : ∀ k, k < N → parseFieldDescriptor (T k).2.2.1 = some (ty k)) (w1 : Cond.classLink own index K ∈ sn_gw) (w2 : Cond.instantiable K N ∈ sn_gw) (w3 : Cond.initialized K ∈ sn_gw)
    (hz : sn_zr σ nn) (hfs : ∀ (ad : Nat → Nat) (q j : Nat), j < N → defaultValue (ty j) = vp_V (sn_fs ad sn_z q 0 ks) j) (hce : cells + 1 ≤ R.cells) (hsl : slots + N ≤ R.slots) (hd : decode cc pc = .ok (.new index, 3))
    (kk : ∀ (H : Heap), sn_C p s m args meth c own cc nL ret D ct ad lay3 A → sn_H s D ct ad lay3 A σ H locs → H.size = N0 + lay3.length → W p l e R s m args below meth c H locs (cells + 1) (slots + N) Q (F0 m (pc + 3) ls (.ref (ad nn) :: rest))) :
    W p l e R s m args below meth c H locs cells slots Q (F0 m pc ls rest) := by
  subst hnn
  subst hl3
  refine sn_heap hE hl.1 (Nat.le_of_lt hl.2) hs h (fun hze => ?_)
  have C2 := sn_C_lay (lay2 := lay ++ [.inr (ci, ks)]) C hE (by have := hl.2; simp; omega)
  obtain ⟨hx, hb, hml, hown, hts, hr, hlk, hK, hD, hG⟩ := C
  have hKn := hK.1 ci _ hc
  refine W.newcK hx hb hown (hts _ w1) (hts _ w2) (hts _ w3) rfl hd hce hsl hKn.2.1 rfl fun H1 kC hkC e1 z1 o1 => ?_
  have e2 : va_at D vwCl (ad lay.length, .inr (ci, sn_fs ad sn_z lay.length 0 ks)) H1 := by
    rw [hze, ← hE.1 _ hl.2] at e1
    exact ⟨_, hc, (u_born ty hts hin hKn hkC e1 hty).to (hfs ad lay.length)⟩
  have e3 : sn_fs ad sn_z lay.length 0 ks = sn_fs ad σ lay.length 0 ks := sn_fs_ag ⟨hz.1.symm, hz.2.1.symm, hz.2.2.symm⟩ ks 0
  rw [e3] at e2
  rw [hze, ← hE.1 _ hl.2]
  exact kk H1 C2 (sn_grow hE hl.2 hze h e2 z1 o1) (by rw [z1, hze, List.length_append]; show N0 + lay.length + 1 = N0 + (lay.length + 1); omega)
theorem sn_apg {lay t : List sn_E} {k : Nat} {x : sn_E} (h : t[k]? = some x) : (lay ++ t)[lay.length + k]? = some x := by
  rw [List.getElem?_append_right (by omega), Nat.add_sub_cancel_left]
  exact h
theorem sn_cI {N n : Nat} (h : sn_zr σ n) : ∀ cA, vp_cell cA (sn_av ad σ n N [] 0) = arrV cA N (fun _ => defaultValue .int) := by
  intro cA
  show arrV cA N (fun j => .int (σ.1 n j)) = _
  rw [h.1]
  rfl
theorem sn_cZ {N n : Nat} (h : sn_zr σ n) : ∀ cA, vp_cell cA (sn_av ad σ n N [] 0) = arrV cA N (fun _ => defaultValue .boolean) := by
  intro cA
  show arrV cA N (fun j => .int (σ.1 n j)) = _
  rw [h.1]
  rfl
theorem sn_cB {N n : Nat} (h : sn_zr σ n) : ∀ cA, vp_cell cA (sn_av ad σ n N [] 0) = arrV cA N (fun _ => defaultValue .byte) := by
  intro cA
  show arrV cA N (fun j => .int (σ.1 n j)) = _
  rw [h.1]
  rfl
theorem sn_cL {N n : Nat} (h : sn_zr σ n) : ∀ cA, vp_cell cA (sn_av ad σ n N [] 1) = arrV cA N (fun _ => defaultValue .long) := by
  intro cA
  show arrV cA N (fun j => .long (σ.2.1 n j)) = _
  rw [h.2.1]
  rfl
/-- a final field, in a constructor -/
def sn_Ff (own : String) (index ci k : Nat) (ty : FieldType) : Prop := ∃ (C : String) (T : u_T) (N : Nat) (ty0 : Nat → FieldType), vwCl[ci]? = some (C, T, N) ∧ (∀ w ∈ u_ws C T N, w ∈ sn_gw) ∧ k < N ∧ Cond.fieldLink own index (T k).1 (T k).2.1 (T k).2.2.1 ∈ sn_gw ∧ (∀ k, k < N → parseFieldDescriptor (T k).2.2.1 = some (ty0 k)) ∧ (∀ a, a < N → ∀ b, b < N → a ≠ b → (T a).2.1 ≠ (T b).2.1) ∧ (T k).2.2.2 = true ∧ (T k).1 = own ∧ parseFieldDescriptor (T k).2.2.1 = some ty
theorem sn_putF {index ci k q r : Nat} {fs : List Nat} {ty : FieldType} (C : sn_C p s m args meth c own cc nL ret D ct ad lay A) (hni : meth.name = "<init>") (h : sn_H s D ct ad lay A σ H locs) (F : sn_Ff own index ci k ty) (hq : lay[q]? = some (.inr (ci, fs))) (hk : fs[k]? = some 2)
    (hn : narrow ty (.ref (ad r)) = .ref (ad r)) (hfit : fits ty (.ref (ad r)) = true) (hd : decode cc pc = .ok (.putfield index, 3))
    (kk : ∀ (H : Heap) (locs : List Loc), sn_H s D ct ad lay A (sn_pR σ q k (some r)) H locs → W p l e R s m args below meth c H locs cells slots Q (F0 m (pc + 3) ls rest)) : W p l e R s m args below meth c H locs cells slots Q (F0 m pc ls (.ref (ad r) :: .ref (ad q) :: rest)) := by
  obtain ⟨hx, hb, hml, hown, hts, hr, hlk, hK, hD, hG⟩ := C
  obtain ⟨K, T, N, ty0, hc, hin, hkN, hl, hty, hnm, hfin, hdecl, hpd⟩ := F
  have hg := sn_W_get (ct := ct) (ad := ad) (σ := σ) 0 hq
  rw [Nat.zero_add] at hg
  have hkl : k < (sn_fs ad σ q 0 fs).length := by rw [sn_fs_len]; exact (List.getElem?_eq_some_iff.mp hk).1
  refine va_putF (v := .ref (ad r)) (ty := ty) hx hb hts hin ty0 hty hnm hown hK h.1 (hD σ) h.2 q hg hc k hkN (hts _ hl) (fun _ z => z) hfin hni hdecl hpd hn hfit hkl hd (fun H1 locs1 hP1 hD1 hS1 => ?_)
  refine kk H1 locs1 ⟨?_, hS1⟩
  have hv : sn_fv ad (sn_pR σ q k (some r)) q k 2 = .ref (ad r) := by
    show va_rf ((if q = q ∧ k = k then some r else σ.2.2 q k).map ad) = _
    rw [if_pos ⟨rfl, rfl⟩]
    rfl
  have e1 := sn_fs_set (ad := ad) (σ := σ) (τ := sn_pR σ q k (some r)) (q := q) 0 hk (by
    intro b hb
    rw [Nat.zero_add] at hb
    refine ⟨rfl, rfl, ?_⟩
    show σ.2.2 q b = if q = q ∧ b = k then some r else σ.2.2 q b
    rw [if_neg (fun z => hb z.2)])
  rw [Nat.zero_add, hv] at e1
  rw [e1] at hP1
  have e2 := sn_W_set (ct := ct) (ad := ad) (σ := σ) (τ := sn_pR σ q k (some r)) 0 hq (by
    intro a ha
    rw [Nat.zero_add] at ha
    refine ⟨rfl, rfl, funext fun b => ?_⟩
    show σ.2.2 a b = if a = q ∧ b = k then some r else σ.2.2 a b
    rw [if_neg (fun z => ha z.1)])
  rw [Nat.zero_add] at e2
  rw [← e2]
  exact hP1
/-- arrays of references can be made -/
def sn_AO (U : State) : Prop := (Cond.arrayOver (.object "PepperPolicy$House")).before #[] U = true ∧ (Cond.arrayOver (.array .long)).before #[] U = true
theorem sn_AO_same {u U : State} (hv : U.vm = u.vm) (h : sn_AO u) : sn_AO U := by
  obtain ⟨h1, h2⟩ := h
  refine ⟨?_, ?_⟩
  · unfold Cond.before Cond.holds at h1 ⊢
    simp only [Cond.value] at h1 ⊢
    rw [hv]
    exact h1
  · unfold Cond.before Cond.holds at h2 ⊢
    simp only [Cond.value] at h2 ⊢
    rw [hv]
    exact h2
theorem sn_AOA_spec {args : Array Value} {U : State} {ty : FieldType} (h : (Cond.arrayOver (.array ty)).before args U = true) :
    ∃ comp c k, U.vm.findClass (FieldType.array ty).toString = some comp ∧ (U.vm.classes.findIdx? fun x => match x.kind with | .array component _ => component == comp | _ => false) = some c ∧ U.vm.classes[c]? = some k ∧ k.kind = .array comp (.array ty) ∧ U.vm.findClass ("[" ++ (FieldType.array ty).toString) = some c := by
  simp only [Cond.before, Cond.holds, Cond.value, beq_iff_eq] at h
  cases hc : U.vm.findClass (FieldType.array ty).toString with
  | none => simp [hc] at h
  | some comp =>
    simp only [hc, Option.bind_some, Option.bind_eq_some_iff, Option.map_eq_some_iff] at h
    obtain ⟨c, hi, k, hk, hb⟩ := h
    obtain ⟨hlt, hp, -⟩ := Array.findIdx?_eq_some_iff_getElem.mp hi
    have hkk : U.vm.classes[c] = k := (Array.getElem?_eq_some_iff.mp hk).2
    rw [hkk] at hp
    cases hkind : k.kind with
    | array component t2 =>
      rw [hkind] at hb hp
      simp at hb hp
      exact ⟨comp, c, k, rfl, hi, hk, by rw [hkind, hp, hb.1], hb.2⟩
    | _ => rw [hkind] at hb; simp at hb
theorem sn_AOA_moved {t : FieldType} {u U : State} (hvm : u.vm.Alike U.vm) (h : (Cond.arrayOver (.array t)).before #[] u = true) : (Cond.arrayOver (.array t)).before #[] U = true := by
  obtain ⟨comp, c, k, h1, h2, h3, h4, h5⟩ := sn_AOA_spec h
  obtain ⟨k', hk', he⟩ := hvm.2.2 _ _ h3
  have hi : (U.vm.classes.findIdx? fun (x : Class) => match x.kind with | .array component _ => component == comp | _ => false) = some c := by
    refine Eq.trans (va_idx_bare U.vm comp).symm ?_
    first | rw [hvm.bare_eq] | rw [← hvm.bare_eq]
    exact (va_idx_bare u.vm comp).trans h2
  have hkind : k'.kind = .array comp (.array t) := by rw [he]; exact h4
  have f1 : U.vm.findClass (FieldType.array t).toString = some comp := by rw [hvm.findClass]; exact h1
  have f2 : U.vm.findClass ("[" ++ (FieldType.array t).toString) = some c := by rw [hvm.findClass]; exact h5
  unfold Cond.before Cond.holds
  simp only [Cond.value]
  rw [f1, Option.bind_some]
  refine (congrArg (fun o : Option Nat => (o.bind (fun c => (U.vm.classes[c]?).map fun (k : Class) => match k.kind with | .array _ ty => decide (ty = FieldType.array t) && decide (U.vm.findClass ("[" ++ (FieldType.array t).toString) = some c) | _ => false) == some true)) hi).trans ?_
  simp [hk', hkind, f2]
theorem sn_AO_warm {s U : State} (hW : s.WarmedH U.vm) (h : sn_AO s) : sn_AO U := ⟨(va_AO.of h.1).moved hW.alike, sn_AOA_moved hW.alike h.2⟩
/-! constructors' contracts: the world before, with the object; the world behind -/
def sn_MA (l : Launch) (y : MethodName) (cc : ByteArray) (nL : Nat) (rm : Room) (lay lay' : List sn_E) (As : (Nat → Nat) → List Value) (σ τ : sn_S) (mc ms : Nat) : Prop :=
  ∀ (D : va_G) (ct : Nat → ClassId) (ad : Nat → Nat) (A : Nat → Prop) (N0 : Nat), sn_E0 ad A N0 → Met l y (Cond.code y cc nL none :: sn_gw) rm (fun a U => sn_Pc D ct ad lay A σ (As ad) a U ∧ U.heap.size = N0 + lay.length ∧ sn_AO U) (sn_Q D ct ad lay' A none τ) mc ms A
theorem sn_vretA {mc ms : Nat} (C : sn_C p s m args meth c own cc nL none D ct ad lay A) (h : sn_H s D ct ad lay A σ H locs) (hc : cells = mc) (hs : slots = ms) (hd : decode cc pc = .ok (.return_, 1)) : W p l e R s m args below meth c H locs cells slots (MQ below (sn_Q D ct ad lay A none σ) args s mc ms A) (F0 m pc ls []) := by
  obtain ⟨hx, hb, hml, hown, hts, hr, hlk, hK, hD, hG⟩ := C
  subst hc
  subst hs
  exact W.vret hx hb hr (fun t ht hW => ⟨rfl, by rw [ht]; exact h.1, h.2.F ht⟩) h.2.2.2 hd hlk
/-- the room of a constructor within the caller's -/
def sn_fitA (rm R : Room) (maxL mc ms : Nat) : Bool := decide (rm.frames + 1 ≤ R.frames) && decide (8 + (maxL + 11) + rm.locals ≤ R.locals) && decide (rm.cells = mc) && decide (rm.slots = ms)
theorem sn_fitA_spec {rm R : Room} {maxL mc ms : Nat} (h : sn_fitA rm R maxL mc ms = true) : (rm.frames + 1 ≤ R.frames ∧ 8 + (maxL + 11) + rm.locals ≤ R.locals) ∧ rm.cells = mc ∧ rm.slots = ms := by
  unfold sn_fitA at h
  simp only [Bool.and_eq_true, decide_eq_true_eq] at h
  exact ⟨⟨h.1.1.1, h.1.1.2⟩, h.1.2, h.2⟩
theorem sn_goonA {lay' : List sn_E} {τ : sn_S} {mc ms : Nat} {a : Array Value} {st0 : List Value} (h : sn_H s D ct ad lay A σ H locs)
    (hr : va_Run p l e R s m args below meth c H locs cells slots mc ms (F0 m pc ls st0) rest (sn_Q D ct ad lay' A none τ a) A)
    (kk : ∀ (H : Heap) (locs : List Loc), sn_H s D ct ad lay' A τ H locs → W p l e R s m args below meth c H locs (cells + mc) (slots + ms) Q (F0 m (pc + 3) ls rest)) : W p l e R s m args below meth c H locs cells slots Q (F0 m pc ls st0) := by
  intro T hT X
  obtain ⟨v', st₀, t, T', L, h0, X', hL, e1, e2, ⟨hv, hP, hz, hk⟩, st⟩ := hr T hT X
  cases hv
  rw [h0] at hz hk
  obtain ⟨t2, a1, b1⟩ := kk T'.heap (locs ++ L) ⟨by rw [e1]; exact hP, Nat.le_trans h.2.1 (by rw [e1]; exact hz), fun q h1 h2 => by rw [e1, hk q (Nat.lt_of_lt_of_le h1 h.2.1) h2]; exact h.2.2.1 q h1 h2, fun q hq => by
      rcases List.mem_append.mp hq with z | z
      · exact h.2.2.2 q z
      · exact hL q z⟩ T' rfl X'
  exact ⟨t2, st t2 a1, b1⟩
theorem sn_blindA {k : Nat} {As : List Value} : FrameBlind (fun a U => sn_Pc D ct ad lay A σ As a U ∧ U.heap.size = k ∧ sn_AO U) := by
  intro a U g mk h
  exact ⟨sn_blind a U g mk h.1, h.2.1, sn_AO_same (u := U) rfl h.2.2⟩
theorem sn_preA (C : sn_C p s m args meth c own cc nL ret D ct ad lay A) (h : sn_H s D ct ad lay A σ H locs) {k : Nat} (hz : H.size = k) (hO : sn_AO s) (As : List Value) : PreS s H (fun a U => sn_Pc D ct ad lay A σ As a U ∧ U.heap.size = k ∧ sn_AO U) As :=
  ⟨sn_blindA, fun U hU hW => ⟨(sn_pre C h As).2 U hU hW, by rw [hU]; exact hz, sn_AO_warm hW hO⟩⟩
/-- a nest mate's private constructor -/
theorem sn_callA {index mL n q mc ms : Nat} {y : MethodName} {host : String} {cy : ByteArray} {rm : Room} {As : (Nat → Nat) → List Value} {lay' : List sn_E} {τ : sn_S} {st0 : List Value} (rest : List Value) (C : sn_C p s m args meth c own cc nL ret D ct ad lay A) (hE : sn_E0 ad A N0) (h : sn_H s D ct ad lay A σ H locs) (hz : H.size = N0 + lay.length) (hO : sn_AO s)
    (hM : sn_MA l y cy mL rm lay lay' (fun ad => .ref (ad q) :: As ad) σ τ mc ms) (L1 : Cond.code y cy mL none ∈ sn_gw) (L2 : (own, index, y, host) ∈ sn_nest) (L3 : Cond.instanceMethod y ∈ sn_gw) (L4 : Cond.initialized y.cls ∈ sn_gw) (hyn : y.name = "<init>") (L5 : y.cls ≠ "java/lang/invoke/MethodHandle" ∧ y.cls ≠ "java/lang/invoke/VarHandle" ∧ (parseMethodDescriptor y.desc).map (fun d => d.parameters.length) = some n)
    (hR : sn_fitA rm R mL mc ms = true) (hn : (As ad).length = n) (hst : st0 = (As ad).reverse ++ .ref (ad q) :: rest) (hsum : sn_sum rest ≤ 8) (hd : decode cc pc = .ok (.invokespecial index, 3)) (hls : ls.size = nL) (hce : cells + mc ≤ R.cells) (hsl : slots + ms ≤ R.slots)
    (kk : ∀ (H : Heap) (locs : List Loc), sn_H s D ct ad lay' A τ H locs → W p l e R s m args below meth c H locs (cells + mc) (slots + ms) Q (F0 m (pc + 3) ls rest)) : W p l e R s m args below meth c H locs cells slots Q (F0 m pc ls st0) := by
  obtain ⟨hfit, hc0, hs0⟩ := sn_fitA_spec hR
  have C' := C
  obtain ⟨hx, hb, hml, hown, hts, hr, hlk, hK, hD, hG⟩ := C
  exact sn_goonA h (va_runIN (Ts := sn_gw) (As := As ad) (rest := rest) (n := n) (host := host) ⟨hx, hb, hml, hown, hts⟩ (hM D ct ad A N0 hE) ⟨va_cnB n hts (sn_good (sn_cg L1)) rfl hc0 hs0 (hG.2.2.2.2 _ L2) (hts _ L4) L5 hfit, hyn, hts _ L3⟩ (sn_preA C' h hz hO _) rfl hn hls hst (lv_room hsum) hd ⟨hce, hsl⟩) kk
/-- a constructor that one may call from elsewhere -/
theorem sn_callI {index mL n q mc ms : Nat} {y : MethodName} {cy : ByteArray} {rm : Room} {As : (Nat → Nat) → List Value} {lay' : List sn_E} {τ : sn_S} {st0 : List Value} (rest : List Value) (C : sn_C p s m args meth c own cc nL ret D ct ad lay A) (hE : sn_E0 ad A N0) (h : sn_H s D ct ad lay A σ H locs) (hz : H.size = N0 + lay.length) (hO : sn_AO s)
    (hM : sn_MA l y cy mL rm lay lay' (fun ad => .ref (ad q) :: As ad) σ τ mc ms) (L1 : Cond.code y cy mL none ∈ sn_gw) (L2 : Cond.methodLink own index y ∈ sn_gw) (L3 : Cond.instanceMethod y ∈ sn_gw) (L4 : Cond.initialized y.cls ∈ sn_gw) (hyn : y.name = "<init>") (L5 : y.cls ≠ "java/lang/invoke/MethodHandle" ∧ y.cls ≠ "java/lang/invoke/VarHandle" ∧ (parseMethodDescriptor y.desc).map (fun d => d.parameters.length) = some n)
    (hR : sn_fitA rm R mL mc ms = true) (hn : (As ad).length = n) (hst : st0 = (As ad).reverse ++ .ref (ad q) :: rest) (hsum : sn_sum rest ≤ 8) (hd : decode cc pc = .ok (.invokespecial index, 3)) (hls : ls.size = nL) (hce : cells + mc ≤ R.cells) (hsl : slots + ms ≤ R.slots)
    (kk : ∀ (H : Heap) (locs : List Loc), sn_H s D ct ad lay' A τ H locs → W p l e R s m args below meth c H locs (cells + mc) (slots + ms) Q (F0 m (pc + 3) ls rest)) : W p l e R s m args below meth c H locs cells slots Q (F0 m pc ls st0) := by
  obtain ⟨hfit, hc0, hs0⟩ := sn_fitA_spec hR
  have C' := C
  obtain ⟨hx, hb, hml, hown, hts, hr, hlk, hK, hD, hG⟩ := C
  exact sn_goonA h (va_runI (Ts := sn_gw) (As := As ad) (rest := rest) (n := n) ⟨hx, hb, hml, hown, hts⟩ (hM D ct ad A N0 hE) (cwI n hts (sn_good (sn_cg L1)) rfl hc0 hs0 (hts _ L4) (hts _ L2) (hts _ L3) hyn L5 hfit) (sn_preA C' h hz hO _) rfl hn hls hst (lv_room hsum) hd ⟨hce, hsl⟩) kk
end AL
/-- a constructor's contract, from the walk of its body -/
theorem sn_metA {l : Launch} {y : MethodName} {cc : ByteArray} {nL : Nat} {rm : Room} {lay lay' : List sn_E} {As : (Nat → Nat) → List Value} {σ τ : sn_S} {mc ms : Nat} (hy : plainName y.cls = true) (hyn : y.name = "<init>") (hl : lay.length ≤ 200) (hlen : ∀ ad, (lg_sl (As ad)).length ≤ nL)
    (body : ∀ (p : Program) (e : Env) (s : State) (m : MethodId) (args : Array Value) (below : List Frame) (meth : Method) (c : Code) (ls : Array Slot) (D : va_G) (ct : Nat → ClassId) (ad : Nat → Nat) (A : Nat → Prop) (N0 : Nat), sn_C p s m args meth c y.cls cc nL none D ct ad lay A → sn_E0 ad A N0 → meth.name = "<init>" → sn_AO s → s.heap.size = N0 + lay.length → sn_H s D ct ad lay A σ s.heap [] → lv_has ls nL (lv_args 0 (As ad)) →
      W p l e rm s m args below meth c s.heap [] 0 0 (MQ below (sn_Q D ct ad lay' A none τ) args s mc ms A) (F0 m 0 ls [])) : sn_MA l y cc nL rm lay lay' As σ τ mc ms := by
  intro D ct ad A N0 hE
  refine Met.ofW (cc := cc) (maxL := nL) (ret := none) hy rfl ?_
  intro p e s m args below meth c s₁ B hml hv
  obtain ⟨⟨rfl, hP, hK, hD0, hG0⟩, hz, hO⟩ := hv
  have hts := atoms_spec (ws := Cond.code y cc nL none :: sn_gw) B.pre
  have hlv := lv_entry (As ad) (n := nL) (hlen ad)
  rw [lg_entry_eq]
  have hin : meth.name = y.name := (name_of_methodNamed B.named B.method).1
  exact body p e s m _ below meth c _ D ct ad A N0 ⟨B.exec, B.bytes, hml, findClass_of_methodNamed B.named, fun w hw => hts w (List.mem_cons_of_mem _ hw), B.returns, B.notSynchronized, hK, hD0, hG0⟩ hE (hin.trans hyn) hO hz ⟨hP, va_S.rf⟩ hlv
end
section
theorem kpd_45 : (parseMethodDescriptor "(III)J").map (fun d => d.parameters.length) = some 3 := by decide +kernel
theorem kpd_46 : (parseMethodDescriptor "(IIJ)I").map (fun d => d.parameters.length) = some 3 := by decide +kernel
theorem km_RX2_3 : Cond.methodLink RX2 3 objectInit ∈ sn_gw := sn_gwI (lb_0 (lt_16 (lt_16 lt_h))) gw_methodLink
theorem kin_objectInit : Cond.instanceMethod objectInit ∈ sn_gw := sn_gwI (lb_0 (lt_16 (lt_9 lt_h))) gw_instanceMethod
theorem kc_objectInit : Cond.code objectInit ⟨#[0xb1]⟩ 1 none ∈ sn_gw := sn_gwI (lb_0 (lt_16 (lt_10 lt_h))) gw_code
theorem ka_int : Cond.arrayClass .int ∈ sn_gw := sn_gwI (lb_0 (lt_16 (lt_16 (lt_16 (lt_16 (lt_2 lt_h)))))) rfl
theorem ff_RX2_9 : sn_Ff RX2 9 2 0 (.array .int) := ⟨RX2, TX2, 6, tyX2, rfl, ug_X2, by decide, kf_RX2_9, tyX2_ok, nmX2, rfl, rfl, tyX2_ok 0 (by decide)⟩
theorem ff_RX2_15 : sn_Ff RX2 15 2 1 (.array .int) := ⟨RX2, TX2, 6, tyX2, rfl, ug_X2, by decide, kf_RX2_15, tyX2_ok, nmX2, rfl, rfl, tyX2_ok 1 (by decide)⟩
theorem ff_RX2_18 : sn_Ff RX2 18 2 2 (.array .int) := ⟨RX2, TX2, 6, tyX2, rfl, ug_X2, by decide, kf_RX2_18, tyX2_ok, nmX2, rfl, rfl, tyX2_ok 2 (by decide)⟩
theorem ff_RX2_21 : sn_Ff RX2 21 2 3 (.array .int) := ⟨RX2, TX2, 6, tyX2, rfl, ug_X2, by decide, kf_RX2_21, tyX2_ok, nmX2, rfl, rfl, tyX2_ok 3 (by decide)⟩
theorem ff_RX2_24 : sn_Ff RX2 24 2 4 (.array .int) := ⟨RX2, TX2, 6, tyX2, rfl, ug_X2, by decide, kf_RX2_24, tyX2_ok, nmX2, rfl, rfl, tyX2_ok 4 (by decide)⟩
theorem ff_RX2_27 : sn_Ff RX2 27 2 5 (.array .int) := ⟨RX2, TX2, 6, tyX2, rfl, ug_X2, by decide, kf_RX2_27, tyX2_ok, nmX2, rfl, rfl, tyX2_ok 5 (by decide)⟩
theorem km_RX5_3 : Cond.methodLink RX5 3 objectInit ∈ sn_gw := sn_gwI (lb_0 (lt_16 (lt_16 (lt_16 (lt_16 (lt_9 lt_h)))))) gw_methodLink
theorem ff_RX5_9 : sn_Ff RX5 9 5 0 (.array .int) := ⟨RX5, TX5, 8, tyX5, rfl, ug_X5, by decide, kf_RX5_9, tyX5_ok, nmX5, rfl, rfl, tyX5_ok 0 (by decide)⟩
theorem km_RX0_3 : Cond.methodLink RX0 3 objectInit ∈ sn_gw := sn_gwI (lb_0 (lt_16 (lt_16 (lt_16 (lt_16 (lt_16 (lt_16 (lt_16 (lt_16 (lt_5 lt_h)))))))))) gw_methodLink
theorem ff_RX0_15 : sn_Ff RX0 15 0 4 (.array .int) := ⟨RX0, TX0, 14, tyX0, rfl, ug_X0, by decide, kf_RX0_15, tyX0_ok, nmX0, rfl, rfl, tyX0_ok 4 (by decide)⟩
theorem ff_RX0_19 : sn_Ff RX0 19 0 5 (.array .int) := ⟨RX0, TX0, 14, tyX0, rfl, ug_X0, by decide, kf_RX0_19, tyX0_ok, nmX0, rfl, rfl, tyX0_ok 5 (by decide)⟩
theorem ff_RX0_22 : sn_Ff RX0 22 0 6 (.array .int) := ⟨RX0, TX0, 14, tyX0, rfl, ug_X0, by decide, kf_RX0_22, tyX0_ok, nmX0, rfl, rfl, tyX0_ok 6 (by decide)⟩
theorem ff_RX0_25 : sn_Ff RX0 25 0 7 (.array .int) := ⟨RX0, TX0, 14, tyX0, rfl, ug_X0, by decide, kf_RX0_25, tyX0_ok, nmX0, rfl, rfl, tyX0_ok 7 (by decide)⟩
theorem ff_RX0_28 : sn_Ff RX0 28 0 8 (.array .int) := ⟨RX0, TX0, 14, tyX0, rfl, ug_X0, by decide, kf_RX0_28, tyX0_ok, nmX0, rfl, rfl, tyX0_ok 8 (by decide)⟩
theorem ff_RX0_31 : sn_Ff RX0 31 0 9 (.array .int) := ⟨RX0, TX0, 14, tyX0, rfl, ug_X0, by decide, kf_RX0_31, tyX0_ok, nmX0, rfl, rfl, tyX0_ok 9 (by decide)⟩
theorem ff_RX0_34 : sn_Ff RX0 34 0 10 (.array .int) := ⟨RX0, TX0, 14, tyX0, rfl, ug_X0, by decide, kf_RX0_34, tyX0_ok, nmX0, rfl, rfl, tyX0_ok 10 (by decide)⟩
theorem ff_RX0_37 : sn_Ff RX0 37 0 11 (.array .int) := ⟨RX0, TX0, 14, tyX0, rfl, ug_X0, by decide, kf_RX0_37, tyX0_ok, nmX0, rfl, rfl, tyX0_ok 11 (by decide)⟩
theorem ff_RX0_40 : sn_Ff RX0 40 0 12 (.array .int) := ⟨RX0, TX0, 14, tyX0, rfl, ug_X0, by decide, kf_RX0_40, tyX0_ok, nmX0, rfl, rfl, tyX0_ok 12 (by decide)⟩
theorem ff_RX0_43 : sn_Ff RX0 43 0 13 (.array .int) := ⟨RX0, TX0, 14, tyX0, rfl, ug_X0, by decide, kf_RX0_43, tyX0_ok, nmX0, rfl, rfl, tyX0_ok 13 (by decide)⟩
theorem km_RX3_3 : Cond.methodLink RX3 3 objectInit ∈ sn_gw := sn_gwI (lb_0 (lt_16 (lt_16 (lt_16 (lt_16 (lt_16 (lt_16 (lt_16 (lt_16 (lt_16 (lt_16 (lt_16 (lt_16 (lt_11 lt_h)))))))))))))) gw_methodLink
theorem ff_RX3_9 : sn_Ff RX3 9 3 0 (.array .int) := ⟨RX3, TX3, 4, tyX3, rfl, ug_X3, by decide, kf_RX3_9, tyX3_ok, nmX3, rfl, rfl, tyX3_ok 0 (by decide)⟩
theorem ff_RX3_15 : sn_Ff RX3 15 3 1 (.array .int) := ⟨RX3, TX3, 4, tyX3, rfl, ug_X3, by decide, kf_RX3_15, tyX3_ok, nmX3, rfl, rfl, tyX3_ok 1 (by decide)⟩
theorem km_RX1_3 : Cond.methodLink RX1 3 objectInit ∈ sn_gw := sn_gwI (lb_0 (lt_16 (lt_16 (lt_16 (lt_16 (lt_16 (lt_16 (lt_16 (lt_16 (lt_16 (lt_16 (lt_16 (lt_16 (lt_16 (lt_16 (lt_2 lt_h)))))))))))))))) gw_methodLink
theorem ka_long : Cond.arrayClass .long ∈ sn_gw := sn_gwI (lb_0 (lt_16 (lt_16 (lt_16 (lt_16 (lt_16 (lt_16 (lt_16 (lt_15 lt_h))))))))) rfl
theorem ff_RX1_9 : sn_Ff RX1 9 1 0 (.array .long) := ⟨RX1, TX1, 2, tyX1, rfl, ug_X1, by decide, kf_RX1_9, tyX1_ok, nmX1, rfl, rfl, tyX1_ok 0 (by decide)⟩
theorem km_RX7_3 : Cond.methodLink RX7 3 objectInit ∈ sn_gw := sn_gwI (lb_0 (lt_16 (lt_16 (lt_16 (lt_16 (lt_16 (lt_16 (lt_16 (lt_16 (lt_16 (lt_16 (lt_16 (lt_16 (lt_16 (lt_16 (lt_15 lt_h)))))))))))))))) gw_methodLink
theorem ff_RX7_9 : sn_Ff RX7 9 7 0 (.array .int) := ⟨RX7, TX7, 5, tyX7, rfl, ug_X7, by decide, kf_RX7_9, tyX7_ok, nmX7, rfl, rfl, tyX7_ok 0 (by decide)⟩
theorem ff_RX7_15 : sn_Ff RX7 15 7 4 (.array .int) := ⟨RX7, TX7, 5, tyX7, rfl, ug_X7, by decide, kf_RX7_15, tyX7_ok, nmX7, rfl, rfl, tyX7_ok 4 (by decide)⟩
theorem km_RX6_3 : Cond.methodLink RX6 3 objectInit ∈ sn_gw := sn_gwI (lb_0 (lt_16 (lt_16 (lt_16 (lt_16 (lt_16 (lt_16 (lt_12 lt_h)))))))) gw_methodLink
theorem kcl_RX6_9 : Cond.classLink RX6 9 "[[J" ∈ sn_gw := sn_gwI (lb_0 (lt_16 (lt_16 (lt_16 (lt_16 (lt_16 (lt_16 (lt_13 lt_h)))))))) rfl
theorem ff_RX6_11 : sn_Ff RX6 11 6 0 (.array (.array .long)) := ⟨RX6, TX6, 3, tyX6, rfl, ug_X6, by decide, kf_RX6_11, tyX6_ok, nmX6, rfl, rfl, tyX6_ok 0 (by decide)⟩
theorem ff_RX6_16 : sn_Ff RX6 16 6 1 (.array .int) := ⟨RX6, TX6, 3, tyX6, rfl, ug_X6, by decide, kf_RX6_16, tyX6_ok, nmX6, rfl, rfl, tyX6_ok 1 (by decide)⟩
theorem ff_RX6_20 : sn_Ff RX6 20 6 2 (.array .int) := ⟨RX6, TX6, 3, tyX6, rfl, ug_X6, by decide, kf_RX6_20, tyX6_ok, nmX6, rfl, rfl, tyX6_ok 2 (by decide)⟩
theorem km_RX6_23 : Cond.methodLink RX6 23 yJ7_fill_53178 ∈ sn_gw := sn_gwI (lb_0 (lt_16 (lt_16 (lt_16 (lt_16 (lt_16 (lt_16 (lt_15 lt_h)))))))) gw_methodLink
theorem kl_RX6_23 : sn_LS RX6 23 yJ7_fill_53178 cJ7_fill_53178 4 none 2 := ⟨sn_ls4 km_RX6_23 kst_J7_fill_53178 ki_RJ7 kc_J7_fill_53178, kva_4, kvb_4, kpd_29⟩
theorem km_RX8_1 : Cond.methodLink RX8 1 objectInit ∈ sn_gw := sn_gwI (lb_0 (lt_16 (lt_8 lt_h))) gw_methodLink
theorem kcl_RX8_7 : Cond.classLink RX8 7 RX2 ∈ sn_gw := sn_gwI (lb_0 (lt_16 (lt_11 lt_h))) rfl
theorem kis_X2 : Cond.instantiable RX2 6 ∈ sn_gw := sn_gwI (lb_0 (lt_16 (lt_12 lt_h))) rfl
theorem kc_X2_init : Cond.code yX2_init cX2_init 1 none ∈ sn_gw := sn_gwI (lb_0 (lt_16 (lt_15 lt_h))) gw_code
theorem kin_X2_init : Cond.instanceMethod yX2_init ∈ sn_gw := sn_gwI (lb_0 (lt_16 (lt_14 lt_h))) gw_instanceMethod
theorem ff_RX8_10 : sn_Ff RX8 10 8 0 (.object "PepperPolicy$House") := ⟨RX8, TX8, 12, tyX8, rfl, ug_X8, by decide, kf_RX8_10, tyX8_ok, nmX8, rfl, rfl, tyX8_ok 0 (by decide)⟩
theorem ff_RX8_16 : sn_Ff RX8 16 8 1 (.object "PepperPolicy$House") := ⟨RX8, TX8, 12, tyX8, rfl, ug_X8, by decide, kf_RX8_16, tyX8_ok, nmX8, rfl, rfl, tyX8_ok 1 (by decide)⟩
theorem ff_RX8_19 : sn_Ff RX8 19 8 2 (.array (.object "PepperPolicy$House")) := ⟨RX8, TX8, 12, tyX8, rfl, ug_X8, by decide, kf_RX8_19, tyX8_ok, nmX8, rfl, rfl, tyX8_ok 2 (by decide)⟩
theorem ka_boolean : Cond.arrayClass .boolean ∈ sn_gw := sn_gwI (lb_0 (lt_16 (lt_16 (lt_16 (lt_16 (lt_16 (lt_16 (lt_6 lt_h)))))))) rfl
theorem ff_RX8_23 : sn_Ff RX8 23 8 3 (.array .boolean) := ⟨RX8, TX8, 12, tyX8, rfl, ug_X8, by decide, kf_RX8_23, tyX8_ok, nmX8, rfl, rfl, tyX8_ok 3 (by decide)⟩
theorem kcl_RX8_27 : Cond.classLink RX8 27 RX5 ∈ sn_gw := sn_gwI (lb_0 (lt_16 (lt_16 (lt_16 (lt_16 (lt_4 lt_h)))))) rfl
theorem kis_X5 : Cond.instantiable RX5 8 ∈ sn_gw := sn_gwI (lb_0 (lt_16 (lt_16 (lt_16 (lt_16 (lt_5 lt_h)))))) rfl
theorem kc_X5_init : Cond.code yX5_init cX5_init 1 none ∈ sn_gw := sn_gwI (lb_0 (lt_16 (lt_16 (lt_16 (lt_16 (lt_8 lt_h)))))) gw_code
theorem kin_X5_init : Cond.instanceMethod yX5_init ∈ sn_gw := sn_gwI (lb_0 (lt_16 (lt_16 (lt_16 (lt_16 (lt_7 lt_h)))))) gw_instanceMethod
theorem ff_RX8_30 : sn_Ff RX8 30 8 4 (.object "PepperPolicy$Reader") := ⟨RX8, TX8, 12, tyX8, rfl, ug_X8, by decide, kf_RX8_30, tyX8_ok, nmX8, rfl, rfl, tyX8_ok 4 (by decide)⟩
theorem kcl_RX8_34 : Cond.classLink RX8 34 RX6 ∈ sn_gw := sn_gwI (lb_0 (lt_16 (lt_16 (lt_16 (lt_16 (lt_16 (lt_16 (lt_7 lt_h)))))))) rfl
theorem kis_X6 : Cond.instantiable RX6 3 ∈ sn_gw := sn_gwI (lb_0 (lt_16 (lt_16 (lt_16 (lt_16 (lt_16 (lt_16 (lt_8 lt_h)))))))) rfl
theorem kc_X6_init : Cond.code yX6_init cX6_init 1 none ∈ sn_gw := sn_gwI (lb_0 (lt_16 (lt_16 (lt_16 (lt_16 (lt_16 (lt_16 (lt_11 lt_h)))))))) gw_code
theorem kin_X6_init : Cond.instanceMethod yX6_init ∈ sn_gw := sn_gwI (lb_0 (lt_16 (lt_16 (lt_16 (lt_16 (lt_16 (lt_16 (lt_10 lt_h)))))))) gw_instanceMethod
theorem km_RX8_36 : Cond.methodLink RX8 36 yX6_init ∈ sn_gw := sn_gwI (lb_0 (lt_16 (lt_16 (lt_16 (lt_16 (lt_16 (lt_16 (lt_9 lt_h)))))))) gw_methodLink
theorem ff_RX8_37 : sn_Ff RX8 37 8 5 (.object "PepperPolicy$Slots") := ⟨RX8, TX8, 12, tyX8, rfl, ug_X8, by decide, kf_RX8_37, tyX8_ok, nmX8, rfl, rfl, tyX8_ok 5 (by decide)⟩
theorem kcl_RX8_41 : Cond.classLink RX8 41 RX0 ∈ sn_gw := sn_gwI (lb_0 (lt_16 (lt_16 (lt_16 (lt_16 (lt_16 (lt_16 (lt_16 (lt_16 lt_h))))))))) rfl
theorem kis_X0 : Cond.instantiable RX0 14 ∈ sn_gw := sn_gwI (lb_0 (lt_16 (lt_16 (lt_16 (lt_16 (lt_16 (lt_16 (lt_16 (lt_16 (lt_1 lt_h)))))))))) rfl
theorem kc_X0_init : Cond.code yX0_init cX0_init 1 none ∈ sn_gw := sn_gwI (lb_0 (lt_16 (lt_16 (lt_16 (lt_16 (lt_16 (lt_16 (lt_16 (lt_16 (lt_4 lt_h)))))))))) gw_code
theorem kin_X0_init : Cond.instanceMethod yX0_init ∈ sn_gw := sn_gwI (lb_0 (lt_16 (lt_16 (lt_16 (lt_16 (lt_16 (lt_16 (lt_16 (lt_16 (lt_3 lt_h)))))))))) gw_instanceMethod
theorem ff_RX8_44 : sn_Ff RX8 44 8 6 (.object "PepperPolicy$Day") := ⟨RX8, TX8, 12, tyX8, rfl, ug_X8, by decide, kf_RX8_44, tyX8_ok, nmX8, rfl, rfl, tyX8_ok 6 (by decide)⟩
theorem ff_RX8_48 : sn_Ff RX8 48 8 7 (.object "PepperPolicy$Day") := ⟨RX8, TX8, 12, tyX8, rfl, ug_X8, by decide, kf_RX8_48, tyX8_ok, nmX8, rfl, rfl, tyX8_ok 7 (by decide)⟩
theorem kcl_RX8_51 : Cond.classLink RX8 51 RX3 ∈ sn_gw := sn_gwI (lb_0 (lt_16 (lt_16 (lt_16 (lt_16 (lt_16 (lt_16 (lt_16 (lt_16 (lt_16 (lt_16 (lt_16 (lt_16 (lt_6 lt_h)))))))))))))) rfl
theorem kis_X3 : Cond.instantiable RX3 4 ∈ sn_gw := sn_gwI (lb_0 (lt_16 (lt_16 (lt_16 (lt_16 (lt_16 (lt_16 (lt_16 (lt_16 (lt_16 (lt_16 (lt_16 (lt_16 (lt_7 lt_h)))))))))))))) rfl
theorem kc_X3_init : Cond.code yX3_init cX3_init 1 none ∈ sn_gw := sn_gwI (lb_0 (lt_16 (lt_16 (lt_16 (lt_16 (lt_16 (lt_16 (lt_16 (lt_16 (lt_16 (lt_16 (lt_16 (lt_16 (lt_10 lt_h)))))))))))))) gw_code
theorem kin_X3_init : Cond.instanceMethod yX3_init ∈ sn_gw := sn_gwI (lb_0 (lt_16 (lt_16 (lt_16 (lt_16 (lt_16 (lt_16 (lt_16 (lt_16 (lt_16 (lt_16 (lt_16 (lt_16 (lt_9 lt_h)))))))))))))) gw_instanceMethod
theorem ff_RX8_54 : sn_Ff RX8 54 8 8 (.object "PepperPolicy$Ledger") := ⟨RX8, TX8, 12, tyX8, rfl, ug_X8, by decide, kf_RX8_54, tyX8_ok, nmX8, rfl, rfl, tyX8_ok 8 (by decide)⟩
theorem kcl_RX8_58 : Cond.classLink RX8 58 RX1 ∈ sn_gw := sn_gwI (lb_0 (lt_16 (lt_16 (lt_16 (lt_16 (lt_16 (lt_16 (lt_16 (lt_16 (lt_16 (lt_16 (lt_16 (lt_16 (lt_16 (lt_13 lt_h))))))))))))))) rfl
theorem kis_X1 : Cond.instantiable RX1 2 ∈ sn_gw := sn_gwI (lb_0 (lt_16 (lt_16 (lt_16 (lt_16 (lt_16 (lt_16 (lt_16 (lt_16 (lt_16 (lt_16 (lt_16 (lt_16 (lt_16 (lt_14 lt_h))))))))))))))) rfl
theorem kc_X1_init : Cond.code yX1_init cX1_init 1 none ∈ sn_gw := sn_gwI (lb_0 (lt_16 (lt_16 (lt_16 (lt_16 (lt_16 (lt_16 (lt_16 (lt_16 (lt_16 (lt_16 (lt_16 (lt_16 (lt_16 (lt_16 (lt_1 lt_h)))))))))))))))) gw_code
theorem kin_X1_init : Cond.instanceMethod yX1_init ∈ sn_gw := sn_gwI (lb_0 (lt_16 (lt_16 (lt_16 (lt_16 (lt_16 (lt_16 (lt_16 (lt_16 (lt_16 (lt_16 (lt_16 (lt_16 (lt_16 (lt_16 lt_h))))))))))))))) gw_instanceMethod
theorem ff_RX8_61 : sn_Ff RX8 61 8 9 (.object "PepperPolicy$Holding") := ⟨RX8, TX8, 12, tyX8, rfl, ug_X8, by decide, kf_RX8_61, tyX8_ok, nmX8, rfl, rfl, tyX8_ok 9 (by decide)⟩
theorem kcl_RX8_65 : Cond.classLink RX8 65 RX7 ∈ sn_gw := sn_gwI (lb_0 (lt_16 (lt_16 (lt_16 (lt_16 (lt_16 (lt_16 (lt_16 (lt_16 (lt_16 (lt_16 (lt_16 (lt_16 (lt_16 (lt_16 (lt_10 lt_h)))))))))))))))) rfl
theorem kis_X7 : Cond.instantiable RX7 5 ∈ sn_gw := sn_gwI (lb_0 (lt_16 (lt_16 (lt_16 (lt_16 (lt_16 (lt_16 (lt_16 (lt_16 (lt_16 (lt_16 (lt_16 (lt_16 (lt_16 (lt_16 (lt_11 lt_h)))))))))))))))) rfl
theorem kc_X7_init : Cond.code yX7_init cX7_init 1 none ∈ sn_gw := sn_gwI (lb_0 (lt_16 (lt_16 (lt_16 (lt_16 (lt_16 (lt_16 (lt_16 (lt_16 (lt_16 (lt_16 (lt_16 (lt_16 (lt_16 (lt_16 (lt_14 lt_h)))))))))))))))) gw_code
theorem kin_X7_init : Cond.instanceMethod yX7_init ∈ sn_gw := sn_gwI (lb_0 (lt_16 (lt_16 (lt_16 (lt_16 (lt_16 (lt_16 (lt_16 (lt_16 (lt_16 (lt_16 (lt_16 (lt_16 (lt_16 (lt_16 (lt_13 lt_h)))))))))))))))) gw_instanceMethod
theorem ff_RX8_68 : sn_Ff RX8 68 8 10 (.object "PepperPolicy$Suspects") := ⟨RX8, TX8, 12, tyX8, rfl, ug_X8, by decide, kf_RX8_68, tyX8_ok, nmX8, rfl, rfl, tyX8_ok 10 (by decide)⟩
theorem kcl_RX8_72 : Cond.classLink RX8 72 RX4 ∈ sn_gw := sn_gwI (lb_1 (lt_16 (lt_4 lt_h))) rfl
theorem kis_X4 : Cond.instantiable RX4 5 ∈ sn_gw := sn_gwI (lb_1 (lt_16 (lt_5 lt_h))) rfl
theorem km_RX4_3 : Cond.methodLink RX4 3 objectInit ∈ sn_gw := sn_gwI (lb_1 (lt_16 (lt_9 lt_h))) gw_methodLink
theorem ff_RX4_9 : sn_Ff RX4 9 4 2 (.array .long) := ⟨RX4, TX4, 5, tyX4, rfl, ug_X4, by decide, kf_RX4_9, tyX4_ok, nmX4, rfl, rfl, tyX4_ok 2 (by decide)⟩
theorem kcl_RX4_15 : Cond.classLink RX4 15 RX0 ∈ sn_gw := sn_gwI (lb_1 (lt_16 (lt_10 lt_h))) rfl
theorem ff_RX4_18 : sn_Ff RX4 18 4 3 (.object "PepperPolicy$Day") := ⟨RX4, TX4, 5, tyX4, rfl, ug_X4, by decide, kf_RX4_18, tyX4_ok, nmX4, rfl, rfl, tyX4_ok 3 (by decide)⟩
theorem kcl_RX4_22 : Cond.classLink RX4 22 RX3 ∈ sn_gw := sn_gwI (lb_1 (lt_16 (lt_12 lt_h))) rfl
theorem ff_RX4_25 : sn_Ff RX4 25 4 4 (.object "PepperPolicy$Ledger") := ⟨RX4, TX4, 5, tyX4, rfl, ug_X4, by decide, kf_RX4_25, tyX4_ok, nmX4, rfl, rfl, tyX4_ok 4 (by decide)⟩
theorem kc_X4_init : Cond.code yX4_init cX4_init 1 none ∈ sn_gw := sn_gwI (lb_1 (lt_16 (lt_8 lt_h))) gw_code
theorem kin_X4_init : Cond.instanceMethod yX4_init ∈ sn_gw := sn_gwI (lb_1 (lt_16 (lt_7 lt_h))) gw_instanceMethod
theorem ff_RX8_75 : sn_Ff RX8 75 8 11 (.object "PepperPolicy$Puffs") := ⟨RX8, TX8, 12, tyX8, rfl, ug_X8, by decide, kf_RX8_75, tyX8_ok, nmX8, rfl, rfl, tyX8_ok 11 (by decide)⟩
theorem km_RX9_3 : Cond.methodLink RX9 3 objectInit ∈ sn_gw := sn_gwI (lb_4 (lt_16 (lt_16 (lt_16 (lt_16 (lt_16 (lt_16 (lt_16 (lt_6 lt_h))))))))) gw_methodLink
theorem ff_RX9_9 : sn_Ff RX9 9 9 1 (.array .int) := ⟨RX9, TX9, 46, tyX9, rfl, ug_X9, by decide, kf_RX9_9, tyX9_ok, nmX9, rfl, rfl, tyX9_ok 1 (by decide)⟩
theorem ff_RX9_13 : sn_Ff RX9 13 9 2 (.array .int) := ⟨RX9, TX9, 46, tyX9, rfl, ug_X9, by decide, kf_RX9_13, tyX9_ok, nmX9, rfl, rfl, tyX9_ok 2 (by decide)⟩
theorem ff_RX9_16 : sn_Ff RX9 16 9 3 (.array .boolean) := ⟨RX9, TX9, 46, tyX9, rfl, ug_X9, by decide, kf_RX9_16, tyX9_ok, nmX9, rfl, rfl, tyX9_ok 3 (by decide)⟩
theorem ka_byte : Cond.arrayClass .byte ∈ sn_gw := sn_gwI (lb_2 (lt_16 (lt_16 (lt_13 lt_h)))) rfl
theorem ff_RX9_20 : sn_Ff RX9 20 9 4 (.array .byte) := ⟨RX9, TX9, 46, tyX9, rfl, ug_X9, by decide, kf_RX9_20, tyX9_ok, nmX9, rfl, rfl, tyX9_ok 4 (by decide)⟩
theorem ff_RX9_24 : sn_Ff RX9 24 9 6 (.array .int) := ⟨RX9, TX9, 46, tyX9, rfl, ug_X9, by decide, kf_RX9_24, tyX9_ok, nmX9, rfl, rfl, tyX9_ok 6 (by decide)⟩
theorem ff_RX9_31 : sn_Ff RX9 31 9 14 (.array .int) := ⟨RX9, TX9, 46, tyX9, rfl, ug_X9, by decide, kf_RX9_31, tyX9_ok, nmX9, rfl, rfl, tyX9_ok 14 (by decide)⟩
theorem ff_RX9_34 : sn_Ff RX9 34 9 15 (.array .int) := ⟨RX9, TX9, 46, tyX9, rfl, ug_X9, by decide, kf_RX9_34, tyX9_ok, nmX9, rfl, rfl, tyX9_ok 15 (by decide)⟩
theorem ff_RX9_37 : sn_Ff RX9 37 9 16 (.array .int) := ⟨RX9, TX9, 46, tyX9, rfl, ug_X9, by decide, kf_RX9_37, tyX9_ok, nmX9, rfl, rfl, tyX9_ok 16 (by decide)⟩
theorem ff_RX9_40 : sn_Ff RX9 40 9 17 (.array .int) := ⟨RX9, TX9, 46, tyX9, rfl, ug_X9, by decide, kf_RX9_40, tyX9_ok, nmX9, rfl, rfl, tyX9_ok 17 (by decide)⟩
theorem ff_RX9_43 : sn_Ff RX9 43 9 23 (.array .int) := ⟨RX9, TX9, 46, tyX9, rfl, ug_X9, by decide, kf_RX9_43, tyX9_ok, nmX9, rfl, rfl, tyX9_ok 23 (by decide)⟩
theorem ff_RX9_46 : sn_Ff RX9 46 9 24 (.array .int) := ⟨RX9, TX9, 46, tyX9, rfl, ug_X9, by decide, kf_RX9_46, tyX9_ok, nmX9, rfl, rfl, tyX9_ok 24 (by decide)⟩
theorem ff_RX9_49 : sn_Ff RX9 49 9 25 (.array .int) := ⟨RX9, TX9, 46, tyX9, rfl, ug_X9, by decide, kf_RX9_49, tyX9_ok, nmX9, rfl, rfl, tyX9_ok 25 (by decide)⟩
theorem ff_RX9_52 : sn_Ff RX9 52 9 26 (.array .int) := ⟨RX9, TX9, 46, tyX9, rfl, ug_X9, by decide, kf_RX9_52, tyX9_ok, nmX9, rfl, rfl, tyX9_ok 26 (by decide)⟩
theorem ff_RX9_55 : sn_Ff RX9 55 9 27 (.array .int) := ⟨RX9, TX9, 46, tyX9, rfl, ug_X9, by decide, kf_RX9_55, tyX9_ok, nmX9, rfl, rfl, tyX9_ok 27 (by decide)⟩
theorem ff_RX9_58 : sn_Ff RX9 58 9 28 (.array .int) := ⟨RX9, TX9, 46, tyX9, rfl, ug_X9, by decide, kf_RX9_58, tyX9_ok, nmX9, rfl, rfl, tyX9_ok 28 (by decide)⟩
theorem ff_RX9_61 : sn_Ff RX9 61 9 29 (.array .int) := ⟨RX9, TX9, 46, tyX9, rfl, ug_X9, by decide, kf_RX9_61, tyX9_ok, nmX9, rfl, rfl, tyX9_ok 29 (by decide)⟩
theorem ff_RX9_64 : sn_Ff RX9 64 9 32 (.array .int) := ⟨RX9, TX9, 46, tyX9, rfl, ug_X9, by decide, kf_RX9_64, tyX9_ok, nmX9, rfl, rfl, tyX9_ok 32 (by decide)⟩
theorem ff_RX9_67 : sn_Ff RX9 67 9 33 (.array .int) := ⟨RX9, TX9, 46, tyX9, rfl, ug_X9, by decide, kf_RX9_67, tyX9_ok, nmX9, rfl, rfl, tyX9_ok 33 (by decide)⟩
theorem ff_RX9_70 : sn_Ff RX9 70 9 34 (.array .int) := ⟨RX9, TX9, 46, tyX9, rfl, ug_X9, by decide, kf_RX9_70, tyX9_ok, nmX9, rfl, rfl, tyX9_ok 34 (by decide)⟩
theorem ff_RX9_73 : sn_Ff RX9 73 9 35 (.array .int) := ⟨RX9, TX9, 46, tyX9, rfl, ug_X9, by decide, kf_RX9_73, tyX9_ok, nmX9, rfl, rfl, tyX9_ok 35 (by decide)⟩
theorem ff_RX9_76 : sn_Ff RX9 76 9 42 (.array .int) := ⟨RX9, TX9, 46, tyX9, rfl, ug_X9, by decide, kf_RX9_76, tyX9_ok, nmX9, rfl, rfl, tyX9_ok 42 (by decide)⟩
theorem ff_RX9_79 : sn_Ff RX9 79 9 43 (.array .int) := ⟨RX9, TX9, 46, tyX9, rfl, ug_X9, by decide, kf_RX9_79, tyX9_ok, nmX9, rfl, rfl, tyX9_ok 43 (by decide)⟩
theorem ff_RX9_82 : sn_Ff RX9 82 9 44 (.array .long) := ⟨RX9, TX9, 46, tyX9, rfl, ug_X9, by decide, kf_RX9_82, tyX9_ok, nmX9, rfl, rfl, tyX9_ok 44 (by decide)⟩
theorem ff_RX9_86 : sn_Ff RX9 86 9 45 (.array .long) := ⟨RX9, TX9, 46, tyX9, rfl, ug_X9, by decide, kf_RX9_86, tyX9_ok, nmX9, rfl, rfl, tyX9_ok 45 (by decide)⟩
theorem kc_X8_feed : Cond.code yX8_feed cX8_feed 6 (some .int) ∈ sn_gw := sn_gwI (lb_1 (lt_16 (lt_16 (lt_16 (lt_16 (lt_16 (lt_8 lt_h))))))) gw_code
theorem km_RL_13 : Cond.methodLink RL 13 yX8_feed ∈ sn_gw := sn_gwI (lb_1 (lt_16 (lt_16 (lt_16 (lt_16 (lt_16 (lt_5 lt_h))))))) gw_methodLink
theorem kin_X8_feed : Cond.instanceMethod yX8_feed ∈ sn_gw := sn_gwI (lb_1 (lt_16 (lt_16 (lt_16 (lt_16 (lt_16 (lt_6 lt_h))))))) gw_instanceMethod
theorem ks_X8_feed : Cond.selects RX8 yX8_feed yX8_feed ∈ sn_gw := sn_gwI (lb_1 (lt_16 (lt_16 (lt_16 (lt_16 (lt_16 (lt_7 lt_h))))))) gw_selects
theorem kl_RL_13 : sn_LV RL 13 yX8_feed cX8_feed 6 (some .int) 5 := ⟨sn_lv5 km_RL_13 kin_X8_feed ks_X8_feed ki_RX8 kc_X8_feed, kva_6, kvb_6, kpd_23⟩
theorem kc_X9_feed : Cond.code yX9_feed cX9_feed 7 (some .int) ∈ sn_gw := sn_gwI (lb_5 (lt_16 (lt_16 lt_h))) gw_code
theorem km_RL_17 : Cond.methodLink RL 17 yX9_feed ∈ sn_gw := sn_gwI (lb_5 (lt_16 (lt_13 lt_h))) gw_methodLink
theorem kin_X9_feed : Cond.instanceMethod yX9_feed ∈ sn_gw := sn_gwI (lb_5 (lt_16 (lt_14 lt_h))) gw_instanceMethod
theorem ks_X9_feed : Cond.selects RX9 yX9_feed yX9_feed ∈ sn_gw := sn_gwI (lb_5 (lt_16 (lt_15 lt_h))) gw_selects
theorem kl_RL_17 : sn_LV RL 17 yX9_feed cX9_feed 7 (some .int) 5 := ⟨sn_lv5 km_RL_17 kin_X9_feed ks_X9_feed ki_RX9 kc_X9_feed, kva_3, kvb_3, kpd_23⟩
theorem kc_X8_end : Cond.code yX8_end cX8_end 2 (some .int) ∈ sn_gw := sn_gwI (lb_1 (lt_16 (lt_16 (lt_16 (lt_16 (lt_16 (lt_16 lt_h))))))) gw_code
theorem km_RL_18 : Cond.methodLink RL 18 yX8_end ∈ sn_gw := sn_gwI (lb_1 (lt_16 (lt_16 (lt_16 (lt_16 (lt_16 (lt_13 lt_h))))))) gw_methodLink
theorem kin_X8_end : Cond.instanceMethod yX8_end ∈ sn_gw := sn_gwI (lb_1 (lt_16 (lt_16 (lt_16 (lt_16 (lt_16 (lt_14 lt_h))))))) gw_instanceMethod
theorem ks_X8_end : Cond.selects RX8 yX8_end yX8_end ∈ sn_gw := sn_gwI (lb_1 (lt_16 (lt_16 (lt_16 (lt_16 (lt_16 (lt_15 lt_h))))))) gw_selects
theorem kl_RL_18 : sn_LV RL 18 yX8_end cX8_end 2 (some .int) 1 := ⟨sn_lv5 km_RL_18 kin_X8_end ks_X8_end ki_RX8 kc_X8_end, kva_6, kvb_6, kpd_6⟩
theorem kc_X9_end : Cond.code yX9_end cX9_end 2 (some .int) ∈ sn_gw := sn_gwI (lb_5 (lt_16 (lt_16 (lt_4 lt_h)))) gw_code
theorem km_RL_22 : Cond.methodLink RL 22 yX9_end ∈ sn_gw := sn_gwI (lb_5 (lt_16 (lt_16 (lt_1 lt_h)))) gw_methodLink
theorem kin_X9_end : Cond.instanceMethod yX9_end ∈ sn_gw := sn_gwI (lb_5 (lt_16 (lt_16 (lt_2 lt_h)))) gw_instanceMethod
theorem ks_X9_end : Cond.selects RX9 yX9_end yX9_end ∈ sn_gw := sn_gwI (lb_5 (lt_16 (lt_16 (lt_3 lt_h)))) gw_selects
theorem kl_RL_22 : sn_LV RL 22 yX9_end cX9_end 2 (some .int) 1 := ⟨sn_lv5 km_RL_22 kin_X9_end ks_X9_end ki_RX9 kc_X9_end, kva_3, kvb_3, kpd_6⟩
theorem kc_X8_house : Cond.code yX8_house cX8_house 1 (some .int) ∈ sn_gw := sn_gwI (lb_1 (lt_16 (lt_16 (lt_16 (lt_16 (lt_16 (lt_16 (lt_4 lt_h)))))))) gw_code
theorem km_RL_23 : Cond.methodLink RL 23 yX8_house ∈ sn_gw := sn_gwI (lb_1 (lt_16 (lt_16 (lt_16 (lt_16 (lt_16 (lt_16 (lt_1 lt_h)))))))) gw_methodLink
theorem kin_X8_house : Cond.instanceMethod yX8_house ∈ sn_gw := sn_gwI (lb_1 (lt_16 (lt_16 (lt_16 (lt_16 (lt_16 (lt_16 (lt_2 lt_h)))))))) gw_instanceMethod
theorem ks_X8_house : Cond.selects RX8 yX8_house yX8_house ∈ sn_gw := sn_gwI (lb_1 (lt_16 (lt_16 (lt_16 (lt_16 (lt_16 (lt_16 (lt_3 lt_h)))))))) gw_selects
theorem kl_RL_23 : sn_LV RL 23 yX8_house cX8_house 1 (some .int) 0 := ⟨sn_lv5 km_RL_23 kin_X8_house ks_X8_house ki_RX8 kc_X8_house, kva_6, kvb_6, kpd_7⟩
theorem kc_X9_house : Cond.code yX9_house cX9_house 2 (some .int) ∈ sn_gw := sn_gwI (lb_5 (lt_16 (lt_16 (lt_12 lt_h)))) gw_code
theorem km_RL_27 : Cond.methodLink RL 27 yX9_house ∈ sn_gw := sn_gwI (lb_5 (lt_16 (lt_16 (lt_9 lt_h)))) gw_methodLink
theorem kin_X9_house : Cond.instanceMethod yX9_house ∈ sn_gw := sn_gwI (lb_5 (lt_16 (lt_16 (lt_10 lt_h)))) gw_instanceMethod
theorem ks_X9_house : Cond.selects RX9 yX9_house yX9_house ∈ sn_gw := sn_gwI (lb_5 (lt_16 (lt_16 (lt_11 lt_h)))) gw_selects
theorem kl_RL_27 : sn_LV RL 27 yX9_house cX9_house 2 (some .int) 0 := ⟨sn_lv5 km_RL_27 kin_X9_house ks_X9_house ki_RX9 kc_X9_house, kva_3, kvb_3, kpd_7⟩
theorem kc_X8_fault : Cond.code yX8_fault cX8_fault 2 (some .int) ∈ sn_gw := sn_gwI (lb_2 (lt_16 (lt_16 (lt_16 (lt_1 lt_h))))) gw_code
theorem km_RL_28 : Cond.methodLink RL 28 yX8_fault ∈ sn_gw := sn_gwI (lb_2 (lt_16 (lt_16 (lt_14 lt_h)))) gw_methodLink
theorem kin_X8_fault : Cond.instanceMethod yX8_fault ∈ sn_gw := sn_gwI (lb_2 (lt_16 (lt_16 (lt_15 lt_h)))) gw_instanceMethod
theorem ks_X8_fault : Cond.selects RX8 yX8_fault yX8_fault ∈ sn_gw := sn_gwI (lb_2 (lt_16 (lt_16 (lt_16 lt_h)))) gw_selects
theorem kl_RL_28 : sn_LV RL 28 yX8_fault cX8_fault 2 (some .int) 1 := ⟨sn_lv5 km_RL_28 kin_X8_fault ks_X8_fault ki_RX8 kc_X8_fault, kva_6, kvb_6, kpd_6⟩
theorem kc_X9_fault : Cond.code yX9_fault cX9_fault 2 (some .int) ∈ sn_gw := sn_gwI (lb_5 (lt_16 (lt_16 (lt_8 lt_h)))) gw_code
theorem km_RL_31 : Cond.methodLink RL 31 yX9_fault ∈ sn_gw := sn_gwI (lb_5 (lt_16 (lt_16 (lt_5 lt_h)))) gw_methodLink
theorem kin_X9_fault : Cond.instanceMethod yX9_fault ∈ sn_gw := sn_gwI (lb_5 (lt_16 (lt_16 (lt_6 lt_h)))) gw_instanceMethod
theorem ks_X9_fault : Cond.selects RX9 yX9_fault yX9_fault ∈ sn_gw := sn_gwI (lb_5 (lt_16 (lt_16 (lt_7 lt_h)))) gw_selects
theorem kl_RL_31 : sn_LV RL 31 yX9_fault cX9_fault 2 (some .int) 1 := ⟨sn_lv5 km_RL_31 kin_X9_fault ks_X9_fault ki_RX9 kc_X9_fault, kva_3, kvb_3, kpd_6⟩
theorem kc_X8_nose : Cond.code yX8_nose cX8_nose 3 (some .int) ∈ sn_gw := sn_gwI (lb_2 (lt_16 (lt_16 (lt_16 (lt_5 lt_h))))) gw_code
theorem km_RL_32 : Cond.methodLink RL 32 yX8_nose ∈ sn_gw := sn_gwI (lb_2 (lt_16 (lt_16 (lt_16 (lt_2 lt_h))))) gw_methodLink
theorem kin_X8_nose : Cond.instanceMethod yX8_nose ∈ sn_gw := sn_gwI (lb_2 (lt_16 (lt_16 (lt_16 (lt_3 lt_h))))) gw_instanceMethod
theorem ks_X8_nose : Cond.selects RX8 yX8_nose yX8_nose ∈ sn_gw := sn_gwI (lb_2 (lt_16 (lt_16 (lt_16 (lt_4 lt_h))))) gw_selects
theorem kl_RL_32 : sn_LV RL 32 yX8_nose cX8_nose 3 (some .int) 2 := ⟨sn_lv5 km_RL_32 kin_X8_nose ks_X8_nose ki_RX8 kc_X8_nose, kva_6, kvb_6, kpd_13⟩
theorem kc_X9_nose : Cond.code yX9_nose cX9_nose 3 (some .int) ∈ sn_gw := sn_gwI (lb_5 (lt_16 (lt_16 (lt_16 (lt_16 (lt_16 (lt_16 (lt_16 (lt_16 lt_h))))))))) gw_code
theorem km_RL_36 : Cond.methodLink RL 36 yX9_nose ∈ sn_gw := sn_gwI (lb_5 (lt_16 (lt_16 (lt_16 (lt_16 (lt_16 (lt_16 (lt_16 (lt_13 lt_h))))))))) gw_methodLink
theorem kin_X9_nose : Cond.instanceMethod yX9_nose ∈ sn_gw := sn_gwI (lb_5 (lt_16 (lt_16 (lt_16 (lt_16 (lt_16 (lt_16 (lt_16 (lt_14 lt_h))))))))) gw_instanceMethod
theorem ks_X9_nose : Cond.selects RX9 yX9_nose yX9_nose ∈ sn_gw := sn_gwI (lb_5 (lt_16 (lt_16 (lt_16 (lt_16 (lt_16 (lt_16 (lt_16 (lt_15 lt_h))))))))) gw_selects
theorem kl_RL_36 : sn_LV RL 36 yX9_nose cX9_nose 3 (some .int) 2 := ⟨sn_lv5 km_RL_36 kin_X9_nose ks_X9_nose ki_RX9 kc_X9_nose, kva_3, kvb_3, kpd_13⟩
theorem kc_X8_policy : Cond.code yX8_policy cX8_policy 3 (some .int) ∈ sn_gw := sn_gwI (lb_2 (lt_16 (lt_16 (lt_16 (lt_13 lt_h))))) gw_code
theorem km_RL_37 : Cond.methodLink RL 37 yX8_policy ∈ sn_gw := sn_gwI (lb_2 (lt_16 (lt_16 (lt_16 (lt_10 lt_h))))) gw_methodLink
theorem kin_X8_policy : Cond.instanceMethod yX8_policy ∈ sn_gw := sn_gwI (lb_2 (lt_16 (lt_16 (lt_16 (lt_11 lt_h))))) gw_instanceMethod
theorem ks_X8_policy : Cond.selects RX8 yX8_policy yX8_policy ∈ sn_gw := sn_gwI (lb_2 (lt_16 (lt_16 (lt_16 (lt_12 lt_h))))) gw_selects
theorem kl_RL_37 : sn_LV RL 37 yX8_policy cX8_policy 3 (some .int) 2 := ⟨sn_lv5 km_RL_37 kin_X8_policy ks_X8_policy ki_RX8 kc_X8_policy, kva_6, kvb_6, kpd_13⟩
theorem kc_X9_policy : Cond.code yX9_policy cX9_policy 3 (some .int) ∈ sn_gw := sn_gwI (lb_5 (lt_16 (lt_16 (lt_16 (lt_16 (lt_16 (lt_16 (lt_16 (lt_16 (lt_8 lt_h)))))))))) gw_code
theorem km_RL_40 : Cond.methodLink RL 40 yX9_policy ∈ sn_gw := sn_gwI (lb_5 (lt_16 (lt_16 (lt_16 (lt_16 (lt_16 (lt_16 (lt_16 (lt_16 (lt_5 lt_h)))))))))) gw_methodLink
theorem kin_X9_policy : Cond.instanceMethod yX9_policy ∈ sn_gw := sn_gwI (lb_5 (lt_16 (lt_16 (lt_16 (lt_16 (lt_16 (lt_16 (lt_16 (lt_16 (lt_6 lt_h)))))))))) gw_instanceMethod
theorem ks_X9_policy : Cond.selects RX9 yX9_policy yX9_policy ∈ sn_gw := sn_gwI (lb_5 (lt_16 (lt_16 (lt_16 (lt_16 (lt_16 (lt_16 (lt_16 (lt_16 (lt_7 lt_h)))))))))) gw_selects
theorem kl_RL_40 : sn_LV RL 40 yX9_policy cX9_policy 3 (some .int) 2 := ⟨sn_lv5 km_RL_40 kin_X9_policy ks_X9_policy ki_RX9 kc_X9_policy, kva_3, kvb_3, kpd_13⟩
theorem kc_X8_beside : Cond.code yX8_beside cX8_beside 2 (some .int) ∈ sn_gw := sn_gwI (lb_2 (lt_16 (lt_16 (lt_16 (lt_16 (lt_9 lt_h)))))) gw_code
theorem km_RL_41 : Cond.methodLink RL 41 yX8_beside ∈ sn_gw := sn_gwI (lb_2 (lt_16 (lt_16 (lt_16 (lt_16 (lt_6 lt_h)))))) gw_methodLink
theorem kin_X8_beside : Cond.instanceMethod yX8_beside ∈ sn_gw := sn_gwI (lb_2 (lt_16 (lt_16 (lt_16 (lt_16 (lt_7 lt_h)))))) gw_instanceMethod
theorem ks_X8_beside : Cond.selects RX8 yX8_beside yX8_beside ∈ sn_gw := sn_gwI (lb_2 (lt_16 (lt_16 (lt_16 (lt_16 (lt_8 lt_h)))))) gw_selects
theorem kl_RL_41 : sn_LV RL 41 yX8_beside cX8_beside 2 (some .int) 1 := ⟨sn_lv5 km_RL_41 kin_X8_beside ks_X8_beside ki_RX8 kc_X8_beside, kva_6, kvb_6, kpd_6⟩
theorem kc_X9_beside : Cond.code yX9_beside cX9_beside 4 (some .int) ∈ sn_gw := sn_gwI (lb_5 (lt_16 (lt_16 (lt_16 (lt_16 (lt_16 (lt_16 (lt_16 (lt_16 (lt_16 (lt_5 lt_h))))))))))) gw_code
theorem km_RL_44 : Cond.methodLink RL 44 yX9_beside ∈ sn_gw := sn_gwI (lb_5 (lt_16 (lt_16 (lt_16 (lt_16 (lt_16 (lt_16 (lt_16 (lt_16 (lt_16 (lt_2 lt_h))))))))))) gw_methodLink
theorem kin_X9_beside : Cond.instanceMethod yX9_beside ∈ sn_gw := sn_gwI (lb_5 (lt_16 (lt_16 (lt_16 (lt_16 (lt_16 (lt_16 (lt_16 (lt_16 (lt_16 (lt_3 lt_h))))))))))) gw_instanceMethod
theorem ks_X9_beside : Cond.selects RX9 yX9_beside yX9_beside ∈ sn_gw := sn_gwI (lb_5 (lt_16 (lt_16 (lt_16 (lt_16 (lt_16 (lt_16 (lt_16 (lt_16 (lt_16 (lt_4 lt_h))))))))))) gw_selects
theorem kl_RL_44 : sn_LV RL 44 yX9_beside cX9_beside 4 (some .int) 1 := ⟨sn_lv5 km_RL_44 kin_X9_beside ks_X9_beside ki_RX9 kc_X9_beside, kva_3, kvb_3, kpd_6⟩
theorem kc_X8_dust : Cond.code yX8_dust cX8_dust 2 (some .int) ∈ sn_gw := sn_gwI (lb_2 (lt_16 (lt_16 (lt_16 (lt_16 (lt_16 (lt_1 lt_h))))))) gw_code
theorem km_RL_45 : Cond.methodLink RL 45 yX8_dust ∈ sn_gw := sn_gwI (lb_2 (lt_16 (lt_16 (lt_16 (lt_16 (lt_14 lt_h)))))) gw_methodLink
theorem kin_X8_dust : Cond.instanceMethod yX8_dust ∈ sn_gw := sn_gwI (lb_2 (lt_16 (lt_16 (lt_16 (lt_16 (lt_15 lt_h)))))) gw_instanceMethod
theorem ks_X8_dust : Cond.selects RX8 yX8_dust yX8_dust ∈ sn_gw := sn_gwI (lb_2 (lt_16 (lt_16 (lt_16 (lt_16 (lt_16 lt_h)))))) gw_selects
theorem kl_RL_45 : sn_LV RL 45 yX8_dust cX8_dust 2 (some .int) 1 := ⟨sn_lv5 km_RL_45 kin_X8_dust ks_X8_dust ki_RX8 kc_X8_dust, kva_6, kvb_6, kpd_6⟩
theorem kc_X9_dust : Cond.code yX9_dust cX9_dust 2 (some .int) ∈ sn_gw := sn_gwI (lb_5 (lt_16 (lt_16 (lt_16 (lt_16 (lt_16 (lt_16 (lt_16 (lt_16 (lt_16 (lt_16 (lt_8 lt_h)))))))))))) gw_code
theorem km_RL_48 : Cond.methodLink RL 48 yX9_dust ∈ sn_gw := sn_gwI (lb_5 (lt_16 (lt_16 (lt_16 (lt_16 (lt_16 (lt_16 (lt_16 (lt_16 (lt_16 (lt_16 (lt_5 lt_h)))))))))))) gw_methodLink
theorem kin_X9_dust : Cond.instanceMethod yX9_dust ∈ sn_gw := sn_gwI (lb_5 (lt_16 (lt_16 (lt_16 (lt_16 (lt_16 (lt_16 (lt_16 (lt_16 (lt_16 (lt_16 (lt_6 lt_h)))))))))))) gw_instanceMethod
theorem ks_X9_dust : Cond.selects RX9 yX9_dust yX9_dust ∈ sn_gw := sn_gwI (lb_5 (lt_16 (lt_16 (lt_16 (lt_16 (lt_16 (lt_16 (lt_16 (lt_16 (lt_16 (lt_16 (lt_7 lt_h)))))))))))) gw_selects
theorem kl_RL_48 : sn_LV RL 48 yX9_dust cX9_dust 2 (some .int) 1 := ⟨sn_lv5 km_RL_48 kin_X9_dust ks_X9_dust ki_RX9 kc_X9_dust, kva_3, kvb_3, kpd_6⟩
theorem kc_X8_sneezes : Cond.code yX8_sneezes cX8_sneezes 2 (some .int) ∈ sn_gw := sn_gwI (lb_2 (lt_16 (lt_16 (lt_16 (lt_16 (lt_16 (lt_9 lt_h))))))) gw_code
theorem km_RL_49 : Cond.methodLink RL 49 yX8_sneezes ∈ sn_gw := sn_gwI (lb_2 (lt_16 (lt_16 (lt_16 (lt_16 (lt_16 (lt_6 lt_h))))))) gw_methodLink
theorem kin_X8_sneezes : Cond.instanceMethod yX8_sneezes ∈ sn_gw := sn_gwI (lb_2 (lt_16 (lt_16 (lt_16 (lt_16 (lt_16 (lt_7 lt_h))))))) gw_instanceMethod
theorem ks_X8_sneezes : Cond.selects RX8 yX8_sneezes yX8_sneezes ∈ sn_gw := sn_gwI (lb_2 (lt_16 (lt_16 (lt_16 (lt_16 (lt_16 (lt_8 lt_h))))))) gw_selects
theorem kl_RL_49 : sn_LV RL 49 yX8_sneezes cX8_sneezes 2 (some .int) 1 := ⟨sn_lv5 km_RL_49 kin_X8_sneezes ks_X8_sneezes ki_RX8 kc_X8_sneezes, kva_6, kvb_6, kpd_6⟩
theorem kc_X9_sneezes : Cond.code yX9_sneezes cX9_sneezes 2 (some .int) ∈ sn_gw := sn_gwI (lb_5 (lt_16 (lt_16 (lt_16 (lt_16 (lt_16 (lt_16 (lt_16 (lt_16 (lt_16 (lt_16 (lt_16 (lt_16 (lt_4 lt_h)))))))))))))) gw_code
theorem km_RL_52 : Cond.methodLink RL 52 yX9_sneezes ∈ sn_gw := sn_gwI (lb_5 (lt_16 (lt_16 (lt_16 (lt_16 (lt_16 (lt_16 (lt_16 (lt_16 (lt_16 (lt_16 (lt_16 (lt_16 (lt_1 lt_h)))))))))))))) gw_methodLink
theorem kin_X9_sneezes : Cond.instanceMethod yX9_sneezes ∈ sn_gw := sn_gwI (lb_5 (lt_16 (lt_16 (lt_16 (lt_16 (lt_16 (lt_16 (lt_16 (lt_16 (lt_16 (lt_16 (lt_16 (lt_16 (lt_2 lt_h)))))))))))))) gw_instanceMethod
theorem ks_X9_sneezes : Cond.selects RX9 yX9_sneezes yX9_sneezes ∈ sn_gw := sn_gwI (lb_5 (lt_16 (lt_16 (lt_16 (lt_16 (lt_16 (lt_16 (lt_16 (lt_16 (lt_16 (lt_16 (lt_16 (lt_16 (lt_3 lt_h)))))))))))))) gw_selects
theorem kl_RL_52 : sn_LV RL 52 yX9_sneezes cX9_sneezes 2 (some .int) 1 := ⟨sn_lv5 km_RL_52 kin_X9_sneezes ks_X9_sneezes ki_RX9 kc_X9_sneezes, kva_3, kvb_3, kpd_6⟩
theorem kc_X8_first : Cond.code yX8_first cX8_first 2 (some .int) ∈ sn_gw := sn_gwI (lb_2 (lt_16 (lt_16 (lt_16 (lt_16 (lt_16 (lt_13 lt_h))))))) gw_code
theorem km_RL_53 : Cond.methodLink RL 53 yX8_first ∈ sn_gw := sn_gwI (lb_2 (lt_16 (lt_16 (lt_16 (lt_16 (lt_16 (lt_10 lt_h))))))) gw_methodLink
theorem kin_X8_first : Cond.instanceMethod yX8_first ∈ sn_gw := sn_gwI (lb_2 (lt_16 (lt_16 (lt_16 (lt_16 (lt_16 (lt_11 lt_h))))))) gw_instanceMethod
theorem ks_X8_first : Cond.selects RX8 yX8_first yX8_first ∈ sn_gw := sn_gwI (lb_2 (lt_16 (lt_16 (lt_16 (lt_16 (lt_16 (lt_12 lt_h))))))) gw_selects
theorem kl_RL_53 : sn_LV RL 53 yX8_first cX8_first 2 (some .int) 1 := ⟨sn_lv5 km_RL_53 kin_X8_first ks_X8_first ki_RX8 kc_X8_first, kva_6, kvb_6, kpd_6⟩
theorem kc_X9_first : Cond.code yX9_first cX9_first 2 (some .int) ∈ sn_gw := sn_gwI (lb_5 (lt_16 (lt_16 (lt_16 (lt_16 (lt_16 (lt_16 (lt_16 (lt_16 (lt_16 (lt_16 (lt_16 (lt_16 (lt_12 lt_h)))))))))))))) gw_code
theorem km_RL_56 : Cond.methodLink RL 56 yX9_first ∈ sn_gw := sn_gwI (lb_5 (lt_16 (lt_16 (lt_16 (lt_16 (lt_16 (lt_16 (lt_16 (lt_16 (lt_16 (lt_16 (lt_16 (lt_16 (lt_9 lt_h)))))))))))))) gw_methodLink
theorem kin_X9_first : Cond.instanceMethod yX9_first ∈ sn_gw := sn_gwI (lb_5 (lt_16 (lt_16 (lt_16 (lt_16 (lt_16 (lt_16 (lt_16 (lt_16 (lt_16 (lt_16 (lt_16 (lt_16 (lt_10 lt_h)))))))))))))) gw_instanceMethod
theorem ks_X9_first : Cond.selects RX9 yX9_first yX9_first ∈ sn_gw := sn_gwI (lb_5 (lt_16 (lt_16 (lt_16 (lt_16 (lt_16 (lt_16 (lt_16 (lt_16 (lt_16 (lt_16 (lt_16 (lt_16 (lt_11 lt_h)))))))))))))) gw_selects
theorem kl_RL_56 : sn_LV RL 56 yX9_first cX9_first 2 (some .int) 1 := ⟨sn_lv5 km_RL_56 kin_X9_first ks_X9_first ki_RX9 kc_X9_first, kva_3, kvb_3, kpd_6⟩
theorem kc_X8_all : Cond.code yX8_all cX8_all 1 (some .int) ∈ sn_gw := sn_gwI (lb_2 (lt_16 (lt_16 (lt_16 (lt_16 (lt_16 (lt_16 (lt_10 lt_h)))))))) gw_code
theorem km_RL_57 : Cond.methodLink RL 57 yX8_all ∈ sn_gw := sn_gwI (lb_2 (lt_16 (lt_16 (lt_16 (lt_16 (lt_16 (lt_16 (lt_7 lt_h)))))))) gw_methodLink
theorem kin_X8_all : Cond.instanceMethod yX8_all ∈ sn_gw := sn_gwI (lb_2 (lt_16 (lt_16 (lt_16 (lt_16 (lt_16 (lt_16 (lt_8 lt_h)))))))) gw_instanceMethod
theorem ks_X8_all : Cond.selects RX8 yX8_all yX8_all ∈ sn_gw := sn_gwI (lb_2 (lt_16 (lt_16 (lt_16 (lt_16 (lt_16 (lt_16 (lt_9 lt_h)))))))) gw_selects
theorem kl_RL_57 : sn_LV RL 57 yX8_all cX8_all 1 (some .int) 0 := ⟨sn_lv5 km_RL_57 kin_X8_all ks_X8_all ki_RX8 kc_X8_all, kva_6, kvb_6, kpd_7⟩
theorem kc_X9_all : Cond.code yX9_all cX9_all 1 (some .int) ∈ sn_gw := sn_gwI (lb_5 (lt_16 (lt_16 (lt_16 (lt_16 (lt_16 (lt_16 (lt_16 (lt_16 (lt_16 (lt_16 (lt_16 (lt_16 (lt_16 (lt_3 lt_h))))))))))))))) gw_code
theorem km_RL_60 : Cond.methodLink RL 60 yX9_all ∈ sn_gw := sn_gwI (lb_5 (lt_16 (lt_16 (lt_16 (lt_16 (lt_16 (lt_16 (lt_16 (lt_16 (lt_16 (lt_16 (lt_16 (lt_16 (lt_16 lt_h)))))))))))))) gw_methodLink
theorem kin_X9_all : Cond.instanceMethod yX9_all ∈ sn_gw := sn_gwI (lb_5 (lt_16 (lt_16 (lt_16 (lt_16 (lt_16 (lt_16 (lt_16 (lt_16 (lt_16 (lt_16 (lt_16 (lt_16 (lt_16 (lt_1 lt_h))))))))))))))) gw_instanceMethod
theorem ks_X9_all : Cond.selects RX9 yX9_all yX9_all ∈ sn_gw := sn_gwI (lb_5 (lt_16 (lt_16 (lt_16 (lt_16 (lt_16 (lt_16 (lt_16 (lt_16 (lt_16 (lt_16 (lt_16 (lt_16 (lt_16 (lt_2 lt_h))))))))))))))) gw_selects
theorem kl_RL_60 : sn_LV RL 60 yX9_all cX9_all 1 (some .int) 0 := ⟨sn_lv5 km_RL_60 kin_X9_all ks_X9_all ki_RX9 kc_X9_all, kva_3, kvb_3, kpd_7⟩
theorem kc_X8_who : Cond.code yX8_who cX8_who 2 (some .int) ∈ sn_gw := sn_gwI (lb_2 (lt_16 (lt_16 (lt_16 (lt_16 (lt_16 (lt_16 (lt_16 (lt_7 lt_h))))))))) gw_code
theorem km_RL_61 : Cond.methodLink RL 61 yX8_who ∈ sn_gw := sn_gwI (lb_2 (lt_16 (lt_16 (lt_16 (lt_16 (lt_16 (lt_16 (lt_16 (lt_4 lt_h))))))))) gw_methodLink
theorem kin_X8_who : Cond.instanceMethod yX8_who ∈ sn_gw := sn_gwI (lb_2 (lt_16 (lt_16 (lt_16 (lt_16 (lt_16 (lt_16 (lt_16 (lt_5 lt_h))))))))) gw_instanceMethod
theorem ks_X8_who : Cond.selects RX8 yX8_who yX8_who ∈ sn_gw := sn_gwI (lb_2 (lt_16 (lt_16 (lt_16 (lt_16 (lt_16 (lt_16 (lt_16 (lt_6 lt_h))))))))) gw_selects
theorem kl_RL_61 : sn_LV RL 61 yX8_who cX8_who 2 (some .int) 1 := ⟨sn_lv5 km_RL_61 kin_X8_who ks_X8_who ki_RX8 kc_X8_who, kva_6, kvb_6, kpd_6⟩
theorem kc_X9_who : Cond.code yX9_who cX9_who 2 (some .int) ∈ sn_gw := sn_gwI (lb_5 (lt_16 (lt_16 (lt_16 (lt_16 (lt_16 (lt_16 (lt_16 (lt_16 (lt_16 (lt_16 (lt_16 (lt_16 (lt_16 (lt_14 lt_h))))))))))))))) gw_code
theorem km_RL_64 : Cond.methodLink RL 64 yX9_who ∈ sn_gw := sn_gwI (lb_5 (lt_16 (lt_16 (lt_16 (lt_16 (lt_16 (lt_16 (lt_16 (lt_16 (lt_16 (lt_16 (lt_16 (lt_16 (lt_16 (lt_11 lt_h))))))))))))))) gw_methodLink
theorem kin_X9_who : Cond.instanceMethod yX9_who ∈ sn_gw := sn_gwI (lb_5 (lt_16 (lt_16 (lt_16 (lt_16 (lt_16 (lt_16 (lt_16 (lt_16 (lt_16 (lt_16 (lt_16 (lt_16 (lt_16 (lt_12 lt_h))))))))))))))) gw_instanceMethod
theorem ks_X9_who : Cond.selects RX9 yX9_who yX9_who ∈ sn_gw := sn_gwI (lb_5 (lt_16 (lt_16 (lt_16 (lt_16 (lt_16 (lt_16 (lt_16 (lt_16 (lt_16 (lt_16 (lt_16 (lt_16 (lt_16 (lt_13 lt_h))))))))))))))) gw_selects
theorem kl_RL_64 : sn_LV RL 64 yX9_who cX9_who 2 (some .int) 1 := ⟨sn_lv5 km_RL_64 kin_X9_who ks_X9_who ki_RX9 kc_X9_who, kva_3, kvb_3, kpd_6⟩
theorem kc_X8_tickle : Cond.code yX8_tickle cX8_tickle 3 (some .int) ∈ sn_gw := sn_gwI (lb_2 (lt_16 (lt_16 (lt_16 (lt_16 (lt_16 (lt_16 (lt_16 (lt_11 lt_h))))))))) gw_code
theorem km_RL_65 : Cond.methodLink RL 65 yX8_tickle ∈ sn_gw := sn_gwI (lb_2 (lt_16 (lt_16 (lt_16 (lt_16 (lt_16 (lt_16 (lt_16 (lt_8 lt_h))))))))) gw_methodLink
theorem kin_X8_tickle : Cond.instanceMethod yX8_tickle ∈ sn_gw := sn_gwI (lb_2 (lt_16 (lt_16 (lt_16 (lt_16 (lt_16 (lt_16 (lt_16 (lt_9 lt_h))))))))) gw_instanceMethod
theorem ks_X8_tickle : Cond.selects RX8 yX8_tickle yX8_tickle ∈ sn_gw := sn_gwI (lb_2 (lt_16 (lt_16 (lt_16 (lt_16 (lt_16 (lt_16 (lt_16 (lt_10 lt_h))))))))) gw_selects
theorem kl_RL_65 : sn_LV RL 65 yX8_tickle cX8_tickle 3 (some .int) 2 := ⟨sn_lv5 km_RL_65 kin_X8_tickle ks_X8_tickle ki_RX8 kc_X8_tickle, kva_6, kvb_6, kpd_13⟩
theorem kc_X9_tickle : Cond.code yX9_tickle cX9_tickle 3 (some .int) ∈ sn_gw := sn_gwI (lb_5 (lt_16 (lt_16 (lt_16 (lt_16 (lt_16 (lt_16 (lt_16 (lt_16 (lt_16 (lt_16 (lt_16 (lt_16 (lt_16 (lt_16 (lt_2 lt_h)))))))))))))))) gw_code
theorem km_RL_68 : Cond.methodLink RL 68 yX9_tickle ∈ sn_gw := sn_gwI (lb_5 (lt_16 (lt_16 (lt_16 (lt_16 (lt_16 (lt_16 (lt_16 (lt_16 (lt_16 (lt_16 (lt_16 (lt_16 (lt_16 (lt_15 lt_h))))))))))))))) gw_methodLink
theorem kin_X9_tickle : Cond.instanceMethod yX9_tickle ∈ sn_gw := sn_gwI (lb_5 (lt_16 (lt_16 (lt_16 (lt_16 (lt_16 (lt_16 (lt_16 (lt_16 (lt_16 (lt_16 (lt_16 (lt_16 (lt_16 (lt_16 lt_h))))))))))))))) gw_instanceMethod
theorem ks_X9_tickle : Cond.selects RX9 yX9_tickle yX9_tickle ∈ sn_gw := sn_gwI (lb_5 (lt_16 (lt_16 (lt_16 (lt_16 (lt_16 (lt_16 (lt_16 (lt_16 (lt_16 (lt_16 (lt_16 (lt_16 (lt_16 (lt_16 (lt_1 lt_h)))))))))))))))) gw_selects
theorem kl_RL_68 : sn_LV RL 68 yX9_tickle cX9_tickle 3 (some .int) 2 := ⟨sn_lv5 km_RL_68 kin_X9_tickle ks_X9_tickle ki_RX9 kc_X9_tickle, kva_3, kvb_3, kpd_13⟩
theorem kc_X8_itch : Cond.code yX8_itch cX8_itch 4 (some .int) ∈ sn_gw := sn_gwI (lb_2 (lt_16 (lt_16 (lt_16 (lt_16 (lt_16 (lt_16 (lt_16 (lt_16 (lt_3 lt_h)))))))))) gw_code
theorem km_RL_69 : Cond.methodLink RL 69 yX8_itch ∈ sn_gw := sn_gwI (lb_2 (lt_16 (lt_16 (lt_16 (lt_16 (lt_16 (lt_16 (lt_16 (lt_16 lt_h))))))))) gw_methodLink
theorem kin_X8_itch : Cond.instanceMethod yX8_itch ∈ sn_gw := sn_gwI (lb_2 (lt_16 (lt_16 (lt_16 (lt_16 (lt_16 (lt_16 (lt_16 (lt_16 (lt_1 lt_h)))))))))) gw_instanceMethod
theorem ks_X8_itch : Cond.selects RX8 yX8_itch yX8_itch ∈ sn_gw := sn_gwI (lb_2 (lt_16 (lt_16 (lt_16 (lt_16 (lt_16 (lt_16 (lt_16 (lt_16 (lt_2 lt_h)))))))))) gw_selects
theorem kl_RL_69 : sn_LV RL 69 yX8_itch cX8_itch 4 (some .int) 1 := ⟨sn_lv5 km_RL_69 kin_X8_itch ks_X8_itch ki_RX8 kc_X8_itch, kva_6, kvb_6, kpd_6⟩
theorem kc_X9_itch : Cond.code yX9_itch cX9_itch 4 (some .int) ∈ sn_gw := sn_gwI (lb_5 (lt_16 (lt_16 (lt_16 (lt_16 (lt_16 (lt_16 (lt_16 (lt_16 (lt_16 (lt_16 (lt_16 (lt_16 (lt_16 (lt_16 (lt_6 lt_h)))))))))))))))) gw_code
theorem km_RL_72 : Cond.methodLink RL 72 yX9_itch ∈ sn_gw := sn_gwI (lb_5 (lt_16 (lt_16 (lt_16 (lt_16 (lt_16 (lt_16 (lt_16 (lt_16 (lt_16 (lt_16 (lt_16 (lt_16 (lt_16 (lt_16 (lt_3 lt_h)))))))))))))))) gw_methodLink
theorem kin_X9_itch : Cond.instanceMethod yX9_itch ∈ sn_gw := sn_gwI (lb_5 (lt_16 (lt_16 (lt_16 (lt_16 (lt_16 (lt_16 (lt_16 (lt_16 (lt_16 (lt_16 (lt_16 (lt_16 (lt_16 (lt_16 (lt_4 lt_h)))))))))))))))) gw_instanceMethod
theorem ks_X9_itch : Cond.selects RX9 yX9_itch yX9_itch ∈ sn_gw := sn_gwI (lb_5 (lt_16 (lt_16 (lt_16 (lt_16 (lt_16 (lt_16 (lt_16 (lt_16 (lt_16 (lt_16 (lt_16 (lt_16 (lt_16 (lt_16 (lt_5 lt_h)))))))))))))))) gw_selects
theorem kl_RL_72 : sn_LV RL 72 yX9_itch cX9_itch 4 (some .int) 1 := ⟨sn_lv5 km_RL_72 kin_X9_itch ks_X9_itch ki_RX9 kc_X9_itch, kva_3, kvb_3, kpd_6⟩
theorem kc_X8_caught : Cond.code yX8_caught cX8_caught 4 (some .int) ∈ sn_gw := sn_gwI (lb_2 (lt_16 (lt_16 (lt_16 (lt_16 (lt_16 (lt_16 (lt_16 (lt_16 (lt_10 lt_h)))))))))) gw_code
theorem km_RL_73 : Cond.methodLink RL 73 yX8_caught ∈ sn_gw := sn_gwI (lb_2 (lt_16 (lt_16 (lt_16 (lt_16 (lt_16 (lt_16 (lt_16 (lt_16 (lt_7 lt_h)))))))))) gw_methodLink
theorem kin_X8_caught : Cond.instanceMethod yX8_caught ∈ sn_gw := sn_gwI (lb_2 (lt_16 (lt_16 (lt_16 (lt_16 (lt_16 (lt_16 (lt_16 (lt_16 (lt_8 lt_h)))))))))) gw_instanceMethod
theorem ks_X8_caught : Cond.selects RX8 yX8_caught yX8_caught ∈ sn_gw := sn_gwI (lb_2 (lt_16 (lt_16 (lt_16 (lt_16 (lt_16 (lt_16 (lt_16 (lt_16 (lt_9 lt_h)))))))))) gw_selects
theorem kl_RL_73 : sn_LV RL 73 yX8_caught cX8_caught 4 (some .int) 1 := ⟨sn_lv5 km_RL_73 kin_X8_caught ks_X8_caught ki_RX8 kc_X8_caught, kva_6, kvb_6, kpd_6⟩
theorem kc_X9_caught : Cond.code yX9_caught cX9_caught 2 (some .int) ∈ sn_gw := sn_gwI (lb_5 (lt_16 (lt_16 (lt_16 (lt_16 (lt_16 (lt_16 (lt_16 (lt_16 (lt_16 (lt_16 (lt_16 (lt_16 (lt_16 (lt_16 (lt_11 lt_h)))))))))))))))) gw_code
theorem km_RL_76 : Cond.methodLink RL 76 yX9_caught ∈ sn_gw := sn_gwI (lb_5 (lt_16 (lt_16 (lt_16 (lt_16 (lt_16 (lt_16 (lt_16 (lt_16 (lt_16 (lt_16 (lt_16 (lt_16 (lt_16 (lt_16 (lt_8 lt_h)))))))))))))))) gw_methodLink
theorem kin_X9_caught : Cond.instanceMethod yX9_caught ∈ sn_gw := sn_gwI (lb_5 (lt_16 (lt_16 (lt_16 (lt_16 (lt_16 (lt_16 (lt_16 (lt_16 (lt_16 (lt_16 (lt_16 (lt_16 (lt_16 (lt_16 (lt_9 lt_h)))))))))))))))) gw_instanceMethod
theorem ks_X9_caught : Cond.selects RX9 yX9_caught yX9_caught ∈ sn_gw := sn_gwI (lb_5 (lt_16 (lt_16 (lt_16 (lt_16 (lt_16 (lt_16 (lt_16 (lt_16 (lt_16 (lt_16 (lt_16 (lt_16 (lt_16 (lt_16 (lt_10 lt_h)))))))))))))))) gw_selects
theorem kl_RL_76 : sn_LV RL 76 yX9_caught cX9_caught 2 (some .int) 1 := ⟨sn_lv5 km_RL_76 kin_X9_caught ks_X9_caught ki_RX9 kc_X9_caught, kva_3, kvb_3, kpd_6⟩
theorem kc_X8_gave : Cond.code yX8_gave cX8_gave 3 (some .int) ∈ sn_gw := sn_gwI (lb_2 (lt_16 (lt_16 (lt_16 (lt_16 (lt_16 (lt_16 (lt_16 (lt_16 (lt_15 lt_h)))))))))) gw_code
theorem km_RL_77 : Cond.methodLink RL 77 yX8_gave ∈ sn_gw := sn_gwI (lb_2 (lt_16 (lt_16 (lt_16 (lt_16 (lt_16 (lt_16 (lt_16 (lt_16 (lt_12 lt_h)))))))))) gw_methodLink
theorem kin_X8_gave : Cond.instanceMethod yX8_gave ∈ sn_gw := sn_gwI (lb_2 (lt_16 (lt_16 (lt_16 (lt_16 (lt_16 (lt_16 (lt_16 (lt_16 (lt_13 lt_h)))))))))) gw_instanceMethod
theorem ks_X8_gave : Cond.selects RX8 yX8_gave yX8_gave ∈ sn_gw := sn_gwI (lb_2 (lt_16 (lt_16 (lt_16 (lt_16 (lt_16 (lt_16 (lt_16 (lt_16 (lt_14 lt_h)))))))))) gw_selects
theorem kl_RL_77 : sn_LV RL 77 yX8_gave cX8_gave 3 (some .int) 1 := ⟨sn_lv5 km_RL_77 kin_X8_gave ks_X8_gave ki_RX8 kc_X8_gave, kva_6, kvb_6, kpd_6⟩
theorem kc_X9_gave : Cond.code yX9_gave cX9_gave 5 (some .int) ∈ sn_gw := sn_gwI (lb_5 (lt_16 (lt_16 (lt_16 (lt_16 (lt_16 (lt_16 (lt_16 (lt_16 (lt_16 (lt_16 (lt_16 (lt_16 (lt_16 (lt_16 (lt_15 lt_h)))))))))))))))) gw_code
theorem km_RL_80 : Cond.methodLink RL 80 yX9_gave ∈ sn_gw := sn_gwI (lb_5 (lt_16 (lt_16 (lt_16 (lt_16 (lt_16 (lt_16 (lt_16 (lt_16 (lt_16 (lt_16 (lt_16 (lt_16 (lt_16 (lt_16 (lt_12 lt_h)))))))))))))))) gw_methodLink
theorem kin_X9_gave : Cond.instanceMethod yX9_gave ∈ sn_gw := sn_gwI (lb_5 (lt_16 (lt_16 (lt_16 (lt_16 (lt_16 (lt_16 (lt_16 (lt_16 (lt_16 (lt_16 (lt_16 (lt_16 (lt_16 (lt_16 (lt_13 lt_h)))))))))))))))) gw_instanceMethod
theorem ks_X9_gave : Cond.selects RX9 yX9_gave yX9_gave ∈ sn_gw := sn_gwI (lb_5 (lt_16 (lt_16 (lt_16 (lt_16 (lt_16 (lt_16 (lt_16 (lt_16 (lt_16 (lt_16 (lt_16 (lt_16 (lt_16 (lt_16 (lt_14 lt_h)))))))))))))))) gw_selects
theorem kl_RL_80 : sn_LV RL 80 yX9_gave cX9_gave 5 (some .int) 1 := ⟨sn_lv5 km_RL_80 kin_X9_gave ks_X9_gave ki_RX9 kc_X9_gave, kva_3, kvb_3, kpd_6⟩
theorem kc_X8_worst : Cond.code yX8_worst cX8_worst 5 (some .int) ∈ sn_gw := sn_gwI (lb_2 (lt_16 (lt_16 (lt_16 (lt_16 (lt_16 (lt_16 (lt_16 (lt_16 (lt_16 (lt_3 lt_h))))))))))) gw_code
theorem km_RL_81 : Cond.methodLink RL 81 yX8_worst ∈ sn_gw := sn_gwI (lb_2 (lt_16 (lt_16 (lt_16 (lt_16 (lt_16 (lt_16 (lt_16 (lt_16 (lt_16 lt_h)))))))))) gw_methodLink
theorem kin_X8_worst : Cond.instanceMethod yX8_worst ∈ sn_gw := sn_gwI (lb_2 (lt_16 (lt_16 (lt_16 (lt_16 (lt_16 (lt_16 (lt_16 (lt_16 (lt_16 (lt_1 lt_h))))))))))) gw_instanceMethod
theorem ks_X8_worst : Cond.selects RX8 yX8_worst yX8_worst ∈ sn_gw := sn_gwI (lb_2 (lt_16 (lt_16 (lt_16 (lt_16 (lt_16 (lt_16 (lt_16 (lt_16 (lt_16 (lt_2 lt_h))))))))))) gw_selects
theorem kl_RL_81 : sn_LV RL 81 yX8_worst cX8_worst 5 (some .int) 0 := ⟨sn_lv5 km_RL_81 kin_X8_worst ks_X8_worst ki_RX8 kc_X8_worst, kva_6, kvb_6, kpd_7⟩
theorem kc_X9_worst : Cond.code yX9_worst cX9_worst 4 (some .int) ∈ sn_gw := sn_gwI (lb_6 (lt_3 lt_h)) gw_code
theorem km_RL_84 : Cond.methodLink RL 84 yX9_worst ∈ sn_gw := sn_gwI (lb_6 lt_h) gw_methodLink
theorem kin_X9_worst : Cond.instanceMethod yX9_worst ∈ sn_gw := sn_gwI (lb_6 (lt_1 lt_h)) gw_instanceMethod
theorem ks_X9_worst : Cond.selects RX9 yX9_worst yX9_worst ∈ sn_gw := sn_gwI (lb_6 (lt_2 lt_h)) gw_selects
theorem kl_RL_84 : sn_LV RL 84 yX9_worst cX9_worst 4 (some .int) 0 := ⟨sn_lv5 km_RL_84 kin_X9_worst ks_X9_worst ki_RX9 kc_X9_worst, kva_3, kvb_3, kpd_7⟩
theorem kc_X8_chorus : Cond.code yX8_chorus cX8_chorus 3 (some .int) ∈ sn_gw := sn_gwI (lb_2 (lt_16 (lt_16 (lt_16 (lt_16 (lt_16 (lt_16 (lt_16 (lt_16 (lt_16 (lt_7 lt_h))))))))))) gw_code
theorem km_RL_85 : Cond.methodLink RL 85 yX8_chorus ∈ sn_gw := sn_gwI (lb_2 (lt_16 (lt_16 (lt_16 (lt_16 (lt_16 (lt_16 (lt_16 (lt_16 (lt_16 (lt_4 lt_h))))))))))) gw_methodLink
theorem kin_X8_chorus : Cond.instanceMethod yX8_chorus ∈ sn_gw := sn_gwI (lb_2 (lt_16 (lt_16 (lt_16 (lt_16 (lt_16 (lt_16 (lt_16 (lt_16 (lt_16 (lt_5 lt_h))))))))))) gw_instanceMethod
theorem ks_X8_chorus : Cond.selects RX8 yX8_chorus yX8_chorus ∈ sn_gw := sn_gwI (lb_2 (lt_16 (lt_16 (lt_16 (lt_16 (lt_16 (lt_16 (lt_16 (lt_16 (lt_16 (lt_6 lt_h))))))))))) gw_selects
theorem kl_RL_85 : sn_LV RL 85 yX8_chorus cX8_chorus 3 (some .int) 0 := ⟨sn_lv5 km_RL_85 kin_X8_chorus ks_X8_chorus ki_RX8 kc_X8_chorus, kva_6, kvb_6, kpd_7⟩
theorem kc_X9_chorus : Cond.code yX9_chorus cX9_chorus 3 (some .int) ∈ sn_gw := sn_gwI (lb_6 (lt_7 lt_h)) gw_code
theorem km_RL_88 : Cond.methodLink RL 88 yX9_chorus ∈ sn_gw := sn_gwI (lb_6 (lt_4 lt_h)) gw_methodLink
theorem kin_X9_chorus : Cond.instanceMethod yX9_chorus ∈ sn_gw := sn_gwI (lb_6 (lt_5 lt_h)) gw_instanceMethod
theorem ks_X9_chorus : Cond.selects RX9 yX9_chorus yX9_chorus ∈ sn_gw := sn_gwI (lb_6 (lt_6 lt_h)) gw_selects
theorem kl_RL_88 : sn_LV RL 88 yX9_chorus cX9_chorus 3 (some .int) 0 := ⟨sn_lv5 km_RL_88 kin_X9_chorus ks_X9_chorus ki_RX9 kc_X9_chorus, kva_3, kvb_3, kpd_7⟩
theorem kc_X8_calm : Cond.code yX8_calm cX8_calm 4 (some .int) ∈ sn_gw := sn_gwI (lb_2 (lt_16 (lt_16 (lt_16 (lt_16 (lt_16 (lt_16 (lt_16 (lt_16 (lt_16 (lt_11 lt_h))))))))))) gw_code
theorem km_RL_89 : Cond.methodLink RL 89 yX8_calm ∈ sn_gw := sn_gwI (lb_2 (lt_16 (lt_16 (lt_16 (lt_16 (lt_16 (lt_16 (lt_16 (lt_16 (lt_16 (lt_8 lt_h))))))))))) gw_methodLink
theorem kin_X8_calm : Cond.instanceMethod yX8_calm ∈ sn_gw := sn_gwI (lb_2 (lt_16 (lt_16 (lt_16 (lt_16 (lt_16 (lt_16 (lt_16 (lt_16 (lt_16 (lt_9 lt_h))))))))))) gw_instanceMethod
theorem ks_X8_calm : Cond.selects RX8 yX8_calm yX8_calm ∈ sn_gw := sn_gwI (lb_2 (lt_16 (lt_16 (lt_16 (lt_16 (lt_16 (lt_16 (lt_16 (lt_16 (lt_16 (lt_10 lt_h))))))))))) gw_selects
theorem kl_RL_89 : sn_LV RL 89 yX8_calm cX8_calm 4 (some .int) 0 := ⟨sn_lv5 km_RL_89 kin_X8_calm ks_X8_calm ki_RX8 kc_X8_calm, kva_6, kvb_6, kpd_7⟩
theorem kc_X9_calm : Cond.code yX9_calm cX9_calm 4 (some .int) ∈ sn_gw := sn_gwI (lb_6 (lt_11 lt_h)) gw_code
theorem km_RL_92 : Cond.methodLink RL 92 yX9_calm ∈ sn_gw := sn_gwI (lb_6 (lt_8 lt_h)) gw_methodLink
theorem kin_X9_calm : Cond.instanceMethod yX9_calm ∈ sn_gw := sn_gwI (lb_6 (lt_9 lt_h)) gw_instanceMethod
theorem ks_X9_calm : Cond.selects RX9 yX9_calm yX9_calm ∈ sn_gw := sn_gwI (lb_6 (lt_10 lt_h)) gw_selects
theorem kl_RL_92 : sn_LV RL 92 yX9_calm cX9_calm 4 (some .int) 0 := ⟨sn_lv5 km_RL_92 kin_X9_calm ks_X9_calm ki_RX9 kc_X9_calm, kva_3, kvb_3, kpd_7⟩
theorem kc_X8_pause : Cond.code yX8_pause cX8_pause 5 (some .int) ∈ sn_gw := sn_gwI (lb_2 (lt_16 (lt_16 (lt_16 (lt_16 (lt_16 (lt_16 (lt_16 (lt_16 (lt_16 (lt_15 lt_h))))))))))) gw_code
theorem km_RL_93 : Cond.methodLink RL 93 yX8_pause ∈ sn_gw := sn_gwI (lb_2 (lt_16 (lt_16 (lt_16 (lt_16 (lt_16 (lt_16 (lt_16 (lt_16 (lt_16 (lt_12 lt_h))))))))))) gw_methodLink
theorem kin_X8_pause : Cond.instanceMethod yX8_pause ∈ sn_gw := sn_gwI (lb_2 (lt_16 (lt_16 (lt_16 (lt_16 (lt_16 (lt_16 (lt_16 (lt_16 (lt_16 (lt_13 lt_h))))))))))) gw_instanceMethod
theorem ks_X8_pause : Cond.selects RX8 yX8_pause yX8_pause ∈ sn_gw := sn_gwI (lb_2 (lt_16 (lt_16 (lt_16 (lt_16 (lt_16 (lt_16 (lt_16 (lt_16 (lt_16 (lt_14 lt_h))))))))))) gw_selects
theorem kl_RL_93 : sn_LV RL 93 yX8_pause cX8_pause 5 (some .int) 1 := ⟨sn_lv5 km_RL_93 kin_X8_pause ks_X8_pause ki_RX8 kc_X8_pause, kva_6, kvb_6, kpd_6⟩
theorem kc_X9_pause : Cond.code yX9_pause cX9_pause 5 (some .int) ∈ sn_gw := sn_gwI (lb_6 (lt_15 lt_h)) gw_code
theorem km_RL_96 : Cond.methodLink RL 96 yX9_pause ∈ sn_gw := sn_gwI (lb_6 (lt_12 lt_h)) gw_methodLink
theorem kin_X9_pause : Cond.instanceMethod yX9_pause ∈ sn_gw := sn_gwI (lb_6 (lt_13 lt_h)) gw_instanceMethod
theorem ks_X9_pause : Cond.selects RX9 yX9_pause yX9_pause ∈ sn_gw := sn_gwI (lb_6 (lt_14 lt_h)) gw_selects
theorem kl_RL_96 : sn_LV RL 96 yX9_pause cX9_pause 5 (some .int) 1 := ⟨sn_lv5 km_RL_96 kin_X9_pause ks_X9_pause ki_RX9 kc_X9_pause, kva_3, kvb_3, kpd_6⟩
theorem kc_X8_later : Cond.code yX8_later cX8_later 3 (some .int) ∈ sn_gw := sn_gwI (lb_2 (lt_16 (lt_16 (lt_16 (lt_16 (lt_16 (lt_16 (lt_16 (lt_16 (lt_16 (lt_16 (lt_4 lt_h)))))))))))) gw_code
theorem km_RL_97 : Cond.methodLink RL 97 yX8_later ∈ sn_gw := sn_gwI (lb_2 (lt_16 (lt_16 (lt_16 (lt_16 (lt_16 (lt_16 (lt_16 (lt_16 (lt_16 (lt_16 (lt_1 lt_h)))))))))))) gw_methodLink
theorem kin_X8_later : Cond.instanceMethod yX8_later ∈ sn_gw := sn_gwI (lb_2 (lt_16 (lt_16 (lt_16 (lt_16 (lt_16 (lt_16 (lt_16 (lt_16 (lt_16 (lt_16 (lt_2 lt_h)))))))))))) gw_instanceMethod
theorem ks_X8_later : Cond.selects RX8 yX8_later yX8_later ∈ sn_gw := sn_gwI (lb_2 (lt_16 (lt_16 (lt_16 (lt_16 (lt_16 (lt_16 (lt_16 (lt_16 (lt_16 (lt_16 (lt_3 lt_h)))))))))))) gw_selects
theorem kl_RL_97 : sn_LV RL 97 yX8_later cX8_later 3 (some .int) 2 := ⟨sn_lv5 km_RL_97 kin_X8_later ks_X8_later ki_RX8 kc_X8_later, kva_6, kvb_6, kpd_13⟩
theorem kc_X9_later : Cond.code yX9_later cX9_later 3 (some .int) ∈ sn_gw := sn_gwI (lb_6 (lt_16 (lt_7 lt_h))) gw_code
theorem km_RL_100 : Cond.methodLink RL 100 yX9_later ∈ sn_gw := sn_gwI (lb_6 (lt_16 (lt_4 lt_h))) gw_methodLink
theorem kin_X9_later : Cond.instanceMethod yX9_later ∈ sn_gw := sn_gwI (lb_6 (lt_16 (lt_5 lt_h))) gw_instanceMethod
theorem ks_X9_later : Cond.selects RX9 yX9_later yX9_later ∈ sn_gw := sn_gwI (lb_6 (lt_16 (lt_6 lt_h))) gw_selects
theorem kl_RL_100 : sn_LV RL 100 yX9_later cX9_later 3 (some .int) 2 := ⟨sn_lv5 km_RL_100 kin_X9_later ks_X9_later ki_RX9 kc_X9_later, kva_3, kvb_3, kpd_13⟩
theorem kc_X8_covered : Cond.code yX8_covered cX8_covered 2 (some .int) ∈ sn_gw := sn_gwI (lb_2 (lt_16 (lt_16 (lt_16 (lt_16 (lt_16 (lt_16 (lt_16 (lt_16 (lt_16 (lt_16 (lt_9 lt_h)))))))))))) gw_code
theorem km_RL_101 : Cond.methodLink RL 101 yX8_covered ∈ sn_gw := sn_gwI (lb_2 (lt_16 (lt_16 (lt_16 (lt_16 (lt_16 (lt_16 (lt_16 (lt_16 (lt_16 (lt_16 (lt_6 lt_h)))))))))))) gw_methodLink
theorem kin_X8_covered : Cond.instanceMethod yX8_covered ∈ sn_gw := sn_gwI (lb_2 (lt_16 (lt_16 (lt_16 (lt_16 (lt_16 (lt_16 (lt_16 (lt_16 (lt_16 (lt_16 (lt_7 lt_h)))))))))))) gw_instanceMethod
theorem ks_X8_covered : Cond.selects RX8 yX8_covered yX8_covered ∈ sn_gw := sn_gwI (lb_2 (lt_16 (lt_16 (lt_16 (lt_16 (lt_16 (lt_16 (lt_16 (lt_16 (lt_16 (lt_16 (lt_8 lt_h)))))))))))) gw_selects
theorem kl_RL_101 : sn_LV RL 101 yX8_covered cX8_covered 2 (some .int) 1 := ⟨sn_lv5 km_RL_101 kin_X8_covered ks_X8_covered ki_RX8 kc_X8_covered, kva_6, kvb_6, kpd_6⟩
theorem kc_X9_covered : Cond.code yX9_covered cX9_covered 2 (some .int) ∈ sn_gw := sn_gwI (lb_6 (lt_16 (lt_16 (lt_16 (lt_16 (lt_16 (lt_16 (lt_8 lt_h)))))))) gw_code
theorem km_RL_104 : Cond.methodLink RL 104 yX9_covered ∈ sn_gw := sn_gwI (lb_6 (lt_16 (lt_16 (lt_16 (lt_16 (lt_16 (lt_16 (lt_5 lt_h)))))))) gw_methodLink
theorem kin_X9_covered : Cond.instanceMethod yX9_covered ∈ sn_gw := sn_gwI (lb_6 (lt_16 (lt_16 (lt_16 (lt_16 (lt_16 (lt_16 (lt_6 lt_h)))))))) gw_instanceMethod
theorem ks_X9_covered : Cond.selects RX9 yX9_covered yX9_covered ∈ sn_gw := sn_gwI (lb_6 (lt_16 (lt_16 (lt_16 (lt_16 (lt_16 (lt_16 (lt_7 lt_h)))))))) gw_selects
theorem kl_RL_104 : sn_LV RL 104 yX9_covered cX9_covered 2 (some .int) 1 := ⟨sn_lv5 km_RL_104 kin_X9_covered ks_X9_covered ki_RX9 kc_X9_covered, kva_3, kvb_3, kpd_6⟩
theorem kc_X8_naked : Cond.code yX8_naked cX8_naked 3 (some .int) ∈ sn_gw := sn_gwI (lb_2 (lt_16 (lt_16 (lt_16 (lt_16 (lt_16 (lt_16 (lt_16 (lt_16 (lt_16 (lt_16 (lt_16 (lt_5 lt_h))))))))))))) gw_code
theorem km_RL_105 : Cond.methodLink RL 105 yX8_naked ∈ sn_gw := sn_gwI (lb_2 (lt_16 (lt_16 (lt_16 (lt_16 (lt_16 (lt_16 (lt_16 (lt_16 (lt_16 (lt_16 (lt_16 (lt_2 lt_h))))))))))))) gw_methodLink
theorem kin_X8_naked : Cond.instanceMethod yX8_naked ∈ sn_gw := sn_gwI (lb_2 (lt_16 (lt_16 (lt_16 (lt_16 (lt_16 (lt_16 (lt_16 (lt_16 (lt_16 (lt_16 (lt_16 (lt_3 lt_h))))))))))))) gw_instanceMethod
theorem ks_X8_naked : Cond.selects RX8 yX8_naked yX8_naked ∈ sn_gw := sn_gwI (lb_2 (lt_16 (lt_16 (lt_16 (lt_16 (lt_16 (lt_16 (lt_16 (lt_16 (lt_16 (lt_16 (lt_16 (lt_4 lt_h))))))))))))) gw_selects
theorem kl_RL_105 : sn_LV RL 105 yX8_naked cX8_naked 3 (some .int) 0 := ⟨sn_lv5 km_RL_105 kin_X8_naked ks_X8_naked ki_RX8 kc_X8_naked, kva_6, kvb_6, kpd_7⟩
theorem kc_X9_naked : Cond.code yX9_naked cX9_naked 3 (some .int) ∈ sn_gw := sn_gwI (lb_6 (lt_16 (lt_16 (lt_16 (lt_16 (lt_16 (lt_16 (lt_16 lt_h)))))))) gw_code
theorem km_RL_108 : Cond.methodLink RL 108 yX9_naked ∈ sn_gw := sn_gwI (lb_6 (lt_16 (lt_16 (lt_16 (lt_16 (lt_16 (lt_16 (lt_13 lt_h)))))))) gw_methodLink
theorem kin_X9_naked : Cond.instanceMethod yX9_naked ∈ sn_gw := sn_gwI (lb_6 (lt_16 (lt_16 (lt_16 (lt_16 (lt_16 (lt_16 (lt_14 lt_h)))))))) gw_instanceMethod
theorem ks_X9_naked : Cond.selects RX9 yX9_naked yX9_naked ∈ sn_gw := sn_gwI (lb_6 (lt_16 (lt_16 (lt_16 (lt_16 (lt_16 (lt_16 (lt_15 lt_h)))))))) gw_selects
theorem kl_RL_108 : sn_LV RL 108 yX9_naked cX9_naked 3 (some .int) 0 := ⟨sn_lv5 km_RL_108 kin_X9_naked ks_X9_naked ki_RX9 kc_X9_naked, kva_3, kvb_3, kpd_7⟩
theorem kc_X8_covers : Cond.code yX8_covers cX8_covers 4 (some .int) ∈ sn_gw := sn_gwI (lb_2 (lt_16 (lt_16 (lt_16 (lt_16 (lt_16 (lt_16 (lt_16 (lt_16 (lt_16 (lt_16 (lt_16 (lt_9 lt_h))))))))))))) gw_code
theorem km_RL_109 : Cond.methodLink RL 109 yX8_covers ∈ sn_gw := sn_gwI (lb_2 (lt_16 (lt_16 (lt_16 (lt_16 (lt_16 (lt_16 (lt_16 (lt_16 (lt_16 (lt_16 (lt_16 (lt_6 lt_h))))))))))))) gw_methodLink
theorem kin_X8_covers : Cond.instanceMethod yX8_covers ∈ sn_gw := sn_gwI (lb_2 (lt_16 (lt_16 (lt_16 (lt_16 (lt_16 (lt_16 (lt_16 (lt_16 (lt_16 (lt_16 (lt_16 (lt_7 lt_h))))))))))))) gw_instanceMethod
theorem ks_X8_covers : Cond.selects RX8 yX8_covers yX8_covers ∈ sn_gw := sn_gwI (lb_2 (lt_16 (lt_16 (lt_16 (lt_16 (lt_16 (lt_16 (lt_16 (lt_16 (lt_16 (lt_16 (lt_16 (lt_8 lt_h))))))))))))) gw_selects
theorem kl_RL_109 : sn_LV RL 109 yX8_covers cX8_covers 4 (some .int) 1 := ⟨sn_lv5 km_RL_109 kin_X8_covers ks_X8_covers ki_RX8 kc_X8_covers, kva_6, kvb_6, kpd_6⟩
theorem kc_X9_covers : Cond.code yX9_covers cX9_covers 4 (some .int) ∈ sn_gw := sn_gwI (lb_6 (lt_16 (lt_16 (lt_16 (lt_16 (lt_16 (lt_16 (lt_16 (lt_4 lt_h))))))))) gw_code
theorem km_RL_112 : Cond.methodLink RL 112 yX9_covers ∈ sn_gw := sn_gwI (lb_6 (lt_16 (lt_16 (lt_16 (lt_16 (lt_16 (lt_16 (lt_16 (lt_1 lt_h))))))))) gw_methodLink
theorem kin_X9_covers : Cond.instanceMethod yX9_covers ∈ sn_gw := sn_gwI (lb_6 (lt_16 (lt_16 (lt_16 (lt_16 (lt_16 (lt_16 (lt_16 (lt_2 lt_h))))))))) gw_instanceMethod
theorem ks_X9_covers : Cond.selects RX9 yX9_covers yX9_covers ∈ sn_gw := sn_gwI (lb_6 (lt_16 (lt_16 (lt_16 (lt_16 (lt_16 (lt_16 (lt_16 (lt_3 lt_h))))))))) gw_selects
theorem kl_RL_112 : sn_LV RL 112 yX9_covers cX9_covers 4 (some .int) 1 := ⟨sn_lv5 km_RL_112 kin_X9_covers ks_X9_covers ki_RX9 kc_X9_covers, kva_3, kvb_3, kpd_6⟩
theorem kc_X8_profit : Cond.code yX8_profit cX8_profit 2 (some .int) ∈ sn_gw := sn_gwI (lb_3 (lt_16 (lt_10 lt_h))) gw_code
theorem km_RL_113 : Cond.methodLink RL 113 yX8_profit ∈ sn_gw := sn_gwI (lb_3 (lt_16 (lt_7 lt_h))) gw_methodLink
theorem kin_X8_profit : Cond.instanceMethod yX8_profit ∈ sn_gw := sn_gwI (lb_3 (lt_16 (lt_8 lt_h))) gw_instanceMethod
theorem ks_X8_profit : Cond.selects RX8 yX8_profit yX8_profit ∈ sn_gw := sn_gwI (lb_3 (lt_16 (lt_9 lt_h))) gw_selects
theorem kl_RL_113 : sn_LV RL 113 yX8_profit cX8_profit 2 (some .int) 1 := ⟨sn_lv5 km_RL_113 kin_X8_profit ks_X8_profit ki_RX8 kc_X8_profit, kva_6, kvb_6, kpd_6⟩
theorem kc_X9_profit : Cond.code yX9_profit cX9_profit 2 (some .int) ∈ sn_gw := sn_gwI (lb_6 (lt_16 (lt_16 (lt_16 (lt_16 (lt_16 (lt_16 (lt_16 (lt_8 lt_h))))))))) gw_code
theorem km_RL_116 : Cond.methodLink RL 116 yX9_profit ∈ sn_gw := sn_gwI (lb_6 (lt_16 (lt_16 (lt_16 (lt_16 (lt_16 (lt_16 (lt_16 (lt_5 lt_h))))))))) gw_methodLink
theorem kin_X9_profit : Cond.instanceMethod yX9_profit ∈ sn_gw := sn_gwI (lb_6 (lt_16 (lt_16 (lt_16 (lt_16 (lt_16 (lt_16 (lt_16 (lt_6 lt_h))))))))) gw_instanceMethod
theorem ks_X9_profit : Cond.selects RX9 yX9_profit yX9_profit ∈ sn_gw := sn_gwI (lb_6 (lt_16 (lt_16 (lt_16 (lt_16 (lt_16 (lt_16 (lt_16 (lt_7 lt_h))))))))) gw_selects
theorem kl_RL_116 : sn_LV RL 116 yX9_profit cX9_profit 2 (some .int) 1 := ⟨sn_lv5 km_RL_116 kin_X9_profit ks_X9_profit ki_RX9 kc_X9_profit, kva_3, kvb_3, kpd_6⟩
theorem kc_X8_lowest : Cond.code yX8_lowest cX8_lowest 1 (some .int) ∈ sn_gw := sn_gwI (lb_3 (lt_16 (lt_16 (lt_7 lt_h)))) gw_code
theorem km_RL_117 : Cond.methodLink RL 117 yX8_lowest ∈ sn_gw := sn_gwI (lb_3 (lt_16 (lt_16 (lt_4 lt_h)))) gw_methodLink
theorem kin_X8_lowest : Cond.instanceMethod yX8_lowest ∈ sn_gw := sn_gwI (lb_3 (lt_16 (lt_16 (lt_5 lt_h)))) gw_instanceMethod
theorem ks_X8_lowest : Cond.selects RX8 yX8_lowest yX8_lowest ∈ sn_gw := sn_gwI (lb_3 (lt_16 (lt_16 (lt_6 lt_h)))) gw_selects
theorem kl_RL_117 : sn_LV RL 117 yX8_lowest cX8_lowest 1 (some .int) 0 := ⟨sn_lv5 km_RL_117 kin_X8_lowest ks_X8_lowest ki_RX8 kc_X8_lowest, kva_6, kvb_6, kpd_7⟩
theorem kc_X9_lowest : Cond.code yX9_lowest cX9_lowest 3 (some .int) ∈ sn_gw := sn_gwI (lb_6 (lt_16 (lt_16 (lt_16 (lt_16 (lt_16 (lt_16 (lt_16 (lt_12 lt_h))))))))) gw_code
theorem km_RL_120 : Cond.methodLink RL 120 yX9_lowest ∈ sn_gw := sn_gwI (lb_6 (lt_16 (lt_16 (lt_16 (lt_16 (lt_16 (lt_16 (lt_16 (lt_9 lt_h))))))))) gw_methodLink
theorem kin_X9_lowest : Cond.instanceMethod yX9_lowest ∈ sn_gw := sn_gwI (lb_6 (lt_16 (lt_16 (lt_16 (lt_16 (lt_16 (lt_16 (lt_16 (lt_10 lt_h))))))))) gw_instanceMethod
theorem ks_X9_lowest : Cond.selects RX9 yX9_lowest yX9_lowest ∈ sn_gw := sn_gwI (lb_6 (lt_16 (lt_16 (lt_16 (lt_16 (lt_16 (lt_16 (lt_16 (lt_11 lt_h))))))))) gw_selects
theorem kl_RL_120 : sn_LV RL 120 yX9_lowest cX9_lowest 3 (some .int) 0 := ⟨sn_lv5 km_RL_120 kin_X9_lowest ks_X9_lowest ki_RX9 kc_X9_lowest, kva_3, kvb_3, kpd_7⟩
theorem kc_X8_dull : Cond.code yX8_dull cX8_dull 3 (some .int) ∈ sn_gw := sn_gwI (lb_2 (lt_16 (lt_16 (lt_16 (lt_16 (lt_16 (lt_16 (lt_16 (lt_16 (lt_16 (lt_16 (lt_16 (lt_13 lt_h))))))))))))) gw_code
theorem km_RL_121 : Cond.methodLink RL 121 yX8_dull ∈ sn_gw := sn_gwI (lb_2 (lt_16 (lt_16 (lt_16 (lt_16 (lt_16 (lt_16 (lt_16 (lt_16 (lt_16 (lt_16 (lt_16 (lt_10 lt_h))))))))))))) gw_methodLink
theorem kin_X8_dull : Cond.instanceMethod yX8_dull ∈ sn_gw := sn_gwI (lb_2 (lt_16 (lt_16 (lt_16 (lt_16 (lt_16 (lt_16 (lt_16 (lt_16 (lt_16 (lt_16 (lt_16 (lt_11 lt_h))))))))))))) gw_instanceMethod
theorem ks_X8_dull : Cond.selects RX8 yX8_dull yX8_dull ∈ sn_gw := sn_gwI (lb_2 (lt_16 (lt_16 (lt_16 (lt_16 (lt_16 (lt_16 (lt_16 (lt_16 (lt_16 (lt_16 (lt_16 (lt_12 lt_h))))))))))))) gw_selects
theorem kl_RL_121 : sn_LV RL 121 yX8_dull cX8_dull 3 (some .int) 1 := ⟨sn_lv5 km_RL_121 kin_X8_dull ks_X8_dull ki_RX8 kc_X8_dull, kva_6, kvb_6, kpd_6⟩
theorem kc_X9_dull : Cond.code yX9_dull cX9_dull 2 (some .int) ∈ sn_gw := sn_gwI (lb_6 (lt_16 (lt_16 (lt_3 lt_h)))) gw_code
theorem km_RL_124 : Cond.methodLink RL 124 yX9_dull ∈ sn_gw := sn_gwI (lb_6 (lt_16 (lt_16 lt_h))) gw_methodLink
theorem kin_X9_dull : Cond.instanceMethod yX9_dull ∈ sn_gw := sn_gwI (lb_6 (lt_16 (lt_16 (lt_1 lt_h)))) gw_instanceMethod
theorem ks_X9_dull : Cond.selects RX9 yX9_dull yX9_dull ∈ sn_gw := sn_gwI (lb_6 (lt_16 (lt_16 (lt_2 lt_h)))) gw_selects
theorem kl_RL_124 : sn_LV RL 124 yX9_dull cX9_dull 2 (some .int) 1 := ⟨sn_lv5 km_RL_124 kin_X9_dull ks_X9_dull ki_RX9 kc_X9_dull, kva_3, kvb_3, kpd_6⟩
theorem kc_X8_bears : Cond.code yX8_bears cX8_bears 4 (some .int) ∈ sn_gw := sn_gwI (lb_2 (lt_16 (lt_16 (lt_16 (lt_16 (lt_16 (lt_16 (lt_16 (lt_16 (lt_16 (lt_16 (lt_16 (lt_16 (lt_5 lt_h)))))))))))))) gw_code
theorem km_RL_125 : Cond.methodLink RL 125 yX8_bears ∈ sn_gw := sn_gwI (lb_2 (lt_16 (lt_16 (lt_16 (lt_16 (lt_16 (lt_16 (lt_16 (lt_16 (lt_16 (lt_16 (lt_16 (lt_16 (lt_2 lt_h)))))))))))))) gw_methodLink
theorem kin_X8_bears : Cond.instanceMethod yX8_bears ∈ sn_gw := sn_gwI (lb_2 (lt_16 (lt_16 (lt_16 (lt_16 (lt_16 (lt_16 (lt_16 (lt_16 (lt_16 (lt_16 (lt_16 (lt_16 (lt_3 lt_h)))))))))))))) gw_instanceMethod
theorem ks_X8_bears : Cond.selects RX8 yX8_bears yX8_bears ∈ sn_gw := sn_gwI (lb_2 (lt_16 (lt_16 (lt_16 (lt_16 (lt_16 (lt_16 (lt_16 (lt_16 (lt_16 (lt_16 (lt_16 (lt_16 (lt_4 lt_h)))))))))))))) gw_selects
theorem kl_RL_125 : sn_LV RL 125 yX8_bears cX8_bears 4 (some .int) 1 := ⟨sn_lv5 km_RL_125 kin_X8_bears ks_X8_bears ki_RX8 kc_X8_bears, kva_6, kvb_6, kpd_6⟩
theorem kc_X9_bears : Cond.code yX9_bears cX9_bears 2 (some .int) ∈ sn_gw := sn_gwI (lb_6 (lt_16 (lt_16 (lt_11 lt_h)))) gw_code
theorem km_RL_128 : Cond.methodLink RL 128 yX9_bears ∈ sn_gw := sn_gwI (lb_6 (lt_16 (lt_16 (lt_8 lt_h)))) gw_methodLink
theorem kin_X9_bears : Cond.instanceMethod yX9_bears ∈ sn_gw := sn_gwI (lb_6 (lt_16 (lt_16 (lt_9 lt_h)))) gw_instanceMethod
theorem ks_X9_bears : Cond.selects RX9 yX9_bears yX9_bears ∈ sn_gw := sn_gwI (lb_6 (lt_16 (lt_16 (lt_10 lt_h)))) gw_selects
theorem kl_RL_128 : sn_LV RL 128 yX9_bears cX9_bears 2 (some .int) 1 := ⟨sn_lv5 km_RL_128 kin_X9_bears ks_X9_bears ki_RX9 kc_X9_bears, kva_3, kvb_3, kpd_6⟩
theorem kc_X8_clean : Cond.code yX8_clean cX8_clean 3 (some .int) ∈ sn_gw := sn_gwI (lb_2 (lt_16 (lt_16 (lt_16 (lt_16 (lt_16 (lt_16 (lt_16 (lt_16 (lt_16 (lt_16 (lt_16 (lt_16 (lt_10 lt_h)))))))))))))) gw_code
theorem km_RL_129 : Cond.methodLink RL 129 yX8_clean ∈ sn_gw := sn_gwI (lb_2 (lt_16 (lt_16 (lt_16 (lt_16 (lt_16 (lt_16 (lt_16 (lt_16 (lt_16 (lt_16 (lt_16 (lt_16 (lt_7 lt_h)))))))))))))) gw_methodLink
theorem kin_X8_clean : Cond.instanceMethod yX8_clean ∈ sn_gw := sn_gwI (lb_2 (lt_16 (lt_16 (lt_16 (lt_16 (lt_16 (lt_16 (lt_16 (lt_16 (lt_16 (lt_16 (lt_16 (lt_16 (lt_8 lt_h)))))))))))))) gw_instanceMethod
theorem ks_X8_clean : Cond.selects RX8 yX8_clean yX8_clean ∈ sn_gw := sn_gwI (lb_2 (lt_16 (lt_16 (lt_16 (lt_16 (lt_16 (lt_16 (lt_16 (lt_16 (lt_16 (lt_16 (lt_16 (lt_16 (lt_9 lt_h)))))))))))))) gw_selects
theorem kl_RL_129 : sn_LV RL 129 yX8_clean cX8_clean 3 (some .int) 0 := ⟨sn_lv5 km_RL_129 kin_X8_clean ks_X8_clean ki_RX8 kc_X8_clean, kva_6, kvb_6, kpd_7⟩
theorem kc_X9_clean : Cond.code yX9_clean cX9_clean 1 (some .int) ∈ sn_gw := sn_gwI (lb_6 (lt_16 (lt_16 (lt_15 lt_h)))) gw_code
theorem km_RL_132 : Cond.methodLink RL 132 yX9_clean ∈ sn_gw := sn_gwI (lb_6 (lt_16 (lt_16 (lt_12 lt_h)))) gw_methodLink
theorem kin_X9_clean : Cond.instanceMethod yX9_clean ∈ sn_gw := sn_gwI (lb_6 (lt_16 (lt_16 (lt_13 lt_h)))) gw_instanceMethod
theorem ks_X9_clean : Cond.selects RX9 yX9_clean yX9_clean ∈ sn_gw := sn_gwI (lb_6 (lt_16 (lt_16 (lt_14 lt_h)))) gw_selects
theorem kl_RL_132 : sn_LV RL 132 yX9_clean cX9_clean 1 (some .int) 0 := ⟨sn_lv5 km_RL_132 kin_X9_clean ks_X9_clean ki_RX9 kc_X9_clean, kva_3, kvb_3, kpd_7⟩
theorem kc_X8_spreads : Cond.code yX8_spreads cX8_spreads 4 (some .int) ∈ sn_gw := sn_gwI (lb_2 (lt_16 (lt_16 (lt_16 (lt_16 (lt_16 (lt_16 (lt_16 (lt_16 (lt_16 (lt_16 (lt_16 (lt_16 (lt_14 lt_h)))))))))))))) gw_code
theorem km_RL_133 : Cond.methodLink RL 133 yX8_spreads ∈ sn_gw := sn_gwI (lb_2 (lt_16 (lt_16 (lt_16 (lt_16 (lt_16 (lt_16 (lt_16 (lt_16 (lt_16 (lt_16 (lt_16 (lt_16 (lt_11 lt_h)))))))))))))) gw_methodLink
theorem kin_X8_spreads : Cond.instanceMethod yX8_spreads ∈ sn_gw := sn_gwI (lb_2 (lt_16 (lt_16 (lt_16 (lt_16 (lt_16 (lt_16 (lt_16 (lt_16 (lt_16 (lt_16 (lt_16 (lt_16 (lt_12 lt_h)))))))))))))) gw_instanceMethod
theorem ks_X8_spreads : Cond.selects RX8 yX8_spreads yX8_spreads ∈ sn_gw := sn_gwI (lb_2 (lt_16 (lt_16 (lt_16 (lt_16 (lt_16 (lt_16 (lt_16 (lt_16 (lt_16 (lt_16 (lt_16 (lt_16 (lt_13 lt_h)))))))))))))) gw_selects
theorem kl_RL_133 : sn_LV RL 133 yX8_spreads cX8_spreads 4 (some .int) 1 := ⟨sn_lv5 km_RL_133 kin_X8_spreads ks_X8_spreads ki_RX8 kc_X8_spreads, kva_6, kvb_6, kpd_6⟩
theorem kc_X9_spreads : Cond.code yX9_spreads cX9_spreads 4 (some .int) ∈ sn_gw := sn_gwI (lb_6 (lt_16 (lt_15 lt_h))) gw_code
theorem km_RL_136 : Cond.methodLink RL 136 yX9_spreads ∈ sn_gw := sn_gwI (lb_6 (lt_16 (lt_12 lt_h))) gw_methodLink
theorem kin_X9_spreads : Cond.instanceMethod yX9_spreads ∈ sn_gw := sn_gwI (lb_6 (lt_16 (lt_13 lt_h))) gw_instanceMethod
theorem ks_X9_spreads : Cond.selects RX9 yX9_spreads yX9_spreads ∈ sn_gw := sn_gwI (lb_6 (lt_16 (lt_14 lt_h))) gw_selects
theorem kl_RL_136 : sn_LV RL 136 yX9_spreads cX9_spreads 4 (some .int) 1 := ⟨sn_lv5 km_RL_136 kin_X9_spreads ks_X9_spreads ki_RX9 kc_X9_spreads, kva_3, kvb_3, kpd_6⟩
theorem kc_X8_web : Cond.code yX8_web cX8_web 6 (some .int) ∈ sn_gw := sn_gwI (lb_2 (lt_16 (lt_16 (lt_16 (lt_16 (lt_16 (lt_16 (lt_16 (lt_16 (lt_16 (lt_16 (lt_16 (lt_16 (lt_16 (lt_2 lt_h))))))))))))))) gw_code
theorem km_RL_137 : Cond.methodLink RL 137 yX8_web ∈ sn_gw := sn_gwI (lb_2 (lt_16 (lt_16 (lt_16 (lt_16 (lt_16 (lt_16 (lt_16 (lt_16 (lt_16 (lt_16 (lt_16 (lt_16 (lt_15 lt_h)))))))))))))) gw_methodLink
theorem kin_X8_web : Cond.instanceMethod yX8_web ∈ sn_gw := sn_gwI (lb_2 (lt_16 (lt_16 (lt_16 (lt_16 (lt_16 (lt_16 (lt_16 (lt_16 (lt_16 (lt_16 (lt_16 (lt_16 (lt_16 lt_h)))))))))))))) gw_instanceMethod
theorem ks_X8_web : Cond.selects RX8 yX8_web yX8_web ∈ sn_gw := sn_gwI (lb_2 (lt_16 (lt_16 (lt_16 (lt_16 (lt_16 (lt_16 (lt_16 (lt_16 (lt_16 (lt_16 (lt_16 (lt_16 (lt_16 (lt_1 lt_h))))))))))))))) gw_selects
theorem kl_RL_137 : sn_LV RL 137 yX8_web cX8_web 6 (some .int) 1 := ⟨sn_lv5 km_RL_137 kin_X8_web ks_X8_web ki_RX8 kc_X8_web, kva_6, kvb_6, kpd_6⟩
theorem kc_X9_web : Cond.code yX9_web cX9_web 6 (some .int) ∈ sn_gw := sn_gwI (lb_6 (lt_16 (lt_11 lt_h))) gw_code
theorem km_RL_140 : Cond.methodLink RL 140 yX9_web ∈ sn_gw := sn_gwI (lb_6 (lt_16 (lt_8 lt_h))) gw_methodLink
theorem kin_X9_web : Cond.instanceMethod yX9_web ∈ sn_gw := sn_gwI (lb_6 (lt_16 (lt_9 lt_h))) gw_instanceMethod
theorem ks_X9_web : Cond.selects RX9 yX9_web yX9_web ∈ sn_gw := sn_gwI (lb_6 (lt_16 (lt_10 lt_h))) gw_selects
theorem kl_RL_140 : sn_LV RL 140 yX9_web cX9_web 6 (some .int) 1 := ⟨sn_lv5 km_RL_140 kin_X9_web ks_X9_web ki_RX9 kc_X9_web, kva_3, kvb_3, kpd_6⟩
theorem kc_X8_claim : Cond.code yX8_claim cX8_claim 2 (some .int) ∈ sn_gw := sn_gwI (lb_2 (lt_16 (lt_16 (lt_16 (lt_16 (lt_16 (lt_16 (lt_16 (lt_16 (lt_16 (lt_16 (lt_16 (lt_16 (lt_16 (lt_16 (lt_6 lt_h)))))))))))))))) gw_code
theorem km_RL_141 : Cond.methodLink RL 141 yX8_claim ∈ sn_gw := sn_gwI (lb_2 (lt_16 (lt_16 (lt_16 (lt_16 (lt_16 (lt_16 (lt_16 (lt_16 (lt_16 (lt_16 (lt_16 (lt_16 (lt_16 (lt_16 (lt_3 lt_h)))))))))))))))) gw_methodLink
theorem kin_X8_claim : Cond.instanceMethod yX8_claim ∈ sn_gw := sn_gwI (lb_2 (lt_16 (lt_16 (lt_16 (lt_16 (lt_16 (lt_16 (lt_16 (lt_16 (lt_16 (lt_16 (lt_16 (lt_16 (lt_16 (lt_16 (lt_4 lt_h)))))))))))))))) gw_instanceMethod
theorem ks_X8_claim : Cond.selects RX8 yX8_claim yX8_claim ∈ sn_gw := sn_gwI (lb_2 (lt_16 (lt_16 (lt_16 (lt_16 (lt_16 (lt_16 (lt_16 (lt_16 (lt_16 (lt_16 (lt_16 (lt_16 (lt_16 (lt_16 (lt_5 lt_h)))))))))))))))) gw_selects
theorem kl_RL_141 : sn_LV RL 141 yX8_claim cX8_claim 2 (some .int) 1 := ⟨sn_lv5 km_RL_141 kin_X8_claim ks_X8_claim ki_RX8 kc_X8_claim, kva_6, kvb_6, kpd_6⟩
theorem kc_X9_claim : Cond.code yX9_claim cX9_claim 2 (some .int) ∈ sn_gw := sn_gwI (lb_6 (lt_16 (lt_16 (lt_16 (lt_3 lt_h))))) gw_code
theorem km_RL_144 : Cond.methodLink RL 144 yX9_claim ∈ sn_gw := sn_gwI (lb_6 (lt_16 (lt_16 (lt_16 lt_h)))) gw_methodLink
theorem kin_X9_claim : Cond.instanceMethod yX9_claim ∈ sn_gw := sn_gwI (lb_6 (lt_16 (lt_16 (lt_16 (lt_1 lt_h))))) gw_instanceMethod
theorem ks_X9_claim : Cond.selects RX9 yX9_claim yX9_claim ∈ sn_gw := sn_gwI (lb_6 (lt_16 (lt_16 (lt_16 (lt_2 lt_h))))) gw_selects
theorem kl_RL_144 : sn_LV RL 144 yX9_claim cX9_claim 2 (some .int) 1 := ⟨sn_lv5 km_RL_144 kin_X9_claim ks_X9_claim ki_RX9 kc_X9_claim, kva_3, kvb_3, kpd_6⟩
theorem kc_X8_paid : Cond.code yX8_paid cX8_paid 2 (some .int) ∈ sn_gw := sn_gwI (lb_3 (lt_16 (lt_2 lt_h))) gw_code
theorem km_RL_145 : Cond.methodLink RL 145 yX8_paid ∈ sn_gw := sn_gwI (lb_3 (lt_15 lt_h)) gw_methodLink
theorem kin_X8_paid : Cond.instanceMethod yX8_paid ∈ sn_gw := sn_gwI (lb_3 (lt_16 lt_h)) gw_instanceMethod
theorem ks_X8_paid : Cond.selects RX8 yX8_paid yX8_paid ∈ sn_gw := sn_gwI (lb_3 (lt_16 (lt_1 lt_h))) gw_selects
theorem kl_RL_145 : sn_LV RL 145 yX8_paid cX8_paid 2 (some .int) 1 := ⟨sn_lv5 km_RL_145 kin_X8_paid ks_X8_paid ki_RX8 kc_X8_paid, kva_6, kvb_6, kpd_6⟩
theorem kc_X9_paid : Cond.code yX9_paid cX9_paid 2 (some .int) ∈ sn_gw := sn_gwI (lb_6 (lt_16 (lt_16 (lt_16 (lt_16 (lt_11 lt_h)))))) gw_code
theorem km_RL_148 : Cond.methodLink RL 148 yX9_paid ∈ sn_gw := sn_gwI (lb_6 (lt_16 (lt_16 (lt_16 (lt_16 (lt_8 lt_h)))))) gw_methodLink
theorem kin_X9_paid : Cond.instanceMethod yX9_paid ∈ sn_gw := sn_gwI (lb_6 (lt_16 (lt_16 (lt_16 (lt_16 (lt_9 lt_h)))))) gw_instanceMethod
theorem ks_X9_paid : Cond.selects RX9 yX9_paid yX9_paid ∈ sn_gw := sn_gwI (lb_6 (lt_16 (lt_16 (lt_16 (lt_16 (lt_10 lt_h)))))) gw_selects
theorem kl_RL_148 : sn_LV RL 148 yX9_paid cX9_paid 2 (some .int) 1 := ⟨sn_lv5 km_RL_148 kin_X9_paid ks_X9_paid ki_RX9 kc_X9_paid, kva_3, kvb_3, kpd_6⟩
theorem kc_X8_claims : Cond.code yX8_claims cX8_claims 4 (some .int) ∈ sn_gw := sn_gwI (lb_3 (lt_16 (lt_6 lt_h))) gw_code
theorem km_RL_149 : Cond.methodLink RL 149 yX8_claims ∈ sn_gw := sn_gwI (lb_3 (lt_16 (lt_3 lt_h))) gw_methodLink
theorem kin_X8_claims : Cond.instanceMethod yX8_claims ∈ sn_gw := sn_gwI (lb_3 (lt_16 (lt_4 lt_h))) gw_instanceMethod
theorem ks_X8_claims : Cond.selects RX8 yX8_claims yX8_claims ∈ sn_gw := sn_gwI (lb_3 (lt_16 (lt_5 lt_h))) gw_selects
theorem kl_RL_149 : sn_LV RL 149 yX8_claims cX8_claims 4 (some .int) 0 := ⟨sn_lv5 km_RL_149 kin_X8_claims ks_X8_claims ki_RX8 kc_X8_claims, kva_6, kvb_6, kpd_7⟩
theorem kc_X9_claims : Cond.code yX9_claims cX9_claims 3 (some .int) ∈ sn_gw := sn_gwI (lb_6 (lt_16 (lt_16 (lt_16 (lt_16 (lt_15 lt_h)))))) gw_code
theorem km_RL_152 : Cond.methodLink RL 152 yX9_claims ∈ sn_gw := sn_gwI (lb_6 (lt_16 (lt_16 (lt_16 (lt_16 (lt_12 lt_h)))))) gw_methodLink
theorem kin_X9_claims : Cond.instanceMethod yX9_claims ∈ sn_gw := sn_gwI (lb_6 (lt_16 (lt_16 (lt_16 (lt_16 (lt_13 lt_h)))))) gw_instanceMethod
theorem ks_X9_claims : Cond.selects RX9 yX9_claims yX9_claims ∈ sn_gw := sn_gwI (lb_6 (lt_16 (lt_16 (lt_16 (lt_16 (lt_14 lt_h)))))) gw_selects
theorem kl_RL_152 : sn_LV RL 152 yX9_claims cX9_claims 3 (some .int) 0 := ⟨sn_lv5 km_RL_152 kin_X9_claims ks_X9_claims ki_RX9 kc_X9_claims, kva_3, kvb_3, kpd_7⟩
theorem kc_X8_money : Cond.code yX8_money cX8_money 2 (some .int) ∈ sn_gw := sn_gwI (lb_3 (lt_16 (lt_15 lt_h))) gw_code
theorem km_RL_153 : Cond.methodLink RL 153 yX8_money ∈ sn_gw := sn_gwI (lb_3 (lt_16 (lt_12 lt_h))) gw_methodLink
theorem kin_X8_money : Cond.instanceMethod yX8_money ∈ sn_gw := sn_gwI (lb_3 (lt_16 (lt_13 lt_h))) gw_instanceMethod
theorem ks_X8_money : Cond.selects RX8 yX8_money yX8_money ∈ sn_gw := sn_gwI (lb_3 (lt_16 (lt_14 lt_h))) gw_selects
theorem kl_RL_153 : sn_LV RL 153 yX8_money cX8_money 2 (some .int) 1 := ⟨sn_lv5 km_RL_153 kin_X8_money ks_X8_money ki_RX8 kc_X8_money, kva_6, kvb_6, kpd_6⟩
theorem kc_X9_money : Cond.code yX9_money cX9_money 2 (some .int) ∈ sn_gw := sn_gwI (lb_6 (lt_16 (lt_16 (lt_16 (lt_16 (lt_16 (lt_3 lt_h))))))) gw_code
theorem km_RL_156 : Cond.methodLink RL 156 yX9_money ∈ sn_gw := sn_gwI (lb_6 (lt_16 (lt_16 (lt_16 (lt_16 (lt_16 lt_h)))))) gw_methodLink
theorem kin_X9_money : Cond.instanceMethod yX9_money ∈ sn_gw := sn_gwI (lb_6 (lt_16 (lt_16 (lt_16 (lt_16 (lt_16 (lt_1 lt_h))))))) gw_instanceMethod
theorem ks_X9_money : Cond.selects RX9 yX9_money yX9_money ∈ sn_gw := sn_gwI (lb_6 (lt_16 (lt_16 (lt_16 (lt_16 (lt_16 (lt_2 lt_h))))))) gw_selects
theorem kl_RL_156 : sn_LV RL 156 yX9_money cX9_money 2 (some .int) 1 := ⟨sn_lv5 km_RL_156 kin_X9_money ks_X9_money ki_RX9 kc_X9_money, kva_3, kvb_3, kpd_6⟩
theorem kc_X8_ruin : Cond.code yX8_ruin cX8_ruin 1 (some .int) ∈ sn_gw := sn_gwI (lb_3 (lt_16 (lt_16 (lt_16 lt_h)))) gw_code
theorem km_RL_157 : Cond.methodLink RL 157 yX8_ruin ∈ sn_gw := sn_gwI (lb_3 (lt_16 (lt_16 (lt_13 lt_h)))) gw_methodLink
theorem kin_X8_ruin : Cond.instanceMethod yX8_ruin ∈ sn_gw := sn_gwI (lb_3 (lt_16 (lt_16 (lt_14 lt_h)))) gw_instanceMethod
theorem ks_X8_ruin : Cond.selects RX8 yX8_ruin yX8_ruin ∈ sn_gw := sn_gwI (lb_3 (lt_16 (lt_16 (lt_15 lt_h)))) gw_selects
theorem kl_RL_157 : sn_LV RL 157 yX8_ruin cX8_ruin 1 (some .int) 0 := ⟨sn_lv5 km_RL_157 kin_X8_ruin ks_X8_ruin ki_RX8 kc_X8_ruin, kva_6, kvb_6, kpd_7⟩
theorem kc_X9_ruin : Cond.code yX9_ruin cX9_ruin 1 (some .int) ∈ sn_gw := sn_gwI (lb_6 (lt_16 (lt_16 (lt_16 (lt_16 (lt_16 (lt_16 lt_h))))))) gw_code
theorem km_RL_160 : Cond.methodLink RL 160 yX9_ruin ∈ sn_gw := sn_gwI (lb_6 (lt_16 (lt_16 (lt_16 (lt_16 (lt_16 (lt_13 lt_h))))))) gw_methodLink
theorem kin_X9_ruin : Cond.instanceMethod yX9_ruin ∈ sn_gw := sn_gwI (lb_6 (lt_16 (lt_16 (lt_16 (lt_16 (lt_16 (lt_14 lt_h))))))) gw_instanceMethod
theorem ks_X9_ruin : Cond.selects RX9 yX9_ruin yX9_ruin ∈ sn_gw := sn_gwI (lb_6 (lt_16 (lt_16 (lt_16 (lt_16 (lt_16 (lt_15 lt_h))))))) gw_selects
theorem kl_RL_160 : sn_LV RL 160 yX9_ruin cX9_ruin 1 (some .int) 0 := ⟨sn_lv5 km_RL_160 kin_X9_ruin ks_X9_ruin ki_RX9 kc_X9_ruin, kva_3, kvb_3, kpd_7⟩
theorem kc_X8_dear : Cond.code yX8_dear cX8_dear 6 (some .int) ∈ sn_gw := sn_gwI (lb_3 (lt_16 (lt_16 (lt_16 (lt_8 lt_h))))) gw_code
theorem km_RL_161 : Cond.methodLink RL 161 yX8_dear ∈ sn_gw := sn_gwI (lb_3 (lt_16 (lt_16 (lt_16 (lt_5 lt_h))))) gw_methodLink
theorem kin_X8_dear : Cond.instanceMethod yX8_dear ∈ sn_gw := sn_gwI (lb_3 (lt_16 (lt_16 (lt_16 (lt_6 lt_h))))) gw_instanceMethod
theorem ks_X8_dear : Cond.selects RX8 yX8_dear yX8_dear ∈ sn_gw := sn_gwI (lb_3 (lt_16 (lt_16 (lt_16 (lt_7 lt_h))))) gw_selects
theorem kl_RL_161 : sn_LV RL 161 yX8_dear cX8_dear 6 (some .int) 0 := ⟨sn_lv5 km_RL_161 kin_X8_dear ks_X8_dear ki_RX8 kc_X8_dear, kva_6, kvb_6, kpd_7⟩
theorem kc_X9_dear : Cond.code yX9_dear cX9_dear 5 (some .int) ∈ sn_gw := sn_gwI (lb_6 (lt_16 (lt_16 (lt_16 (lt_16 (lt_16 (lt_16 (lt_16 (lt_16 lt_h))))))))) gw_code
theorem km_RL_164 : Cond.methodLink RL 164 yX9_dear ∈ sn_gw := sn_gwI (lb_6 (lt_16 (lt_16 (lt_16 (lt_16 (lt_16 (lt_16 (lt_16 (lt_13 lt_h))))))))) gw_methodLink
theorem kin_X9_dear : Cond.instanceMethod yX9_dear ∈ sn_gw := sn_gwI (lb_6 (lt_16 (lt_16 (lt_16 (lt_16 (lt_16 (lt_16 (lt_16 (lt_14 lt_h))))))))) gw_instanceMethod
theorem ks_X9_dear : Cond.selects RX9 yX9_dear yX9_dear ∈ sn_gw := sn_gwI (lb_6 (lt_16 (lt_16 (lt_16 (lt_16 (lt_16 (lt_16 (lt_16 (lt_15 lt_h))))))))) gw_selects
theorem kl_RL_164 : sn_LV RL 164 yX9_dear cX9_dear 5 (some .int) 0 := ⟨sn_lv5 km_RL_164 kin_X9_dear ks_X9_dear ki_RX9 kc_X9_dear, kva_3, kvb_3, kpd_7⟩
theorem kc_X8_reserve : Cond.code yX8_reserve cX8_reserve 3 (some .int) ∈ sn_gw := sn_gwI (lb_3 (lt_16 (lt_16 (lt_16 (lt_12 lt_h))))) gw_code
theorem km_RL_165 : Cond.methodLink RL 165 yX8_reserve ∈ sn_gw := sn_gwI (lb_3 (lt_16 (lt_16 (lt_16 (lt_9 lt_h))))) gw_methodLink
theorem kin_X8_reserve : Cond.instanceMethod yX8_reserve ∈ sn_gw := sn_gwI (lb_3 (lt_16 (lt_16 (lt_16 (lt_10 lt_h))))) gw_instanceMethod
theorem ks_X8_reserve : Cond.selects RX8 yX8_reserve yX8_reserve ∈ sn_gw := sn_gwI (lb_3 (lt_16 (lt_16 (lt_16 (lt_11 lt_h))))) gw_selects
theorem kl_RL_165 : sn_LV RL 165 yX8_reserve cX8_reserve 3 (some .int) 0 := ⟨sn_lv5 km_RL_165 kin_X8_reserve ks_X8_reserve ki_RX8 kc_X8_reserve, kva_6, kvb_6, kpd_7⟩
theorem kc_X9_reserve : Cond.code yX9_reserve cX9_reserve 1 (some .int) ∈ sn_gw := sn_gwI (lb_6 (lt_16 (lt_16 (lt_16 (lt_16 (lt_16 (lt_16 (lt_16 (lt_16 (lt_4 lt_h)))))))))) gw_code
theorem km_RL_168 : Cond.methodLink RL 168 yX9_reserve ∈ sn_gw := sn_gwI (lb_6 (lt_16 (lt_16 (lt_16 (lt_16 (lt_16 (lt_16 (lt_16 (lt_16 (lt_1 lt_h)))))))))) gw_methodLink
theorem kin_X9_reserve : Cond.instanceMethod yX9_reserve ∈ sn_gw := sn_gwI (lb_6 (lt_16 (lt_16 (lt_16 (lt_16 (lt_16 (lt_16 (lt_16 (lt_16 (lt_2 lt_h)))))))))) gw_instanceMethod
theorem ks_X9_reserve : Cond.selects RX9 yX9_reserve yX9_reserve ∈ sn_gw := sn_gwI (lb_6 (lt_16 (lt_16 (lt_16 (lt_16 (lt_16 (lt_16 (lt_16 (lt_16 (lt_3 lt_h)))))))))) gw_selects
theorem kl_RL_168 : sn_LV RL 168 yX9_reserve cX9_reserve 1 (some .int) 0 := ⟨sn_lv5 km_RL_168 kin_X9_reserve ks_X9_reserve ki_RX9 kc_X9_reserve, kva_3, kvb_3, kpd_7⟩
theorem kc_X8_by : Cond.code yX8_by cX8_by 2 (some .int) ∈ sn_gw := sn_gwI (lb_3 (lt_16 (lt_16 (lt_16 (lt_16 lt_h))))) gw_code
theorem km_RL_169 : Cond.methodLink RL 169 yX8_by ∈ sn_gw := sn_gwI (lb_3 (lt_16 (lt_16 (lt_16 (lt_13 lt_h))))) gw_methodLink
theorem kin_X8_by : Cond.instanceMethod yX8_by ∈ sn_gw := sn_gwI (lb_3 (lt_16 (lt_16 (lt_16 (lt_14 lt_h))))) gw_instanceMethod
theorem ks_X8_by : Cond.selects RX8 yX8_by yX8_by ∈ sn_gw := sn_gwI (lb_3 (lt_16 (lt_16 (lt_16 (lt_15 lt_h))))) gw_selects
theorem kl_RL_169 : sn_LV RL 169 yX8_by cX8_by 2 (some .int) 1 := ⟨sn_lv5 km_RL_169 kin_X8_by ks_X8_by ki_RX8 kc_X8_by, kva_6, kvb_6, kpd_6⟩
theorem kc_X9_by : Cond.code yX9_by cX9_by 2 (some .int) ∈ sn_gw := sn_gwI (lb_6 (lt_16 (lt_16 (lt_16 (lt_16 (lt_16 (lt_16 (lt_16 (lt_16 (lt_8 lt_h)))))))))) gw_code
theorem km_RL_172 : Cond.methodLink RL 172 yX9_by ∈ sn_gw := sn_gwI (lb_6 (lt_16 (lt_16 (lt_16 (lt_16 (lt_16 (lt_16 (lt_16 (lt_16 (lt_5 lt_h)))))))))) gw_methodLink
theorem kin_X9_by : Cond.instanceMethod yX9_by ∈ sn_gw := sn_gwI (lb_6 (lt_16 (lt_16 (lt_16 (lt_16 (lt_16 (lt_16 (lt_16 (lt_16 (lt_6 lt_h)))))))))) gw_instanceMethod
theorem ks_X9_by : Cond.selects RX9 yX9_by yX9_by ∈ sn_gw := sn_gwI (lb_6 (lt_16 (lt_16 (lt_16 (lt_16 (lt_16 (lt_16 (lt_16 (lt_16 (lt_7 lt_h)))))))))) gw_selects
theorem kl_RL_172 : sn_LV RL 172 yX9_by cX9_by 2 (some .int) 1 := ⟨sn_lv5 km_RL_172 kin_X9_by ks_X9_by ki_RX9 kc_X9_by, kva_3, kvb_3, kpd_6⟩
theorem kc_X8_law : Cond.code yX8_law cX8_law 5 (some .int) ∈ sn_gw := sn_gwI (lb_3 (lt_16 (lt_16 (lt_16 (lt_16 (lt_8 lt_h)))))) gw_code
theorem km_RL_173 : Cond.methodLink RL 173 yX8_law ∈ sn_gw := sn_gwI (lb_3 (lt_16 (lt_16 (lt_16 (lt_16 (lt_5 lt_h)))))) gw_methodLink
theorem kin_X8_law : Cond.instanceMethod yX8_law ∈ sn_gw := sn_gwI (lb_3 (lt_16 (lt_16 (lt_16 (lt_16 (lt_6 lt_h)))))) gw_instanceMethod
theorem ks_X8_law : Cond.selects RX8 yX8_law yX8_law ∈ sn_gw := sn_gwI (lb_3 (lt_16 (lt_16 (lt_16 (lt_16 (lt_7 lt_h)))))) gw_selects
theorem kl_RL_173 : sn_LV RL 173 yX8_law cX8_law 5 (some .int) 0 := ⟨sn_lv5 km_RL_173 kin_X8_law ks_X8_law ki_RX8 kc_X8_law, kva_6, kvb_6, kpd_7⟩
theorem kc_X9_law : Cond.code yX9_law cX9_law 3 (some .int) ∈ sn_gw := sn_gwI (lb_6 (lt_16 (lt_16 (lt_16 (lt_16 (lt_16 (lt_16 (lt_16 (lt_16 (lt_16 (lt_4 lt_h))))))))))) gw_code
theorem km_RL_176 : Cond.methodLink RL 176 yX9_law ∈ sn_gw := sn_gwI (lb_6 (lt_16 (lt_16 (lt_16 (lt_16 (lt_16 (lt_16 (lt_16 (lt_16 (lt_16 (lt_1 lt_h))))))))))) gw_methodLink
theorem kin_X9_law : Cond.instanceMethod yX9_law ∈ sn_gw := sn_gwI (lb_6 (lt_16 (lt_16 (lt_16 (lt_16 (lt_16 (lt_16 (lt_16 (lt_16 (lt_16 (lt_2 lt_h))))))))))) gw_instanceMethod
theorem ks_X9_law : Cond.selects RX9 yX9_law yX9_law ∈ sn_gw := sn_gwI (lb_6 (lt_16 (lt_16 (lt_16 (lt_16 (lt_16 (lt_16 (lt_16 (lt_16 (lt_16 (lt_3 lt_h))))))))))) gw_selects
theorem kl_RL_176 : sn_LV RL 176 yX9_law cX9_law 3 (some .int) 0 := ⟨sn_lv5 km_RL_176 kin_X9_law ks_X9_law ki_RX9 kc_X9_law, kva_3, kvb_3, kpd_7⟩
theorem kc_X8_takes : Cond.code yX8_takes cX8_takes 2 (some .int) ∈ sn_gw := sn_gwI (lb_3 (lt_16 (lt_16 (lt_16 (lt_16 (lt_12 lt_h)))))) gw_code
theorem km_RL_177 : Cond.methodLink RL 177 yX8_takes ∈ sn_gw := sn_gwI (lb_3 (lt_16 (lt_16 (lt_16 (lt_16 (lt_9 lt_h)))))) gw_methodLink
theorem kin_X8_takes : Cond.instanceMethod yX8_takes ∈ sn_gw := sn_gwI (lb_3 (lt_16 (lt_16 (lt_16 (lt_16 (lt_10 lt_h)))))) gw_instanceMethod
theorem ks_X8_takes : Cond.selects RX8 yX8_takes yX8_takes ∈ sn_gw := sn_gwI (lb_3 (lt_16 (lt_16 (lt_16 (lt_16 (lt_11 lt_h)))))) gw_selects
theorem kl_RL_177 : sn_LV RL 177 yX8_takes cX8_takes 2 (some .int) 1 := ⟨sn_lv5 km_RL_177 kin_X8_takes ks_X8_takes ki_RX8 kc_X8_takes, kva_6, kvb_6, kpd_6⟩
theorem kc_X9_takes_ : Cond.code yX9_takes_ cX9_takes_ 2 (some .int) ∈ sn_gw := sn_gwI (lb_6 (lt_16 (lt_16 (lt_16 (lt_16 (lt_16 (lt_16 (lt_16 (lt_16 (lt_16 (lt_8 lt_h))))))))))) gw_code
theorem km_RL_180 : Cond.methodLink RL 180 yX9_takes_ ∈ sn_gw := sn_gwI (lb_6 (lt_16 (lt_16 (lt_16 (lt_16 (lt_16 (lt_16 (lt_16 (lt_16 (lt_16 (lt_5 lt_h))))))))))) gw_methodLink
theorem kin_X9_takes_ : Cond.instanceMethod yX9_takes_ ∈ sn_gw := sn_gwI (lb_6 (lt_16 (lt_16 (lt_16 (lt_16 (lt_16 (lt_16 (lt_16 (lt_16 (lt_16 (lt_6 lt_h))))))))))) gw_instanceMethod
theorem ks_X9_takes_ : Cond.selects RX9 yX9_takes_ yX9_takes_ ∈ sn_gw := sn_gwI (lb_6 (lt_16 (lt_16 (lt_16 (lt_16 (lt_16 (lt_16 (lt_16 (lt_16 (lt_16 (lt_7 lt_h))))))))))) gw_selects
theorem kl_RL_180 : sn_LV RL 180 yX9_takes_ cX9_takes_ 2 (some .int) 1 := ⟨sn_lv5 km_RL_180 kin_X9_takes_ ks_X9_takes_ ki_RX9 kc_X9_takes_, kva_3, kvb_3, kpd_6⟩
theorem kc_X8_gains : Cond.code yX8_gains cX8_gains 3 (some .int) ∈ sn_gw := sn_gwI (lb_3 (lt_16 (lt_16 (lt_16 (lt_16 (lt_16 (lt_13 lt_h))))))) gw_code
theorem km_RL_181 : Cond.methodLink RL 181 yX8_gains ∈ sn_gw := sn_gwI (lb_3 (lt_16 (lt_16 (lt_16 (lt_16 (lt_16 (lt_10 lt_h))))))) gw_methodLink
theorem kin_X8_gains : Cond.instanceMethod yX8_gains ∈ sn_gw := sn_gwI (lb_3 (lt_16 (lt_16 (lt_16 (lt_16 (lt_16 (lt_11 lt_h))))))) gw_instanceMethod
theorem ks_X8_gains : Cond.selects RX8 yX8_gains yX8_gains ∈ sn_gw := sn_gwI (lb_3 (lt_16 (lt_16 (lt_16 (lt_16 (lt_16 (lt_12 lt_h))))))) gw_selects
theorem kl_RL_181 : sn_LV RL 181 yX8_gains cX8_gains 3 (some .int) 1 := ⟨sn_lv5 km_RL_181 kin_X8_gains ks_X8_gains ki_RX8 kc_X8_gains, kva_6, kvb_6, kpd_6⟩
theorem kc_X9_gains : Cond.code yX9_gains cX9_gains 2 (some .int) ∈ sn_gw := sn_gwI (lb_6 (lt_16 (lt_16 (lt_16 (lt_16 (lt_16 (lt_16 (lt_16 (lt_16 (lt_16 (lt_16 lt_h))))))))))) gw_code
theorem km_RL_184 : Cond.methodLink RL 184 yX9_gains ∈ sn_gw := sn_gwI (lb_6 (lt_16 (lt_16 (lt_16 (lt_16 (lt_16 (lt_16 (lt_16 (lt_16 (lt_16 (lt_13 lt_h))))))))))) gw_methodLink
theorem kin_X9_gains : Cond.instanceMethod yX9_gains ∈ sn_gw := sn_gwI (lb_6 (lt_16 (lt_16 (lt_16 (lt_16 (lt_16 (lt_16 (lt_16 (lt_16 (lt_16 (lt_14 lt_h))))))))))) gw_instanceMethod
theorem ks_X9_gains : Cond.selects RX9 yX9_gains yX9_gains ∈ sn_gw := sn_gwI (lb_6 (lt_16 (lt_16 (lt_16 (lt_16 (lt_16 (lt_16 (lt_16 (lt_16 (lt_16 (lt_15 lt_h))))))))))) gw_selects
theorem kl_RL_184 : sn_LV RL 184 yX9_gains cX9_gains 2 (some .int) 1 := ⟨sn_lv5 km_RL_184 kin_X9_gains ks_X9_gains ki_RX9 kc_X9_gains, kva_3, kvb_3, kpd_6⟩
theorem kc_X8_price : Cond.code yX8_price cX8_price 4 (some .int) ∈ sn_gw := sn_gwI (lb_3 (lt_16 (lt_16 (lt_16 (lt_16 (lt_16 (lt_16 (lt_1 lt_h)))))))) gw_code
theorem km_RL_185 : Cond.methodLink RL 185 yX8_price ∈ sn_gw := sn_gwI (lb_3 (lt_16 (lt_16 (lt_16 (lt_16 (lt_16 (lt_14 lt_h))))))) gw_methodLink
theorem kin_X8_price : Cond.instanceMethod yX8_price ∈ sn_gw := sn_gwI (lb_3 (lt_16 (lt_16 (lt_16 (lt_16 (lt_16 (lt_15 lt_h))))))) gw_instanceMethod
theorem ks_X8_price : Cond.selects RX8 yX8_price yX8_price ∈ sn_gw := sn_gwI (lb_3 (lt_16 (lt_16 (lt_16 (lt_16 (lt_16 (lt_16 lt_h))))))) gw_selects
theorem kl_RL_185 : sn_LV RL 185 yX8_price cX8_price 4 (some .int) 1 := ⟨sn_lv5 km_RL_185 kin_X8_price ks_X8_price ki_RX8 kc_X8_price, kva_6, kvb_6, kpd_6⟩
theorem kc_X9_price : Cond.code yX9_price cX9_price 3 (some .int) ∈ sn_gw := sn_gwI (lb_6 (lt_16 (lt_16 (lt_16 (lt_16 (lt_16 (lt_16 (lt_16 (lt_16 (lt_16 (lt_16 (lt_4 lt_h)))))))))))) gw_code
theorem km_RL_188 : Cond.methodLink RL 188 yX9_price ∈ sn_gw := sn_gwI (lb_6 (lt_16 (lt_16 (lt_16 (lt_16 (lt_16 (lt_16 (lt_16 (lt_16 (lt_16 (lt_16 (lt_1 lt_h)))))))))))) gw_methodLink
theorem kin_X9_price : Cond.instanceMethod yX9_price ∈ sn_gw := sn_gwI (lb_6 (lt_16 (lt_16 (lt_16 (lt_16 (lt_16 (lt_16 (lt_16 (lt_16 (lt_16 (lt_16 (lt_2 lt_h)))))))))))) gw_instanceMethod
theorem ks_X9_price : Cond.selects RX9 yX9_price yX9_price ∈ sn_gw := sn_gwI (lb_6 (lt_16 (lt_16 (lt_16 (lt_16 (lt_16 (lt_16 (lt_16 (lt_16 (lt_16 (lt_16 (lt_3 lt_h)))))))))))) gw_selects
theorem kl_RL_188 : sn_LV RL 188 yX9_price cX9_price 3 (some .int) 1 := ⟨sn_lv5 km_RL_188 kin_X9_price ks_X9_price ki_RX9 kc_X9_price, kva_3, kvb_3, kpd_6⟩
theorem kc_X8_hold : Cond.code yX8_hold cX8_hold 2 (some .int) ∈ sn_gw := sn_gwI (lb_3 (lt_16 (lt_16 (lt_16 (lt_16 (lt_16 (lt_16 (lt_9 lt_h)))))))) gw_code
theorem km_RL_189 : Cond.methodLink RL 189 yX8_hold ∈ sn_gw := sn_gwI (lb_3 (lt_16 (lt_16 (lt_16 (lt_16 (lt_16 (lt_16 (lt_6 lt_h)))))))) gw_methodLink
theorem kin_X8_hold : Cond.instanceMethod yX8_hold ∈ sn_gw := sn_gwI (lb_3 (lt_16 (lt_16 (lt_16 (lt_16 (lt_16 (lt_16 (lt_7 lt_h)))))))) gw_instanceMethod
theorem ks_X8_hold : Cond.selects RX8 yX8_hold yX8_hold ∈ sn_gw := sn_gwI (lb_3 (lt_16 (lt_16 (lt_16 (lt_16 (lt_16 (lt_16 (lt_8 lt_h)))))))) gw_selects
theorem kl_RL_189 : sn_LV RL 189 yX8_hold cX8_hold 2 (some .int) 1 := ⟨sn_lv5 km_RL_189 kin_X8_hold ks_X8_hold ki_RX8 kc_X8_hold, kva_6, kvb_6, kpd_6⟩
theorem kc_X9_hold : Cond.code yX9_hold cX9_hold 2 (some .int) ∈ sn_gw := sn_gwI (lb_6 (lt_16 (lt_16 (lt_16 (lt_16 (lt_16 (lt_16 (lt_16 (lt_16 (lt_16 (lt_16 (lt_12 lt_h)))))))))))) gw_code
theorem km_RL_192 : Cond.methodLink RL 192 yX9_hold ∈ sn_gw := sn_gwI (lb_6 (lt_16 (lt_16 (lt_16 (lt_16 (lt_16 (lt_16 (lt_16 (lt_16 (lt_16 (lt_16 (lt_9 lt_h)))))))))))) gw_methodLink
theorem kin_X9_hold : Cond.instanceMethod yX9_hold ∈ sn_gw := sn_gwI (lb_6 (lt_16 (lt_16 (lt_16 (lt_16 (lt_16 (lt_16 (lt_16 (lt_16 (lt_16 (lt_16 (lt_10 lt_h)))))))))))) gw_instanceMethod
theorem ks_X9_hold : Cond.selects RX9 yX9_hold yX9_hold ∈ sn_gw := sn_gwI (lb_6 (lt_16 (lt_16 (lt_16 (lt_16 (lt_16 (lt_16 (lt_16 (lt_16 (lt_16 (lt_16 (lt_11 lt_h)))))))))))) gw_selects
theorem kl_RL_192 : sn_LV RL 192 yX9_hold cX9_hold 2 (some .int) 1 := ⟨sn_lv5 km_RL_192 kin_X9_hold ks_X9_hold ki_RX9 kc_X9_hold, kva_3, kvb_3, kpd_6⟩
theorem kc_X8_holds : Cond.code yX8_holds cX8_holds 2 (some .int) ∈ sn_gw := sn_gwI (lb_3 (lt_16 (lt_16 (lt_16 (lt_16 (lt_16 (lt_16 (lt_16 (lt_16 (lt_4 lt_h)))))))))) gw_code
theorem km_RL_193 : Cond.methodLink RL 193 yX8_holds ∈ sn_gw := sn_gwI (lb_3 (lt_16 (lt_16 (lt_16 (lt_16 (lt_16 (lt_16 (lt_16 (lt_16 (lt_1 lt_h)))))))))) gw_methodLink
theorem kin_X8_holds : Cond.instanceMethod yX8_holds ∈ sn_gw := sn_gwI (lb_3 (lt_16 (lt_16 (lt_16 (lt_16 (lt_16 (lt_16 (lt_16 (lt_16 (lt_2 lt_h)))))))))) gw_instanceMethod
theorem ks_X8_holds : Cond.selects RX8 yX8_holds yX8_holds ∈ sn_gw := sn_gwI (lb_3 (lt_16 (lt_16 (lt_16 (lt_16 (lt_16 (lt_16 (lt_16 (lt_16 (lt_3 lt_h)))))))))) gw_selects
theorem kl_RL_193 : sn_LV RL 193 yX8_holds cX8_holds 2 (some .int) 1 := ⟨sn_lv5 km_RL_193 kin_X8_holds ks_X8_holds ki_RX8 kc_X8_holds, kva_6, kvb_6, kpd_6⟩
theorem kc_X9_holds : Cond.code yX9_holds cX9_holds 2 (some .int) ∈ sn_gw := sn_gwI (lb_6 (lt_16 (lt_16 (lt_16 (lt_16 (lt_16 (lt_16 (lt_16 (lt_16 (lt_16 (lt_16 (lt_16 (lt_12 lt_h))))))))))))) gw_code
theorem km_RL_196 : Cond.methodLink RL 196 yX9_holds ∈ sn_gw := sn_gwI (lb_6 (lt_16 (lt_16 (lt_16 (lt_16 (lt_16 (lt_16 (lt_16 (lt_16 (lt_16 (lt_16 (lt_16 (lt_9 lt_h))))))))))))) gw_methodLink
theorem kin_X9_holds : Cond.instanceMethod yX9_holds ∈ sn_gw := sn_gwI (lb_6 (lt_16 (lt_16 (lt_16 (lt_16 (lt_16 (lt_16 (lt_16 (lt_16 (lt_16 (lt_16 (lt_16 (lt_10 lt_h))))))))))))) gw_instanceMethod
theorem ks_X9_holds : Cond.selects RX9 yX9_holds yX9_holds ∈ sn_gw := sn_gwI (lb_6 (lt_16 (lt_16 (lt_16 (lt_16 (lt_16 (lt_16 (lt_16 (lt_16 (lt_16 (lt_16 (lt_16 (lt_11 lt_h))))))))))))) gw_selects
theorem kl_RL_196 : sn_LV RL 196 yX9_holds cX9_holds 2 (some .int) 1 := ⟨sn_lv5 km_RL_196 kin_X9_holds ks_X9_holds ki_RX9 kc_X9_holds, kva_3, kvb_3, kpd_6⟩
theorem kc_X8_snuff : Cond.code yX8_snuff cX8_snuff 2 (some .int) ∈ sn_gw := sn_gwI (lb_3 (lt_16 (lt_16 (lt_16 (lt_16 (lt_16 (lt_16 (lt_16 (lt_16 (lt_12 lt_h)))))))))) gw_code
theorem km_RL_197 : Cond.methodLink RL 197 yX8_snuff ∈ sn_gw := sn_gwI (lb_3 (lt_16 (lt_16 (lt_16 (lt_16 (lt_16 (lt_16 (lt_16 (lt_16 (lt_9 lt_h)))))))))) gw_methodLink
theorem kin_X8_snuff : Cond.instanceMethod yX8_snuff ∈ sn_gw := sn_gwI (lb_3 (lt_16 (lt_16 (lt_16 (lt_16 (lt_16 (lt_16 (lt_16 (lt_16 (lt_10 lt_h)))))))))) gw_instanceMethod
theorem ks_X8_snuff : Cond.selects RX8 yX8_snuff yX8_snuff ∈ sn_gw := sn_gwI (lb_3 (lt_16 (lt_16 (lt_16 (lt_16 (lt_16 (lt_16 (lt_16 (lt_16 (lt_11 lt_h)))))))))) gw_selects
theorem kl_RL_197 : sn_LV RL 197 yX8_snuff cX8_snuff 2 (some .int) 1 := ⟨sn_lv5 km_RL_197 kin_X8_snuff ks_X8_snuff ki_RX8 kc_X8_snuff, kva_6, kvb_6, kpd_6⟩
theorem kc_X9_snuff : Cond.code yX9_snuff cX9_snuff 2 (some .int) ∈ sn_gw := sn_gwI (lb_6 (lt_16 (lt_16 (lt_16 (lt_16 (lt_16 (lt_16 (lt_16 (lt_16 (lt_16 (lt_16 (lt_16 (lt_16 lt_h))))))))))))) gw_code
theorem km_RL_200 : Cond.methodLink RL 200 yX9_snuff ∈ sn_gw := sn_gwI (lb_6 (lt_16 (lt_16 (lt_16 (lt_16 (lt_16 (lt_16 (lt_16 (lt_16 (lt_16 (lt_16 (lt_16 (lt_13 lt_h))))))))))))) gw_methodLink
theorem kin_X9_snuff : Cond.instanceMethod yX9_snuff ∈ sn_gw := sn_gwI (lb_6 (lt_16 (lt_16 (lt_16 (lt_16 (lt_16 (lt_16 (lt_16 (lt_16 (lt_16 (lt_16 (lt_16 (lt_14 lt_h))))))))))))) gw_instanceMethod
theorem ks_X9_snuff : Cond.selects RX9 yX9_snuff yX9_snuff ∈ sn_gw := sn_gwI (lb_6 (lt_16 (lt_16 (lt_16 (lt_16 (lt_16 (lt_16 (lt_16 (lt_16 (lt_16 (lt_16 (lt_16 (lt_15 lt_h))))))))))))) gw_selects
theorem kl_RL_200 : sn_LV RL 200 yX9_snuff cX9_snuff 2 (some .int) 1 := ⟨sn_lv5 km_RL_200 kin_X9_snuff ks_X9_snuff ki_RX9 kc_X9_snuff, kva_3, kvb_3, kpd_6⟩
theorem kc_X8_frauds : Cond.code yX8_frauds cX8_frauds 2 (some .int) ∈ sn_gw := sn_gwI (lb_3 (lt_16 (lt_16 (lt_16 (lt_16 (lt_16 (lt_16 (lt_16 (lt_16 (lt_16 (lt_5 lt_h))))))))))) gw_code
theorem km_RL_201 : Cond.methodLink RL 201 yX8_frauds ∈ sn_gw := sn_gwI (lb_3 (lt_16 (lt_16 (lt_16 (lt_16 (lt_16 (lt_16 (lt_16 (lt_16 (lt_16 (lt_2 lt_h))))))))))) gw_methodLink
theorem kin_X8_frauds : Cond.instanceMethod yX8_frauds ∈ sn_gw := sn_gwI (lb_3 (lt_16 (lt_16 (lt_16 (lt_16 (lt_16 (lt_16 (lt_16 (lt_16 (lt_16 (lt_3 lt_h))))))))))) gw_instanceMethod
theorem ks_X8_frauds : Cond.selects RX8 yX8_frauds yX8_frauds ∈ sn_gw := sn_gwI (lb_3 (lt_16 (lt_16 (lt_16 (lt_16 (lt_16 (lt_16 (lt_16 (lt_16 (lt_16 (lt_4 lt_h))))))))))) gw_selects
theorem kl_RL_201 : sn_LV RL 201 yX8_frauds cX8_frauds 2 (some .int) 1 := ⟨sn_lv5 km_RL_201 kin_X8_frauds ks_X8_frauds ki_RX8 kc_X8_frauds, kva_6, kvb_6, kpd_6⟩
theorem kc_X9_frauds : Cond.code yX9_frauds cX9_frauds 2 (some .int) ∈ sn_gw := sn_gwI (lb_6 (lt_16 (lt_16 (lt_16 (lt_16 (lt_16 (lt_16 (lt_16 (lt_16 (lt_16 (lt_16 (lt_16 (lt_16 (lt_8 lt_h)))))))))))))) gw_code
theorem km_RL_204 : Cond.methodLink RL 204 yX9_frauds ∈ sn_gw := sn_gwI (lb_6 (lt_16 (lt_16 (lt_16 (lt_16 (lt_16 (lt_16 (lt_16 (lt_16 (lt_16 (lt_16 (lt_16 (lt_16 (lt_5 lt_h)))))))))))))) gw_methodLink
theorem kin_X9_frauds : Cond.instanceMethod yX9_frauds ∈ sn_gw := sn_gwI (lb_6 (lt_16 (lt_16 (lt_16 (lt_16 (lt_16 (lt_16 (lt_16 (lt_16 (lt_16 (lt_16 (lt_16 (lt_16 (lt_6 lt_h)))))))))))))) gw_instanceMethod
theorem ks_X9_frauds : Cond.selects RX9 yX9_frauds yX9_frauds ∈ sn_gw := sn_gwI (lb_6 (lt_16 (lt_16 (lt_16 (lt_16 (lt_16 (lt_16 (lt_16 (lt_16 (lt_16 (lt_16 (lt_16 (lt_16 (lt_7 lt_h)))))))))))))) gw_selects
theorem kl_RL_204 : sn_LV RL 204 yX9_frauds cX9_frauds 2 (some .int) 1 := ⟨sn_lv5 km_RL_204 kin_X9_frauds ks_X9_frauds ki_RX9 kc_X9_frauds, kva_3, kvb_3, kpd_6⟩
theorem kc_X8_which : Cond.code yX8_which cX8_which 3 (some .int) ∈ sn_gw := sn_gwI (lb_3 (lt_16 (lt_16 (lt_16 (lt_16 (lt_16 (lt_16 (lt_16 (lt_16 (lt_16 (lt_9 lt_h))))))))))) gw_code
theorem km_RL_205 : Cond.methodLink RL 205 yX8_which ∈ sn_gw := sn_gwI (lb_3 (lt_16 (lt_16 (lt_16 (lt_16 (lt_16 (lt_16 (lt_16 (lt_16 (lt_16 (lt_6 lt_h))))))))))) gw_methodLink
theorem kin_X8_which : Cond.instanceMethod yX8_which ∈ sn_gw := sn_gwI (lb_3 (lt_16 (lt_16 (lt_16 (lt_16 (lt_16 (lt_16 (lt_16 (lt_16 (lt_16 (lt_7 lt_h))))))))))) gw_instanceMethod
theorem ks_X8_which : Cond.selects RX8 yX8_which yX8_which ∈ sn_gw := sn_gwI (lb_3 (lt_16 (lt_16 (lt_16 (lt_16 (lt_16 (lt_16 (lt_16 (lt_16 (lt_16 (lt_8 lt_h))))))))))) gw_selects
theorem kl_RL_205 : sn_LV RL 205 yX8_which cX8_which 3 (some .int) 1 := ⟨sn_lv5 km_RL_205 kin_X8_which ks_X8_which ki_RX8 kc_X8_which, kva_6, kvb_6, kpd_6⟩
theorem kc_X9_which : Cond.code yX9_which cX9_which 3 (some .int) ∈ sn_gw := sn_gwI (lb_6 (lt_16 (lt_16 (lt_16 (lt_16 (lt_16 (lt_16 (lt_16 (lt_16 (lt_16 (lt_16 (lt_16 (lt_16 (lt_12 lt_h)))))))))))))) gw_code
theorem km_RL_208 : Cond.methodLink RL 208 yX9_which ∈ sn_gw := sn_gwI (lb_6 (lt_16 (lt_16 (lt_16 (lt_16 (lt_16 (lt_16 (lt_16 (lt_16 (lt_16 (lt_16 (lt_16 (lt_16 (lt_9 lt_h)))))))))))))) gw_methodLink
theorem kin_X9_which : Cond.instanceMethod yX9_which ∈ sn_gw := sn_gwI (lb_6 (lt_16 (lt_16 (lt_16 (lt_16 (lt_16 (lt_16 (lt_16 (lt_16 (lt_16 (lt_16 (lt_16 (lt_16 (lt_10 lt_h)))))))))))))) gw_instanceMethod
theorem ks_X9_which : Cond.selects RX9 yX9_which yX9_which ∈ sn_gw := sn_gwI (lb_6 (lt_16 (lt_16 (lt_16 (lt_16 (lt_16 (lt_16 (lt_16 (lt_16 (lt_16 (lt_16 (lt_16 (lt_16 (lt_11 lt_h)))))))))))))) gw_selects
theorem kl_RL_208 : sn_LV RL 208 yX9_which cX9_which 3 (some .int) 1 := ⟨sn_lv5 km_RL_208 kin_X9_which ks_X9_which ki_RX9 kc_X9_which, kva_3, kvb_3, kpd_6⟩
theorem kc_X8_when : Cond.code yX8_when cX8_when 3 (some .int) ∈ sn_gw := sn_gwI (lb_3 (lt_16 (lt_16 (lt_16 (lt_16 (lt_16 (lt_16 (lt_16 (lt_16 (lt_16 (lt_16 (lt_16 (lt_13 lt_h))))))))))))) gw_code
theorem km_RL_209 : Cond.methodLink RL 209 yX8_when ∈ sn_gw := sn_gwI (lb_3 (lt_16 (lt_16 (lt_16 (lt_16 (lt_16 (lt_16 (lt_16 (lt_16 (lt_16 (lt_16 (lt_16 (lt_10 lt_h))))))))))))) gw_methodLink
theorem kin_X8_when : Cond.instanceMethod yX8_when ∈ sn_gw := sn_gwI (lb_3 (lt_16 (lt_16 (lt_16 (lt_16 (lt_16 (lt_16 (lt_16 (lt_16 (lt_16 (lt_16 (lt_16 (lt_11 lt_h))))))))))))) gw_instanceMethod
theorem ks_X8_when : Cond.selects RX8 yX8_when yX8_when ∈ sn_gw := sn_gwI (lb_3 (lt_16 (lt_16 (lt_16 (lt_16 (lt_16 (lt_16 (lt_16 (lt_16 (lt_16 (lt_16 (lt_16 (lt_12 lt_h))))))))))))) gw_selects
theorem kl_RL_209 : sn_LV RL 209 yX8_when cX8_when 3 (some .int) 1 := ⟨sn_lv5 km_RL_209 kin_X8_when ks_X8_when ki_RX8 kc_X8_when, kva_6, kvb_6, kpd_6⟩
theorem kc_X9_when : Cond.code yX9_when cX9_when 5 (some .int) ∈ sn_gw := sn_gwI (lb_6 (lt_16 (lt_16 (lt_16 (lt_16 (lt_16 (lt_16 (lt_16 (lt_16 (lt_16 (lt_16 (lt_16 (lt_16 (lt_16 (lt_11 lt_h))))))))))))))) gw_code
theorem km_RL_212 : Cond.methodLink RL 212 yX9_when ∈ sn_gw := sn_gwI (lb_6 (lt_16 (lt_16 (lt_16 (lt_16 (lt_16 (lt_16 (lt_16 (lt_16 (lt_16 (lt_16 (lt_16 (lt_16 (lt_16 (lt_8 lt_h))))))))))))))) gw_methodLink
theorem kin_X9_when : Cond.instanceMethod yX9_when ∈ sn_gw := sn_gwI (lb_6 (lt_16 (lt_16 (lt_16 (lt_16 (lt_16 (lt_16 (lt_16 (lt_16 (lt_16 (lt_16 (lt_16 (lt_16 (lt_16 (lt_9 lt_h))))))))))))))) gw_instanceMethod
theorem ks_X9_when : Cond.selects RX9 yX9_when yX9_when ∈ sn_gw := sn_gwI (lb_6 (lt_16 (lt_16 (lt_16 (lt_16 (lt_16 (lt_16 (lt_16 (lt_16 (lt_16 (lt_16 (lt_16 (lt_16 (lt_16 (lt_10 lt_h))))))))))))))) gw_selects
theorem kl_RL_212 : sn_LV RL 212 yX9_when cX9_when 5 (some .int) 1 := ⟨sn_lv5 km_RL_212 kin_X9_when ks_X9_when ki_RX9 kc_X9_when, kva_3, kvb_3, kpd_6⟩
theorem kc_X8_gust : Cond.code yX8_gust cX8_gust 3 (some .int) ∈ sn_gw := sn_gwI (lb_3 (lt_16 (lt_16 (lt_16 (lt_16 (lt_16 (lt_16 (lt_16 (lt_16 (lt_16 (lt_16 (lt_16 (lt_16 (lt_1 lt_h)))))))))))))) gw_code
theorem km_RL_213 : Cond.methodLink RL 213 yX8_gust ∈ sn_gw := sn_gwI (lb_3 (lt_16 (lt_16 (lt_16 (lt_16 (lt_16 (lt_16 (lt_16 (lt_16 (lt_16 (lt_16 (lt_16 (lt_14 lt_h))))))))))))) gw_methodLink
theorem kin_X8_gust : Cond.instanceMethod yX8_gust ∈ sn_gw := sn_gwI (lb_3 (lt_16 (lt_16 (lt_16 (lt_16 (lt_16 (lt_16 (lt_16 (lt_16 (lt_16 (lt_16 (lt_16 (lt_15 lt_h))))))))))))) gw_instanceMethod
theorem ks_X8_gust : Cond.selects RX8 yX8_gust yX8_gust ∈ sn_gw := sn_gwI (lb_3 (lt_16 (lt_16 (lt_16 (lt_16 (lt_16 (lt_16 (lt_16 (lt_16 (lt_16 (lt_16 (lt_16 (lt_16 lt_h))))))))))))) gw_selects
theorem kl_RL_213 : sn_LV RL 213 yX8_gust cX8_gust 3 (some .int) 1 := ⟨sn_lv5 km_RL_213 kin_X8_gust ks_X8_gust ki_RX8 kc_X8_gust, kva_6, kvb_6, kpd_6⟩
theorem kc_X9_gust : Cond.code yX9_gust cX9_gust 3 (some .int) ∈ sn_gw := sn_gwI (lb_6 (lt_16 (lt_16 (lt_16 (lt_16 (lt_16 (lt_16 (lt_16 (lt_16 (lt_16 (lt_16 (lt_16 (lt_16 (lt_16 (lt_15 lt_h))))))))))))))) gw_code
theorem km_RL_216 : Cond.methodLink RL 216 yX9_gust ∈ sn_gw := sn_gwI (lb_6 (lt_16 (lt_16 (lt_16 (lt_16 (lt_16 (lt_16 (lt_16 (lt_16 (lt_16 (lt_16 (lt_16 (lt_16 (lt_16 (lt_12 lt_h))))))))))))))) gw_methodLink
theorem kin_X9_gust : Cond.instanceMethod yX9_gust ∈ sn_gw := sn_gwI (lb_6 (lt_16 (lt_16 (lt_16 (lt_16 (lt_16 (lt_16 (lt_16 (lt_16 (lt_16 (lt_16 (lt_16 (lt_16 (lt_16 (lt_13 lt_h))))))))))))))) gw_instanceMethod
theorem ks_X9_gust : Cond.selects RX9 yX9_gust yX9_gust ∈ sn_gw := sn_gwI (lb_6 (lt_16 (lt_16 (lt_16 (lt_16 (lt_16 (lt_16 (lt_16 (lt_16 (lt_16 (lt_16 (lt_16 (lt_16 (lt_16 (lt_14 lt_h))))))))))))))) gw_selects
theorem kl_RL_216 : sn_LV RL 216 yX9_gust cX9_gust 3 (some .int) 1 := ⟨sn_lv5 km_RL_216 kin_X9_gust ks_X9_gust ki_RX9 kc_X9_gust, kva_3, kvb_3, kpd_6⟩
theorem kc_X8_ask : Cond.code yX8_ask cX8_ask 3 (some .int) ∈ sn_gw := sn_gwI (lb_3 (lt_16 (lt_16 (lt_16 (lt_16 (lt_16 (lt_16 (lt_16 (lt_16 (lt_16 (lt_16 (lt_16 (lt_16 (lt_5 lt_h)))))))))))))) gw_code
theorem km_RL_217 : Cond.methodLink RL 217 yX8_ask ∈ sn_gw := sn_gwI (lb_3 (lt_16 (lt_16 (lt_16 (lt_16 (lt_16 (lt_16 (lt_16 (lt_16 (lt_16 (lt_16 (lt_16 (lt_16 (lt_2 lt_h)))))))))))))) gw_methodLink
theorem kin_X8_ask : Cond.instanceMethod yX8_ask ∈ sn_gw := sn_gwI (lb_3 (lt_16 (lt_16 (lt_16 (lt_16 (lt_16 (lt_16 (lt_16 (lt_16 (lt_16 (lt_16 (lt_16 (lt_16 (lt_3 lt_h)))))))))))))) gw_instanceMethod
theorem ks_X8_ask : Cond.selects RX8 yX8_ask yX8_ask ∈ sn_gw := sn_gwI (lb_3 (lt_16 (lt_16 (lt_16 (lt_16 (lt_16 (lt_16 (lt_16 (lt_16 (lt_16 (lt_16 (lt_16 (lt_16 (lt_4 lt_h)))))))))))))) gw_selects
theorem kl_RL_217 : sn_LV RL 217 yX8_ask cX8_ask 3 (some .int) 1 := ⟨sn_lv5 km_RL_217 kin_X8_ask ks_X8_ask ki_RX8 kc_X8_ask, kva_6, kvb_6, kpd_6⟩
theorem kc_X9_ask : Cond.code yX9_ask cX9_ask 3 (some .int) ∈ sn_gw := sn_gwI (lb_6 (lt_16 (lt_16 (lt_16 (lt_16 (lt_16 (lt_16 (lt_16 (lt_16 (lt_16 (lt_16 (lt_16 (lt_16 (lt_16 (lt_16 (lt_3 lt_h)))))))))))))))) gw_code
theorem km_RL_220 : Cond.methodLink RL 220 yX9_ask ∈ sn_gw := sn_gwI (lb_6 (lt_16 (lt_16 (lt_16 (lt_16 (lt_16 (lt_16 (lt_16 (lt_16 (lt_16 (lt_16 (lt_16 (lt_16 (lt_16 (lt_16 lt_h))))))))))))))) gw_methodLink
theorem kin_X9_ask : Cond.instanceMethod yX9_ask ∈ sn_gw := sn_gwI (lb_6 (lt_16 (lt_16 (lt_16 (lt_16 (lt_16 (lt_16 (lt_16 (lt_16 (lt_16 (lt_16 (lt_16 (lt_16 (lt_16 (lt_16 (lt_1 lt_h)))))))))))))))) gw_instanceMethod
theorem ks_X9_ask : Cond.selects RX9 yX9_ask yX9_ask ∈ sn_gw := sn_gwI (lb_6 (lt_16 (lt_16 (lt_16 (lt_16 (lt_16 (lt_16 (lt_16 (lt_16 (lt_16 (lt_16 (lt_16 (lt_16 (lt_16 (lt_16 (lt_2 lt_h)))))))))))))))) gw_selects
theorem kl_RL_220 : sn_LV RL 220 yX9_ask cX9_ask 3 (some .int) 1 := ⟨sn_lv5 km_RL_220 kin_X9_ask ks_X9_ask ki_RX9 kc_X9_ask, kva_3, kvb_3, kpd_6⟩
theorem kc_X8_leaves : Cond.code yX8_leaves cX8_leaves 4 (some .int) ∈ sn_gw := sn_gwI (lb_3 (lt_16 (lt_16 (lt_16 (lt_16 (lt_16 (lt_16 (lt_16 (lt_16 (lt_16 (lt_16 (lt_16 (lt_16 (lt_16 (lt_2 lt_h))))))))))))))) gw_code
theorem km_RL_221 : Cond.methodLink RL 221 yX8_leaves ∈ sn_gw := sn_gwI (lb_3 (lt_16 (lt_16 (lt_16 (lt_16 (lt_16 (lt_16 (lt_16 (lt_16 (lt_16 (lt_16 (lt_16 (lt_16 (lt_15 lt_h)))))))))))))) gw_methodLink
theorem kin_X8_leaves : Cond.instanceMethod yX8_leaves ∈ sn_gw := sn_gwI (lb_3 (lt_16 (lt_16 (lt_16 (lt_16 (lt_16 (lt_16 (lt_16 (lt_16 (lt_16 (lt_16 (lt_16 (lt_16 (lt_16 lt_h)))))))))))))) gw_instanceMethod
theorem ks_X8_leaves : Cond.selects RX8 yX8_leaves yX8_leaves ∈ sn_gw := sn_gwI (lb_3 (lt_16 (lt_16 (lt_16 (lt_16 (lt_16 (lt_16 (lt_16 (lt_16 (lt_16 (lt_16 (lt_16 (lt_16 (lt_16 (lt_1 lt_h))))))))))))))) gw_selects
theorem kl_RL_221 : sn_LV RL 221 yX8_leaves cX8_leaves 4 (some .int) 1 := ⟨sn_lv5 km_RL_221 kin_X8_leaves ks_X8_leaves ki_RX8 kc_X8_leaves, kva_6, kvb_6, kpd_6⟩
theorem kc_X9_leaves : Cond.code yX9_leaves cX9_leaves 3 (some .int) ∈ sn_gw := sn_gwI (lb_6 (lt_16 (lt_16 (lt_16 (lt_16 (lt_16 (lt_16 (lt_16 (lt_16 (lt_16 (lt_16 (lt_16 (lt_16 (lt_16 (lt_16 (lt_11 lt_h)))))))))))))))) gw_code
theorem km_RL_224 : Cond.methodLink RL 224 yX9_leaves ∈ sn_gw := sn_gwI (lb_6 (lt_16 (lt_16 (lt_16 (lt_16 (lt_16 (lt_16 (lt_16 (lt_16 (lt_16 (lt_16 (lt_16 (lt_16 (lt_16 (lt_16 (lt_8 lt_h)))))))))))))))) gw_methodLink
theorem kin_X9_leaves : Cond.instanceMethod yX9_leaves ∈ sn_gw := sn_gwI (lb_6 (lt_16 (lt_16 (lt_16 (lt_16 (lt_16 (lt_16 (lt_16 (lt_16 (lt_16 (lt_16 (lt_16 (lt_16 (lt_16 (lt_16 (lt_9 lt_h)))))))))))))))) gw_instanceMethod
theorem ks_X9_leaves : Cond.selects RX9 yX9_leaves yX9_leaves ∈ sn_gw := sn_gwI (lb_6 (lt_16 (lt_16 (lt_16 (lt_16 (lt_16 (lt_16 (lt_16 (lt_16 (lt_16 (lt_16 (lt_16 (lt_16 (lt_16 (lt_16 (lt_10 lt_h)))))))))))))))) gw_selects
theorem kl_RL_224 : sn_LV RL 224 yX9_leaves cX9_leaves 3 (some .int) 1 := ⟨sn_lv5 km_RL_224 kin_X9_leaves ks_X9_leaves ki_RX9 kc_X9_leaves, kva_3, kvb_3, kpd_6⟩
theorem kc_X8_rests : Cond.code yX8_rests cX8_rests 7 (some .int) ∈ sn_gw := sn_gwI (lb_3 (lt_16 (lt_16 (lt_16 (lt_16 (lt_16 (lt_16 (lt_16 (lt_16 (lt_16 (lt_16 (lt_16 (lt_16 (lt_16 (lt_7 lt_h))))))))))))))) gw_code
theorem km_RL_225 : Cond.methodLink RL 225 yX8_rests ∈ sn_gw := sn_gwI (lb_3 (lt_16 (lt_16 (lt_16 (lt_16 (lt_16 (lt_16 (lt_16 (lt_16 (lt_16 (lt_16 (lt_16 (lt_16 (lt_16 (lt_4 lt_h))))))))))))))) gw_methodLink
theorem kin_X8_rests : Cond.instanceMethod yX8_rests ∈ sn_gw := sn_gwI (lb_3 (lt_16 (lt_16 (lt_16 (lt_16 (lt_16 (lt_16 (lt_16 (lt_16 (lt_16 (lt_16 (lt_16 (lt_16 (lt_16 (lt_5 lt_h))))))))))))))) gw_instanceMethod
theorem ks_X8_rests : Cond.selects RX8 yX8_rests yX8_rests ∈ sn_gw := sn_gwI (lb_3 (lt_16 (lt_16 (lt_16 (lt_16 (lt_16 (lt_16 (lt_16 (lt_16 (lt_16 (lt_16 (lt_16 (lt_16 (lt_16 (lt_6 lt_h))))))))))))))) gw_selects
theorem kl_RL_225 : sn_LV RL 225 yX8_rests cX8_rests 7 (some .int) 2 := ⟨sn_lv5 km_RL_225 kin_X8_rests ks_X8_rests ki_RX8 kc_X8_rests, kva_6, kvb_6, kpd_13⟩
theorem kc_X9_rests : Cond.code yX9_rests cX9_rests 8 (some .int) ∈ sn_gw := sn_gwI (lb_6 (lt_16 (lt_16 (lt_16 (lt_16 (lt_16 (lt_16 (lt_16 (lt_16 (lt_16 (lt_16 (lt_16 (lt_16 (lt_16 (lt_16 (lt_15 lt_h)))))))))))))))) gw_code
theorem km_RL_228 : Cond.methodLink RL 228 yX9_rests ∈ sn_gw := sn_gwI (lb_6 (lt_16 (lt_16 (lt_16 (lt_16 (lt_16 (lt_16 (lt_16 (lt_16 (lt_16 (lt_16 (lt_16 (lt_16 (lt_16 (lt_16 (lt_12 lt_h)))))))))))))))) gw_methodLink
theorem kin_X9_rests : Cond.instanceMethod yX9_rests ∈ sn_gw := sn_gwI (lb_6 (lt_16 (lt_16 (lt_16 (lt_16 (lt_16 (lt_16 (lt_16 (lt_16 (lt_16 (lt_16 (lt_16 (lt_16 (lt_16 (lt_16 (lt_13 lt_h)))))))))))))))) gw_instanceMethod
theorem ks_X9_rests : Cond.selects RX9 yX9_rests yX9_rests ∈ sn_gw := sn_gwI (lb_6 (lt_16 (lt_16 (lt_16 (lt_16 (lt_16 (lt_16 (lt_16 (lt_16 (lt_16 (lt_16 (lt_16 (lt_16 (lt_16 (lt_16 (lt_14 lt_h)))))))))))))))) gw_selects
theorem kl_RL_228 : sn_LV RL 228 yX9_rests cX9_rests 8 (some .int) 2 := ⟨sn_lv5 km_RL_228 kin_X9_rests ks_X9_rests ki_RX9 kc_X9_rests, kva_3, kvb_3, kpd_13⟩
theorem kc_X8_loses : Cond.code yX8_loses cX8_loses 5 (some .int) ∈ sn_gw := sn_gwI (lb_3 (lt_16 (lt_16 (lt_16 (lt_16 (lt_16 (lt_16 (lt_16 (lt_16 (lt_16 (lt_16 (lt_16 (lt_16 (lt_16 (lt_15 lt_h))))))))))))))) gw_code
theorem km_RL_229 : Cond.methodLink RL 229 yX8_loses ∈ sn_gw := sn_gwI (lb_3 (lt_16 (lt_16 (lt_16 (lt_16 (lt_16 (lt_16 (lt_16 (lt_16 (lt_16 (lt_16 (lt_16 (lt_16 (lt_16 (lt_12 lt_h))))))))))))))) gw_methodLink
theorem kin_X8_loses : Cond.instanceMethod yX8_loses ∈ sn_gw := sn_gwI (lb_3 (lt_16 (lt_16 (lt_16 (lt_16 (lt_16 (lt_16 (lt_16 (lt_16 (lt_16 (lt_16 (lt_16 (lt_16 (lt_16 (lt_13 lt_h))))))))))))))) gw_instanceMethod
theorem ks_X8_loses : Cond.selects RX8 yX8_loses yX8_loses ∈ sn_gw := sn_gwI (lb_3 (lt_16 (lt_16 (lt_16 (lt_16 (lt_16 (lt_16 (lt_16 (lt_16 (lt_16 (lt_16 (lt_16 (lt_16 (lt_16 (lt_14 lt_h))))))))))))))) gw_selects
theorem kl_RL_229 : sn_LV RL 229 yX8_loses cX8_loses 5 (some .int) 4 := ⟨sn_lv5 km_RL_229 kin_X8_loses ks_X8_loses ki_RX8 kc_X8_loses, kva_6, kvb_6, kpd_17⟩
theorem kc_X9_loses : Cond.code yX9_loses cX9_loses 5 (some .int) ∈ sn_gw := sn_gwI (lb_7 (lt_11 lt_h)) gw_code
theorem km_RL_233 : Cond.methodLink RL 233 yX9_loses ∈ sn_gw := sn_gwI (lb_7 (lt_8 lt_h)) gw_methodLink
theorem kin_X9_loses : Cond.instanceMethod yX9_loses ∈ sn_gw := sn_gwI (lb_7 (lt_9 lt_h)) gw_instanceMethod
theorem ks_X9_loses : Cond.selects RX9 yX9_loses yX9_loses ∈ sn_gw := sn_gwI (lb_7 (lt_10 lt_h)) gw_selects
theorem kl_RL_233 : sn_LV RL 233 yX9_loses cX9_loses 5 (some .int) 4 := ⟨sn_lv5 km_RL_233 kin_X9_loses ks_X9_loses ki_RX9 kc_X9_loses, kva_3, kvb_3, kpd_17⟩
theorem kc_X8_cut : Cond.code yX8_cut cX8_cut 2 (some .int) ∈ sn_gw := sn_gwI (lb_2 (lt_16 (lt_16 (lt_16 (lt_16 (lt_16 (lt_16 (lt_16 (lt_16 (lt_16 (lt_16 (lt_16 (lt_16 (lt_16 (lt_6 lt_h))))))))))))))) gw_code
theorem km_RL_234 : Cond.methodLink RL 234 yX8_cut ∈ sn_gw := sn_gwI (lb_2 (lt_16 (lt_16 (lt_16 (lt_16 (lt_16 (lt_16 (lt_16 (lt_16 (lt_16 (lt_16 (lt_16 (lt_16 (lt_16 (lt_3 lt_h))))))))))))))) gw_methodLink
theorem kin_X8_cut : Cond.instanceMethod yX8_cut ∈ sn_gw := sn_gwI (lb_2 (lt_16 (lt_16 (lt_16 (lt_16 (lt_16 (lt_16 (lt_16 (lt_16 (lt_16 (lt_16 (lt_16 (lt_16 (lt_16 (lt_4 lt_h))))))))))))))) gw_instanceMethod
theorem ks_X8_cut : Cond.selects RX8 yX8_cut yX8_cut ∈ sn_gw := sn_gwI (lb_2 (lt_16 (lt_16 (lt_16 (lt_16 (lt_16 (lt_16 (lt_16 (lt_16 (lt_16 (lt_16 (lt_16 (lt_16 (lt_16 (lt_5 lt_h))))))))))))))) gw_selects
theorem kl_RL_234 : sn_LV RL 234 yX8_cut cX8_cut 2 (some .int) 1 := ⟨sn_lv5 km_RL_234 kin_X8_cut ks_X8_cut ki_RX8 kc_X8_cut, kva_6, kvb_6, kpd_6⟩
theorem kc_X9_cut : Cond.code yX9_cut cX9_cut 2 (some .int) ∈ sn_gw := sn_gwI (lb_7 (lt_15 lt_h)) gw_code
theorem km_RL_237 : Cond.methodLink RL 237 yX9_cut ∈ sn_gw := sn_gwI (lb_7 (lt_12 lt_h)) gw_methodLink
theorem kin_X9_cut : Cond.instanceMethod yX9_cut ∈ sn_gw := sn_gwI (lb_7 (lt_13 lt_h)) gw_instanceMethod
theorem ks_X9_cut : Cond.selects RX9 yX9_cut yX9_cut ∈ sn_gw := sn_gwI (lb_7 (lt_14 lt_h)) gw_selects
theorem kl_RL_237 : sn_LV RL 237 yX9_cut cX9_cut 2 (some .int) 1 := ⟨sn_lv5 km_RL_237 kin_X9_cut ks_X9_cut ki_RX9 kc_X9_cut, kva_3, kvb_3, kpd_6⟩
theorem kc_X8_cuts : Cond.code yX8_cuts cX8_cuts 5 (some .int) ∈ sn_gw := sn_gwI (lb_2 (lt_16 (lt_16 (lt_16 (lt_16 (lt_16 (lt_16 (lt_16 (lt_16 (lt_16 (lt_16 (lt_16 (lt_16 (lt_16 (lt_16 (lt_2 lt_h)))))))))))))))) gw_code
theorem km_RL_238 : Cond.methodLink RL 238 yX8_cuts ∈ sn_gw := sn_gwI (lb_2 (lt_16 (lt_16 (lt_16 (lt_16 (lt_16 (lt_16 (lt_16 (lt_16 (lt_16 (lt_16 (lt_16 (lt_16 (lt_16 (lt_15 lt_h))))))))))))))) gw_methodLink
theorem kin_X8_cuts : Cond.instanceMethod yX8_cuts ∈ sn_gw := sn_gwI (lb_2 (lt_16 (lt_16 (lt_16 (lt_16 (lt_16 (lt_16 (lt_16 (lt_16 (lt_16 (lt_16 (lt_16 (lt_16 (lt_16 (lt_16 lt_h))))))))))))))) gw_instanceMethod
theorem ks_X8_cuts : Cond.selects RX8 yX8_cuts yX8_cuts ∈ sn_gw := sn_gwI (lb_2 (lt_16 (lt_16 (lt_16 (lt_16 (lt_16 (lt_16 (lt_16 (lt_16 (lt_16 (lt_16 (lt_16 (lt_16 (lt_16 (lt_16 (lt_1 lt_h)))))))))))))))) gw_selects
theorem kl_RL_238 : sn_LV RL 238 yX8_cuts cX8_cuts 5 (some .int) 0 := ⟨sn_lv5 km_RL_238 kin_X8_cuts ks_X8_cuts ki_RX8 kc_X8_cuts, kva_6, kvb_6, kpd_7⟩
theorem kc_X9_cuts : Cond.code yX9_cuts cX9_cuts 5 (some .int) ∈ sn_gw := sn_gwI (lb_7 (lt_16 (lt_7 lt_h))) gw_code
theorem km_RL_241 : Cond.methodLink RL 241 yX9_cuts ∈ sn_gw := sn_gwI (lb_7 (lt_16 (lt_4 lt_h))) gw_methodLink
theorem kin_X9_cuts : Cond.instanceMethod yX9_cuts ∈ sn_gw := sn_gwI (lb_7 (lt_16 (lt_5 lt_h))) gw_instanceMethod
theorem ks_X9_cuts : Cond.selects RX9 yX9_cuts yX9_cuts ∈ sn_gw := sn_gwI (lb_7 (lt_16 (lt_6 lt_h))) gw_selects
theorem kl_RL_241 : sn_LV RL 241 yX9_cuts cX9_cuts 5 (some .int) 0 := ⟨sn_lv5 km_RL_241 kin_X9_cuts ks_X9_cuts ki_RX9 kc_X9_cuts, kva_3, kvb_3, kpd_7⟩
theorem kc_X8_chance : Cond.code yX8_chance cX8_chance 4 (some .long) ∈ sn_gw := sn_gwI (lb_3 (lt_16 (lt_16 (lt_16 (lt_16 (lt_16 (lt_16 (lt_16 (lt_16 (lt_16 (lt_16 (lt_16 (lt_16 (lt_16 (lt_16 (lt_3 lt_h)))))))))))))))) gw_code
theorem km_RL_242 : Cond.methodLink RL 242 yX8_chance ∈ sn_gw := sn_gwI (lb_3 (lt_16 (lt_16 (lt_16 (lt_16 (lt_16 (lt_16 (lt_16 (lt_16 (lt_16 (lt_16 (lt_16 (lt_16 (lt_16 (lt_16 lt_h))))))))))))))) gw_methodLink
theorem kin_X8_chance : Cond.instanceMethod yX8_chance ∈ sn_gw := sn_gwI (lb_3 (lt_16 (lt_16 (lt_16 (lt_16 (lt_16 (lt_16 (lt_16 (lt_16 (lt_16 (lt_16 (lt_16 (lt_16 (lt_16 (lt_16 (lt_1 lt_h)))))))))))))))) gw_instanceMethod
theorem ks_X8_chance : Cond.selects RX8 yX8_chance yX8_chance ∈ sn_gw := sn_gwI (lb_3 (lt_16 (lt_16 (lt_16 (lt_16 (lt_16 (lt_16 (lt_16 (lt_16 (lt_16 (lt_16 (lt_16 (lt_16 (lt_16 (lt_16 (lt_2 lt_h)))))))))))))))) gw_selects
theorem kl_RL_242 : sn_LV RL 242 yX8_chance cX8_chance 4 (some .long) 3 := ⟨sn_lv5 km_RL_242 kin_X8_chance ks_X8_chance ki_RX8 kc_X8_chance, kva_6, kvb_6, kpd_45⟩
theorem kc_X9_chance : Cond.code yX9_chance cX9_chance 4 (some .long) ∈ sn_gw := sn_gwI (lb_7 (lt_16 (lt_11 lt_h))) gw_code
theorem km_RL_246 : Cond.methodLink RL 246 yX9_chance ∈ sn_gw := sn_gwI (lb_7 (lt_16 (lt_8 lt_h))) gw_methodLink
theorem kin_X9_chance : Cond.instanceMethod yX9_chance ∈ sn_gw := sn_gwI (lb_7 (lt_16 (lt_9 lt_h))) gw_instanceMethod
theorem ks_X9_chance : Cond.selects RX9 yX9_chance yX9_chance ∈ sn_gw := sn_gwI (lb_7 (lt_16 (lt_10 lt_h))) gw_selects
theorem kl_RL_246 : sn_LV RL 246 yX9_chance cX9_chance 4 (some .long) 3 := ⟨sn_lv5 km_RL_246 kin_X9_chance ks_X9_chance ki_RX9 kc_X9_chance, kva_3, kvb_3, kpd_45⟩
theorem kc_X8_fair : Cond.code yX8_fair cX8_fair 4 (some .long) ∈ sn_gw := sn_gwI (lb_4 (lt_16 (lt_4 lt_h))) gw_code
theorem km_RL_247 : Cond.methodLink RL 247 yX8_fair ∈ sn_gw := sn_gwI (lb_4 (lt_16 (lt_1 lt_h))) gw_methodLink
theorem kin_X8_fair : Cond.instanceMethod yX8_fair ∈ sn_gw := sn_gwI (lb_4 (lt_16 (lt_2 lt_h))) gw_instanceMethod
theorem ks_X8_fair : Cond.selects RX8 yX8_fair yX8_fair ∈ sn_gw := sn_gwI (lb_4 (lt_16 (lt_3 lt_h))) gw_selects
theorem kl_RL_247 : sn_LV RL 247 yX8_fair cX8_fair 4 (some .long) 3 := ⟨sn_lv5 km_RL_247 kin_X8_fair ks_X8_fair ki_RX8 kc_X8_fair, kva_6, kvb_6, kpd_45⟩
theorem kc_X9_fair : Cond.code yX9_fair cX9_fair 4 (some .long) ∈ sn_gw := sn_gwI (lb_7 (lt_16 (lt_16 (lt_15 lt_h)))) gw_code
theorem km_RL_250 : Cond.methodLink RL 250 yX9_fair ∈ sn_gw := sn_gwI (lb_7 (lt_16 (lt_16 (lt_12 lt_h)))) gw_methodLink
theorem kin_X9_fair : Cond.instanceMethod yX9_fair ∈ sn_gw := sn_gwI (lb_7 (lt_16 (lt_16 (lt_13 lt_h)))) gw_instanceMethod
theorem ks_X9_fair : Cond.selects RX9 yX9_fair yX9_fair ∈ sn_gw := sn_gwI (lb_7 (lt_16 (lt_16 (lt_14 lt_h)))) gw_selects
theorem kl_RL_250 : sn_LV RL 250 yX9_fair cX9_fair 4 (some .long) 3 := ⟨sn_lv5 km_RL_250 kin_X9_fair ks_X9_fair ki_RX9 kc_X9_fair, kva_3, kvb_3, kpd_45⟩
theorem kc_X8_risk : Cond.code yX8_risk cX8_risk 3 (some .long) ∈ sn_gw := sn_gwI (lb_4 (lt_16 (lt_8 lt_h))) gw_code
theorem km_RL_251 : Cond.methodLink RL 251 yX8_risk ∈ sn_gw := sn_gwI (lb_4 (lt_16 (lt_5 lt_h))) gw_methodLink
theorem kin_X8_risk : Cond.instanceMethod yX8_risk ∈ sn_gw := sn_gwI (lb_4 (lt_16 (lt_6 lt_h))) gw_instanceMethod
theorem ks_X8_risk : Cond.selects RX8 yX8_risk yX8_risk ∈ sn_gw := sn_gwI (lb_4 (lt_16 (lt_7 lt_h))) gw_selects
theorem kl_RL_251 : sn_LV RL 251 yX8_risk cX8_risk 3 (some .long) 2 := ⟨sn_lv5 km_RL_251 kin_X8_risk ks_X8_risk ki_RX8 kc_X8_risk, kva_6, kvb_6, kpd_22⟩
theorem kc_X9_risk : Cond.code yX9_risk cX9_risk 3 (some .long) ∈ sn_gw := sn_gwI (lb_7 (lt_16 (lt_16 (lt_16 (lt_3 lt_h))))) gw_code
theorem km_RL_255 : Cond.methodLink RL 255 yX9_risk ∈ sn_gw := sn_gwI (lb_7 (lt_16 (lt_16 (lt_16 lt_h)))) gw_methodLink
theorem kin_X9_risk : Cond.instanceMethod yX9_risk ∈ sn_gw := sn_gwI (lb_7 (lt_16 (lt_16 (lt_16 (lt_1 lt_h))))) gw_instanceMethod
theorem ks_X9_risk : Cond.selects RX9 yX9_risk yX9_risk ∈ sn_gw := sn_gwI (lb_7 (lt_16 (lt_16 (lt_16 (lt_2 lt_h))))) gw_selects
theorem kl_RL_255 : sn_LV RL 255 yX9_risk cX9_risk 3 (some .long) 2 := ⟨sn_lv5 km_RL_255 kin_X9_risk ks_X9_risk ki_RX9 kc_X9_risk, kva_3, kvb_3, kpd_22⟩
theorem kc_X8_stifle : Cond.code yX8_stifle cX8_stifle 3 (some .int) ∈ sn_gw := sn_gwI (lb_4 (lt_16 (lt_16 (lt_16 (lt_1 lt_h))))) gw_code
theorem km_RL_256 : Cond.methodLink RL 256 yX8_stifle ∈ sn_gw := sn_gwI (lb_4 (lt_16 (lt_16 (lt_14 lt_h)))) gw_methodLink
theorem kin_X8_stifle : Cond.instanceMethod yX8_stifle ∈ sn_gw := sn_gwI (lb_4 (lt_16 (lt_16 (lt_15 lt_h)))) gw_instanceMethod
theorem ks_X8_stifle : Cond.selects RX8 yX8_stifle yX8_stifle ∈ sn_gw := sn_gwI (lb_4 (lt_16 (lt_16 (lt_16 lt_h)))) gw_selects
theorem kl_RL_256 : sn_LV RL 256 yX8_stifle cX8_stifle 3 (some .int) 2 := ⟨sn_lv5 km_RL_256 kin_X8_stifle ks_X8_stifle ki_RX8 kc_X8_stifle, kva_6, kvb_6, kpd_13⟩
theorem kc_X9_stifle : Cond.code yX9_stifle cX9_stifle 3 (some .int) ∈ sn_gw := sn_gwI (lb_7 (lt_16 (lt_16 (lt_16 (lt_7 lt_h))))) gw_code
theorem km_RL_259 : Cond.methodLink RL 259 yX9_stifle ∈ sn_gw := sn_gwI (lb_7 (lt_16 (lt_16 (lt_16 (lt_4 lt_h))))) gw_methodLink
theorem kin_X9_stifle : Cond.instanceMethod yX9_stifle ∈ sn_gw := sn_gwI (lb_7 (lt_16 (lt_16 (lt_16 (lt_5 lt_h))))) gw_instanceMethod
theorem ks_X9_stifle : Cond.selects RX9 yX9_stifle yX9_stifle ∈ sn_gw := sn_gwI (lb_7 (lt_16 (lt_16 (lt_16 (lt_6 lt_h))))) gw_selects
theorem kl_RL_259 : sn_LV RL 259 yX9_stifle cX9_stifle 3 (some .int) 2 := ⟨sn_lv5 km_RL_259 kin_X9_stifle ks_X9_stifle ki_RX9 kc_X9_stifle, kva_3, kvb_3, kpd_13⟩
theorem kc_X8_sniff : Cond.code yX8_sniff cX8_sniff 3 (some .int) ∈ sn_gw := sn_gwI (lb_4 (lt_16 (lt_16 (lt_16 (lt_9 lt_h))))) gw_code
theorem km_RL_260 : Cond.methodLink RL 260 yX8_sniff ∈ sn_gw := sn_gwI (lb_4 (lt_16 (lt_16 (lt_16 (lt_6 lt_h))))) gw_methodLink
theorem kin_X8_sniff : Cond.instanceMethod yX8_sniff ∈ sn_gw := sn_gwI (lb_4 (lt_16 (lt_16 (lt_16 (lt_7 lt_h))))) gw_instanceMethod
theorem ks_X8_sniff : Cond.selects RX8 yX8_sniff yX8_sniff ∈ sn_gw := sn_gwI (lb_4 (lt_16 (lt_16 (lt_16 (lt_8 lt_h))))) gw_selects
theorem kl_RL_260 : sn_LV RL 260 yX8_sniff cX8_sniff 3 (some .int) 2 := ⟨sn_lv5 km_RL_260 kin_X8_sniff ks_X8_sniff ki_RX8 kc_X8_sniff, kva_6, kvb_6, kpd_13⟩
theorem kc_X9_sniff : Cond.code yX9_sniff cX9_sniff 3 (some .int) ∈ sn_gw := sn_gwI (lb_7 (lt_16 (lt_16 (lt_16 (lt_15 lt_h))))) gw_code
theorem km_RL_263 : Cond.methodLink RL 263 yX9_sniff ∈ sn_gw := sn_gwI (lb_7 (lt_16 (lt_16 (lt_16 (lt_12 lt_h))))) gw_methodLink
theorem kin_X9_sniff : Cond.instanceMethod yX9_sniff ∈ sn_gw := sn_gwI (lb_7 (lt_16 (lt_16 (lt_16 (lt_13 lt_h))))) gw_instanceMethod
theorem ks_X9_sniff : Cond.selects RX9 yX9_sniff yX9_sniff ∈ sn_gw := sn_gwI (lb_7 (lt_16 (lt_16 (lt_16 (lt_14 lt_h))))) gw_selects
theorem kl_RL_263 : sn_LV RL 263 yX9_sniff cX9_sniff 3 (some .int) 2 := ⟨sn_lv5 km_RL_263 kin_X9_sniff ks_X9_sniff ki_RX9 kc_X9_sniff, kva_3, kvb_3, kpd_13⟩
theorem kc_X8_undo : Cond.code yX8_undo cX8_undo 1 (some .int) ∈ sn_gw := sn_gwI (lb_4 (lt_16 (lt_16 (lt_16 (lt_13 lt_h))))) gw_code
theorem km_RL_264 : Cond.methodLink RL 264 yX8_undo ∈ sn_gw := sn_gwI (lb_4 (lt_16 (lt_16 (lt_16 (lt_10 lt_h))))) gw_methodLink
theorem kin_X8_undo : Cond.instanceMethod yX8_undo ∈ sn_gw := sn_gwI (lb_4 (lt_16 (lt_16 (lt_16 (lt_11 lt_h))))) gw_instanceMethod
theorem ks_X8_undo : Cond.selects RX8 yX8_undo yX8_undo ∈ sn_gw := sn_gwI (lb_4 (lt_16 (lt_16 (lt_16 (lt_12 lt_h))))) gw_selects
theorem kl_RL_264 : sn_LV RL 264 yX8_undo cX8_undo 1 (some .int) 0 := ⟨sn_lv5 km_RL_264 kin_X8_undo ks_X8_undo ki_RX8 kc_X8_undo, kva_6, kvb_6, kpd_7⟩
theorem kc_X9_undo : Cond.code yX9_undo cX9_undo 1 (some .int) ∈ sn_gw := sn_gwI (lb_7 (lt_16 (lt_16 (lt_16 (lt_16 (lt_3 lt_h)))))) gw_code
theorem km_RL_267 : Cond.methodLink RL 267 yX9_undo ∈ sn_gw := sn_gwI (lb_7 (lt_16 (lt_16 (lt_16 (lt_16 lt_h))))) gw_methodLink
theorem kin_X9_undo : Cond.instanceMethod yX9_undo ∈ sn_gw := sn_gwI (lb_7 (lt_16 (lt_16 (lt_16 (lt_16 (lt_1 lt_h)))))) gw_instanceMethod
theorem ks_X9_undo : Cond.selects RX9 yX9_undo yX9_undo ∈ sn_gw := sn_gwI (lb_7 (lt_16 (lt_16 (lt_16 (lt_16 (lt_2 lt_h)))))) gw_selects
theorem kl_RL_267 : sn_LV RL 267 yX9_undo cX9_undo 1 (some .int) 0 := ⟨sn_lv5 km_RL_267 kin_X9_undo ks_X9_undo ki_RX9 kc_X9_undo, kva_3, kvb_3, kpd_7⟩
theorem kc_X8_anew : Cond.code yX8_anew cX8_anew 2 (some .int) ∈ sn_gw := sn_gwI (lb_4 (lt_16 (lt_16 (lt_16 (lt_16 (lt_1 lt_h)))))) gw_code
theorem km_RL_268 : Cond.methodLink RL 268 yX8_anew ∈ sn_gw := sn_gwI (lb_4 (lt_16 (lt_16 (lt_16 (lt_14 lt_h))))) gw_methodLink
theorem kin_X8_anew : Cond.instanceMethod yX8_anew ∈ sn_gw := sn_gwI (lb_4 (lt_16 (lt_16 (lt_16 (lt_15 lt_h))))) gw_instanceMethod
theorem ks_X8_anew : Cond.selects RX8 yX8_anew yX8_anew ∈ sn_gw := sn_gwI (lb_4 (lt_16 (lt_16 (lt_16 (lt_16 lt_h))))) gw_selects
theorem kl_RL_268 : sn_LV RL 268 yX8_anew cX8_anew 2 (some .int) 0 := ⟨sn_lv5 km_RL_268 kin_X8_anew ks_X8_anew ki_RX8 kc_X8_anew, kva_6, kvb_6, kpd_7⟩
theorem kc_X9_anew : Cond.code yX9_anew cX9_anew 2 (some .int) ∈ sn_gw := sn_gwI (lb_7 (lt_16 (lt_16 (lt_16 (lt_16 (lt_7 lt_h)))))) gw_code
theorem km_RL_271 : Cond.methodLink RL 271 yX9_anew ∈ sn_gw := sn_gwI (lb_7 (lt_16 (lt_16 (lt_16 (lt_16 (lt_4 lt_h)))))) gw_methodLink
theorem kin_X9_anew : Cond.instanceMethod yX9_anew ∈ sn_gw := sn_gwI (lb_7 (lt_16 (lt_16 (lt_16 (lt_16 (lt_5 lt_h)))))) gw_instanceMethod
theorem ks_X9_anew : Cond.selects RX9 yX9_anew yX9_anew ∈ sn_gw := sn_gwI (lb_7 (lt_16 (lt_16 (lt_16 (lt_16 (lt_6 lt_h)))))) gw_selects
theorem kl_RL_271 : sn_LV RL 271 yX9_anew cX9_anew 2 (some .int) 0 := ⟨sn_lv5 km_RL_271 kin_X9_anew ks_X9_anew ki_RX9 kc_X9_anew, kva_3, kvb_3, kpd_7⟩
theorem kc_X8_drawn : Cond.code yX8_drawn cX8_drawn 4 (some .int) ∈ sn_gw := sn_gwI (lb_4 (lt_16 (lt_12 lt_h))) gw_code
theorem km_RL_272 : Cond.methodLink RL 272 yX8_drawn ∈ sn_gw := sn_gwI (lb_4 (lt_16 (lt_9 lt_h))) gw_methodLink
theorem kin_X8_drawn : Cond.instanceMethod yX8_drawn ∈ sn_gw := sn_gwI (lb_4 (lt_16 (lt_10 lt_h))) gw_instanceMethod
theorem ks_X8_drawn : Cond.selects RX8 yX8_drawn yX8_drawn ∈ sn_gw := sn_gwI (lb_4 (lt_16 (lt_11 lt_h))) gw_selects
theorem kl_RL_272 : sn_LV RL 272 yX8_drawn cX8_drawn 4 (some .int) 2 := ⟨sn_lv5 km_RL_272 kin_X8_drawn ks_X8_drawn ki_RX8 kc_X8_drawn, kva_6, kvb_6, kpd_13⟩
theorem kc_X9_drawn : Cond.code yX9_drawn cX9_drawn 4 (some .int) ∈ sn_gw := sn_gwI (lb_7 (lt_16 (lt_16 (lt_16 (lt_16 (lt_11 lt_h)))))) gw_code
theorem km_RL_275 : Cond.methodLink RL 275 yX9_drawn ∈ sn_gw := sn_gwI (lb_7 (lt_16 (lt_16 (lt_16 (lt_16 (lt_8 lt_h)))))) gw_methodLink
theorem kin_X9_drawn : Cond.instanceMethod yX9_drawn ∈ sn_gw := sn_gwI (lb_7 (lt_16 (lt_16 (lt_16 (lt_16 (lt_9 lt_h)))))) gw_instanceMethod
theorem ks_X9_drawn : Cond.selects RX9 yX9_drawn yX9_drawn ∈ sn_gw := sn_gwI (lb_7 (lt_16 (lt_16 (lt_16 (lt_16 (lt_10 lt_h)))))) gw_selects
theorem kl_RL_275 : sn_LV RL 275 yX9_drawn cX9_drawn 4 (some .int) 2 := ⟨sn_lv5 km_RL_275 kin_X9_drawn ks_X9_drawn ki_RX9 kc_X9_drawn, kva_3, kvb_3, kpd_13⟩
theorem kc_X8_luck : Cond.code yX8_luck cX8_luck 6 (some .int) ∈ sn_gw := sn_gwI (lb_4 (lt_16 (lt_16 (lt_13 lt_h)))) gw_code
theorem km_RL_276 : Cond.methodLink RL 276 yX8_luck ∈ sn_gw := sn_gwI (lb_4 (lt_16 (lt_16 (lt_10 lt_h)))) gw_methodLink
theorem kin_X8_luck : Cond.instanceMethod yX8_luck ∈ sn_gw := sn_gwI (lb_4 (lt_16 (lt_16 (lt_11 lt_h)))) gw_instanceMethod
theorem ks_X8_luck : Cond.selects RX8 yX8_luck yX8_luck ∈ sn_gw := sn_gwI (lb_4 (lt_16 (lt_16 (lt_12 lt_h)))) gw_selects
theorem kl_RL_276 : sn_LV RL 276 yX8_luck cX8_luck 6 (some .int) 3 := ⟨sn_lv5 km_RL_276 kin_X8_luck ks_X8_luck ki_RX8 kc_X8_luck, kva_6, kvb_6, kpd_19⟩
theorem kc_X9_luck : Cond.code yX9_luck cX9_luck 6 (some .int) ∈ sn_gw := sn_gwI (lb_7 (lt_16 (lt_16 (lt_16 (lt_16 (lt_16 (lt_12 lt_h))))))) gw_code
theorem km_RL_280 : Cond.methodLink RL 280 yX9_luck ∈ sn_gw := sn_gwI (lb_7 (lt_16 (lt_16 (lt_16 (lt_16 (lt_16 (lt_9 lt_h))))))) gw_methodLink
theorem kin_X9_luck : Cond.instanceMethod yX9_luck ∈ sn_gw := sn_gwI (lb_7 (lt_16 (lt_16 (lt_16 (lt_16 (lt_16 (lt_10 lt_h))))))) gw_instanceMethod
theorem ks_X9_luck : Cond.selects RX9 yX9_luck yX9_luck ∈ sn_gw := sn_gwI (lb_7 (lt_16 (lt_16 (lt_16 (lt_16 (lt_16 (lt_11 lt_h))))))) gw_selects
theorem kl_RL_280 : sn_LV RL 280 yX9_luck cX9_luck 6 (some .int) 3 := ⟨sn_lv5 km_RL_280 kin_X9_luck ks_X9_luck ki_RX9 kc_X9_luck, kva_3, kvb_3, kpd_19⟩
theorem kc_X8_rate : Cond.code yX8_rate cX8_rate 4 (some .int) ∈ sn_gw := sn_gwI (lb_4 (lt_16 (lt_16 (lt_16 (lt_16 (lt_5 lt_h)))))) gw_code
theorem km_RL_281 : Cond.methodLink RL 281 yX8_rate ∈ sn_gw := sn_gwI (lb_4 (lt_16 (lt_16 (lt_16 (lt_16 (lt_2 lt_h)))))) gw_methodLink
theorem kin_X8_rate : Cond.instanceMethod yX8_rate ∈ sn_gw := sn_gwI (lb_4 (lt_16 (lt_16 (lt_16 (lt_16 (lt_3 lt_h)))))) gw_instanceMethod
theorem ks_X8_rate : Cond.selects RX8 yX8_rate yX8_rate ∈ sn_gw := sn_gwI (lb_4 (lt_16 (lt_16 (lt_16 (lt_16 (lt_4 lt_h)))))) gw_selects
theorem kl_RL_281 : sn_LV RL 281 yX8_rate cX8_rate 4 (some .int) 2 := ⟨sn_lv5 km_RL_281 kin_X8_rate ks_X8_rate ki_RX8 kc_X8_rate, kva_6, kvb_6, kpd_13⟩
theorem kc_X9_rate : Cond.code yX9_rate cX9_rate 4 (some .int) ∈ sn_gw := sn_gwI (lb_7 (lt_16 (lt_16 (lt_16 (lt_16 (lt_16 (lt_16 (lt_1 lt_h)))))))) gw_code
theorem km_RL_284 : Cond.methodLink RL 284 yX9_rate ∈ sn_gw := sn_gwI (lb_7 (lt_16 (lt_16 (lt_16 (lt_16 (lt_16 (lt_14 lt_h))))))) gw_methodLink
theorem kin_X9_rate : Cond.instanceMethod yX9_rate ∈ sn_gw := sn_gwI (lb_7 (lt_16 (lt_16 (lt_16 (lt_16 (lt_16 (lt_15 lt_h))))))) gw_instanceMethod
theorem ks_X9_rate : Cond.selects RX9 yX9_rate yX9_rate ∈ sn_gw := sn_gwI (lb_7 (lt_16 (lt_16 (lt_16 (lt_16 (lt_16 (lt_16 lt_h))))))) gw_selects
theorem kl_RL_284 : sn_LV RL 284 yX9_rate cX9_rate 4 (some .int) 2 := ⟨sn_lv5 km_RL_284 kin_X9_rate ks_X9_rate ki_RX9 kc_X9_rate, kva_3, kvb_3, kpd_13⟩
theorem kc_X8_count : Cond.code yX8_count cX8_count 2 (some .int) ∈ sn_gw := sn_gwI (lb_4 (lt_16 (lt_16 (lt_16 (lt_16 (lt_9 lt_h)))))) gw_code
theorem km_RL_285 : Cond.methodLink RL 285 yX8_count ∈ sn_gw := sn_gwI (lb_4 (lt_16 (lt_16 (lt_16 (lt_16 (lt_6 lt_h)))))) gw_methodLink
theorem kin_X8_count : Cond.instanceMethod yX8_count ∈ sn_gw := sn_gwI (lb_4 (lt_16 (lt_16 (lt_16 (lt_16 (lt_7 lt_h)))))) gw_instanceMethod
theorem ks_X8_count : Cond.selects RX8 yX8_count yX8_count ∈ sn_gw := sn_gwI (lb_4 (lt_16 (lt_16 (lt_16 (lt_16 (lt_8 lt_h)))))) gw_selects
theorem kl_RL_285 : sn_LV RL 285 yX8_count cX8_count 2 (some .int) 1 := ⟨sn_lv5 km_RL_285 kin_X8_count ks_X8_count ki_RX8 kc_X8_count, kva_6, kvb_6, kpd_6⟩
theorem kc_X9_count : Cond.code yX9_count cX9_count 4 (some .int) ∈ sn_gw := sn_gwI (lb_7 (lt_16 (lt_16 (lt_16 (lt_16 (lt_16 (lt_16 (lt_6 lt_h)))))))) gw_code
theorem km_RL_288 : Cond.methodLink RL 288 yX9_count ∈ sn_gw := sn_gwI (lb_7 (lt_16 (lt_16 (lt_16 (lt_16 (lt_16 (lt_16 (lt_3 lt_h)))))))) gw_methodLink
theorem kin_X9_count : Cond.instanceMethod yX9_count ∈ sn_gw := sn_gwI (lb_7 (lt_16 (lt_16 (lt_16 (lt_16 (lt_16 (lt_16 (lt_4 lt_h)))))))) gw_instanceMethod
theorem ks_X9_count : Cond.selects RX9 yX9_count yX9_count ∈ sn_gw := sn_gwI (lb_7 (lt_16 (lt_16 (lt_16 (lt_16 (lt_16 (lt_16 (lt_5 lt_h)))))))) gw_selects
theorem kl_RL_288 : sn_LV RL 288 yX9_count cX9_count 4 (some .int) 1 := ⟨sn_lv5 km_RL_288 kin_X9_count ks_X9_count ki_RX9 kc_X9_count, kva_3, kvb_3, kpd_6⟩
theorem kc_X8_image : Cond.code yX8_image cX8_image 2 (some .int) ∈ sn_gw := sn_gwI (lb_4 (lt_16 (lt_16 (lt_16 (lt_16 (lt_16 (lt_2 lt_h))))))) gw_code
theorem km_RL_289 : Cond.methodLink RL 289 yX8_image ∈ sn_gw := sn_gwI (lb_4 (lt_16 (lt_16 (lt_16 (lt_16 (lt_15 lt_h)))))) gw_methodLink
theorem kin_X8_image : Cond.instanceMethod yX8_image ∈ sn_gw := sn_gwI (lb_4 (lt_16 (lt_16 (lt_16 (lt_16 (lt_16 lt_h)))))) gw_instanceMethod
theorem ks_X8_image : Cond.selects RX8 yX8_image yX8_image ∈ sn_gw := sn_gwI (lb_4 (lt_16 (lt_16 (lt_16 (lt_16 (lt_16 (lt_1 lt_h))))))) gw_selects
theorem kl_RL_289 : sn_LV RL 289 yX8_image cX8_image 2 (some .int) 1 := ⟨sn_lv5 km_RL_289 kin_X8_image ks_X8_image ki_RX8 kc_X8_image, kva_6, kvb_6, kpd_6⟩
theorem kc_X9_image : Cond.code yX9_image cX9_image 3 (some .int) ∈ sn_gw := sn_gwI (lb_5 (lt_16 (lt_4 lt_h))) gw_code
theorem km_RL_292 : Cond.methodLink RL 292 yX9_image ∈ sn_gw := sn_gwI (lb_5 (lt_16 (lt_1 lt_h))) gw_methodLink
theorem kin_X9_image : Cond.instanceMethod yX9_image ∈ sn_gw := sn_gwI (lb_5 (lt_16 (lt_2 lt_h))) gw_instanceMethod
theorem ks_X9_image : Cond.selects RX9 yX9_image yX9_image ∈ sn_gw := sn_gwI (lb_5 (lt_16 (lt_3 lt_h))) gw_selects
theorem kl_RL_292 : sn_LV RL 292 yX9_image cX9_image 3 (some .int) 1 := ⟨sn_lv5 km_RL_292 kin_X9_image ks_X9_image ki_RX9 kc_X9_image, kva_3, kvb_3, kpd_6⟩
theorem kc_X8_back : Cond.code yX8_back cX8_back 2 (some .int) ∈ sn_gw := sn_gwI (lb_4 (lt_16 (lt_16 (lt_16 (lt_16 (lt_16 (lt_6 lt_h))))))) gw_code
theorem km_RL_293 : Cond.methodLink RL 293 yX8_back ∈ sn_gw := sn_gwI (lb_4 (lt_16 (lt_16 (lt_16 (lt_16 (lt_16 (lt_3 lt_h))))))) gw_methodLink
theorem kin_X8_back : Cond.instanceMethod yX8_back ∈ sn_gw := sn_gwI (lb_4 (lt_16 (lt_16 (lt_16 (lt_16 (lt_16 (lt_4 lt_h))))))) gw_instanceMethod
theorem ks_X8_back : Cond.selects RX8 yX8_back yX8_back ∈ sn_gw := sn_gwI (lb_4 (lt_16 (lt_16 (lt_16 (lt_16 (lt_16 (lt_5 lt_h))))))) gw_selects
theorem kl_RL_293 : sn_LV RL 293 yX8_back cX8_back 2 (some .int) 1 := ⟨sn_lv5 km_RL_293 kin_X8_back ks_X8_back ki_RX8 kc_X8_back, kva_6, kvb_6, kpd_6⟩
theorem kc_X9_back : Cond.code yX9_back cX9_back 3 (some .int) ∈ sn_gw := sn_gwI (lb_5 (lt_16 (lt_12 lt_h))) gw_code
theorem km_RL_296 : Cond.methodLink RL 296 yX9_back ∈ sn_gw := sn_gwI (lb_5 (lt_16 (lt_9 lt_h))) gw_methodLink
theorem kin_X9_back : Cond.instanceMethod yX9_back ∈ sn_gw := sn_gwI (lb_5 (lt_16 (lt_10 lt_h))) gw_instanceMethod
theorem ks_X9_back : Cond.selects RX9 yX9_back yX9_back ∈ sn_gw := sn_gwI (lb_5 (lt_16 (lt_11 lt_h))) gw_selects
theorem kl_RL_296 : sn_LV RL 296 yX9_back cX9_back 3 (some .int) 1 := ⟨sn_lv5 km_RL_296 kin_X9_back ks_X9_back ki_RX9 kc_X9_back, kva_3, kvb_3, kpd_6⟩
theorem kc_X8_row : Cond.code yX8_row cX8_row 4 (some .int) ∈ sn_gw := sn_gwI (lb_4 (lt_16 (lt_16 (lt_16 (lt_16 (lt_16 (lt_10 lt_h))))))) gw_code
theorem km_RL_297 : Cond.methodLink RL 297 yX8_row ∈ sn_gw := sn_gwI (lb_4 (lt_16 (lt_16 (lt_16 (lt_16 (lt_16 (lt_7 lt_h))))))) gw_methodLink
theorem kin_X8_row : Cond.instanceMethod yX8_row ∈ sn_gw := sn_gwI (lb_4 (lt_16 (lt_16 (lt_16 (lt_16 (lt_16 (lt_8 lt_h))))))) gw_instanceMethod
theorem ks_X8_row : Cond.selects RX8 yX8_row yX8_row ∈ sn_gw := sn_gwI (lb_4 (lt_16 (lt_16 (lt_16 (lt_16 (lt_16 (lt_9 lt_h))))))) gw_selects
theorem kl_RL_297 : sn_LV RL 297 yX8_row cX8_row 4 (some .int) 3 := ⟨sn_lv5 km_RL_297 kin_X8_row ks_X8_row ki_RX8 kc_X8_row, kva_6, kvb_6, kpd_19⟩
theorem kc_X9_row : Cond.code yX9_row cX9_row 5 (some .int) ∈ sn_gw := sn_gwI (lb_7 (lt_16 (lt_16 (lt_16 (lt_16 (lt_16 (lt_16 (lt_10 lt_h)))))))) gw_code
theorem km_RL_300 : Cond.methodLink RL 300 yX9_row ∈ sn_gw := sn_gwI (lb_7 (lt_16 (lt_16 (lt_16 (lt_16 (lt_16 (lt_16 (lt_7 lt_h)))))))) gw_methodLink
theorem kin_X9_row : Cond.instanceMethod yX9_row ∈ sn_gw := sn_gwI (lb_7 (lt_16 (lt_16 (lt_16 (lt_16 (lt_16 (lt_16 (lt_8 lt_h)))))))) gw_instanceMethod
theorem ks_X9_row : Cond.selects RX9 yX9_row yX9_row ∈ sn_gw := sn_gwI (lb_7 (lt_16 (lt_16 (lt_16 (lt_16 (lt_16 (lt_16 (lt_9 lt_h)))))))) gw_selects
theorem kl_RL_300 : sn_LV RL 300 yX9_row cX9_row 5 (some .int) 3 := ⟨sn_lv5 km_RL_300 kin_X9_row ks_X9_row ki_RX9 kc_X9_row, kva_3, kvb_3, kpd_19⟩
theorem kk_RL_301 : Cond.constantLong RL 301 (4294967295) ∈ sn_gw := sn_gwI (lb_7 (lt_16 (lt_16 (lt_16 (lt_16 (lt_16 (lt_16 (lt_16 (lt_6 lt_h))))))))) rfl
theorem kc_X8_write : Cond.code yX8_write cX8_write 5 (some .int) ∈ sn_gw := sn_gwI (lb_4 (lt_16 (lt_16 (lt_16 (lt_16 (lt_16 (lt_16 (lt_3 lt_h)))))))) gw_code
theorem km_RL_303 : Cond.methodLink RL 303 yX8_write ∈ sn_gw := sn_gwI (lb_4 (lt_16 (lt_16 (lt_16 (lt_16 (lt_16 (lt_16 lt_h))))))) gw_methodLink
theorem kin_X8_write : Cond.instanceMethod yX8_write ∈ sn_gw := sn_gwI (lb_4 (lt_16 (lt_16 (lt_16 (lt_16 (lt_16 (lt_16 (lt_1 lt_h)))))))) gw_instanceMethod
theorem ks_X8_write : Cond.selects RX8 yX8_write yX8_write ∈ sn_gw := sn_gwI (lb_4 (lt_16 (lt_16 (lt_16 (lt_16 (lt_16 (lt_16 (lt_2 lt_h)))))))) gw_selects
theorem kl_RL_303 : sn_LV RL 303 yX8_write cX8_write 5 (some .int) 3 := ⟨sn_lv5 km_RL_303 kin_X8_write ks_X8_write ki_RX8 kc_X8_write, kva_6, kvb_6, kpd_46⟩
theorem kc_X9_write : Cond.code yX9_write cX9_write 5 (some .int) ∈ sn_gw := sn_gwI (lb_7 (lt_16 (lt_16 (lt_16 (lt_16 (lt_16 (lt_16 (lt_14 lt_h)))))))) gw_code
theorem km_RL_307 : Cond.methodLink RL 307 yX9_write ∈ sn_gw := sn_gwI (lb_7 (lt_16 (lt_16 (lt_16 (lt_16 (lt_16 (lt_16 (lt_11 lt_h)))))))) gw_methodLink
theorem kin_X9_write : Cond.instanceMethod yX9_write ∈ sn_gw := sn_gwI (lb_7 (lt_16 (lt_16 (lt_16 (lt_16 (lt_16 (lt_16 (lt_12 lt_h)))))))) gw_instanceMethod
theorem ks_X9_write : Cond.selects RX9 yX9_write yX9_write ∈ sn_gw := sn_gwI (lb_7 (lt_16 (lt_16 (lt_16 (lt_16 (lt_16 (lt_16 (lt_13 lt_h)))))))) gw_selects
theorem kl_RL_307 : sn_LV RL 307 yX9_write cX9_write 5 (some .int) 3 := ⟨sn_lv5 km_RL_307 kin_X9_write ks_X9_write ki_RX9 kc_X9_write, kva_3, kvb_3, kpd_46⟩
theorem kc_X8_paste : Cond.code yX8_paste cX8_paste 6 (some .int) ∈ sn_gw := sn_gwI (lb_4 (lt_16 (lt_16 (lt_16 (lt_16 (lt_16 (lt_16 (lt_11 lt_h)))))))) gw_code
theorem km_RL_308 : Cond.methodLink RL 308 yX8_paste ∈ sn_gw := sn_gwI (lb_4 (lt_16 (lt_16 (lt_16 (lt_16 (lt_16 (lt_16 (lt_8 lt_h)))))))) gw_methodLink
theorem kin_X8_paste : Cond.instanceMethod yX8_paste ∈ sn_gw := sn_gwI (lb_4 (lt_16 (lt_16 (lt_16 (lt_16 (lt_16 (lt_16 (lt_9 lt_h)))))))) gw_instanceMethod
theorem ks_X8_paste : Cond.selects RX8 yX8_paste yX8_paste ∈ sn_gw := sn_gwI (lb_4 (lt_16 (lt_16 (lt_16 (lt_16 (lt_16 (lt_16 (lt_10 lt_h)))))))) gw_selects
theorem kl_RL_308 : sn_LV RL 308 yX8_paste cX8_paste 6 (some .int) 5 := ⟨sn_lv5 km_RL_308 kin_X8_paste ks_X8_paste ki_RX8 kc_X8_paste, kva_6, kvb_6, kpd_23⟩
theorem kc_X9_paste : Cond.code yX9_paste cX9_paste 7 (some .int) ∈ sn_gw := sn_gwI (lb_7 (lt_16 (lt_16 (lt_16 (lt_16 (lt_16 (lt_16 (lt_16 (lt_5 lt_h))))))))) gw_code
theorem km_RL_311 : Cond.methodLink RL 311 yX9_paste ∈ sn_gw := sn_gwI (lb_7 (lt_16 (lt_16 (lt_16 (lt_16 (lt_16 (lt_16 (lt_16 (lt_2 lt_h))))))))) gw_methodLink
theorem kin_X9_paste : Cond.instanceMethod yX9_paste ∈ sn_gw := sn_gwI (lb_7 (lt_16 (lt_16 (lt_16 (lt_16 (lt_16 (lt_16 (lt_16 (lt_3 lt_h))))))))) gw_instanceMethod
theorem ks_X9_paste : Cond.selects RX9 yX9_paste yX9_paste ∈ sn_gw := sn_gwI (lb_7 (lt_16 (lt_16 (lt_16 (lt_16 (lt_16 (lt_16 (lt_16 (lt_4 lt_h))))))))) gw_selects
theorem kl_RL_311 : sn_LV RL 311 yX9_paste cX9_paste 7 (some .int) 5 := ⟨sn_lv5 km_RL_311 kin_X9_paste ks_X9_paste ki_RX9 kc_X9_paste, kva_3, kvb_3, kpd_23⟩
end
section
/-! new long[4][60] over a world that grows -/
def sn_rw4 (σ : sn_S) (n : Nat) : sn_S := sn_pR (sn_pR (sn_pR (sn_pR σ n 0 (some (n + 1))) n 1 (some (n + 2))) n 2 (some (n + 3))) n 3 (some (n + 4))
theorem sn_zr_rw {σ : sn_S} {a q : Nat} (hn : a ≠ q) (h : sn_zr σ a) : sn_zr (sn_rw4 σ q) a := sn_zr_pR hn (sn_zr_pR hn (sn_zr_pR hn (sn_zr_pR hn h)))
theorem sn_W_agB {ct : Nat → ClassId} {ad : Nat → Nat} {σ τ : sn_S} (lay : List sn_E) : ∀ k, (∀ a, k ≤ a → a < k + lay.length → sn_ag σ τ a) → sn_W ct ad σ k lay = sn_W ct ad τ k lay := by
  induction lay with
  | nil => intro k _; rfl
  | cons x r ih =>
    intro k h
    show (ad k, sn_ev ct ad σ k x) :: _ = (ad k, sn_ev ct ad τ k x) :: _
    rw [ih (k + 1) (fun a ha hb => h a (by omega) (by simp; omega)), sn_ev_ag (h k (Nat.le_refl k) (by simp))]
theorem sn_rw4_ag {σ : sn_S} {n a : Nat} (h : a ≠ n) : sn_ag σ (sn_rw4 σ n) a := by
  refine ⟨rfl, rfl, funext fun b => ?_⟩
  simp [sn_rw4, sn_pR, h]
theorem sn_outer (c : ClassId) (N h0 : Nat) : ∀ i : Nat, Jvm.Free.Multi.outerC c N h0 i = arrV c N (fun j => va_rf (if j < i then some (h0 + 1 + j) else none))
  | 0 => by
    show ({ cls := c, slots := Array.replicate N .null, vm := .none } : Cell) = _
    rw [arrV_new]
    refine congrArg (arrV c N) (funext fun j => ?_)
    simp [va_rf]
  | i + 1 => by
    show (Jvm.Free.Multi.outerC c N h0 i).setSlot i (.ref (h0 + 1 + i)) = _
    rw [sn_outer c N h0 i, arrV_store]
    refine congrArg (arrV c N) (funext fun j => ?_)
    by_cases e : j = i
    · subst e
      simp [updV, va_rf]
    · by_cases h : j < i
      · simp [updV, e, h, Nat.lt_succ_of_lt h]
      · simp [updV, e, h, show ¬ j < i + 1 by omega]
section AL3
variable {p : Program} {l : Launch} {e : Env} {R : Room} {s : State} {m : MethodId} {args : Array Value} {below : List Frame} {meth : Method} {c : Code} {H : Heap} {locs : List Loc} {cells slots : Nat} {Q : State → Prop}
variable {cc : ByteArray} {pc nL N0 : Nat} {ls : Array Slot} {rest : List Value} {own : String} {ret : Option FieldType} {D : va_G} {ct : Nat → ClassId} {ad : Nat → Nat} {lay : List sn_E} {A : Nat → Prop} {σ : sn_S}
theorem sn_newaa {index N' K' : Nat} {n k : Int32} {lay3 : List sn_E} {nn : Nat} (C : sn_C p s m args meth c own cc nL ret D ct ad lay A) (hE : sn_E0 ad A N0) (h : sn_H s D ct ad lay A σ H locs) (hnn : lay.length = nn) (hl3 : lay ++ [.inl (5, 4, 3, []), .inl (3, 60, 1, []), .inl (3, 60, 1, []), .inl (3, 60, 1, []), .inl (3, 60, 1, [])] = lay3) (hl : 0 < nn ∧ nn < 195) (hs : s.heap.size + cells = N0 + nn)
    (w1 : Cond.classLink own index "[[J" ∈ sn_gw) (hO : (Cond.arrayOver (.array .long)).before #[] s = true) (w2 : Cond.arrayClass .long ∈ sn_gw) (hz : ∀ j, j < 5 → sn_zr σ (nn + j)) (hn : n = 4) (hk : k = 60) (hN : N' = 4) (hK' : K' = 60) (hce : cells + 5 ≤ R.cells) (hsl : slots + 244 ≤ R.slots) (hd : decode cc pc = .ok (.multianewarray index 2, 4))
    (kk : ∀ (H : Heap), sn_C p s m args meth c own cc nL ret D ct ad lay3 A → sn_H s D ct ad lay3 A (sn_rw4 σ nn) H locs → W p l e R s m args below meth c H locs (cells + 5) (slots + 244) Q (F0 m (pc + 4) ls (.ref (ad nn) :: rest))) :
    W p l e R s m args below meth c H locs cells slots Q (F0 m pc ls (.int k :: .int n :: rest)) := by
  subst hnn
  subst hl3
  subst hn
  subst hk
  refine sn_heap hE hl.1 (by omega) hs h (fun hze => ?_)
  have C2 := sn_C_lay (lay2 := lay ++ [.inl (5, 4, 3, []), .inl (3, 60, 1, []), .inl (3, 60, 1, []), .inl (3, 60, 1, []), .inl (3, 60, 1, [])]) C hE (by have := hl.2; simp; omega)
  obtain ⟨hx, hb, hml, hown, hts, hr, hlk, hK, hD, hG⟩ := C
  intro T hT Xs
  obtain ⟨vm₁, cA, comp, -, fA, fC, -, -, X', step⟩ := Xs.multianewarray2F (ty := .long) (n := 4) (k := 60) hx hown (hts _ w1) hO (hts _ w2) (g := F0 m pc ls (.int 60 :: .int 4 :: rest)) rfl (by rw [hb]; exact hd) rfl (by decide) (by decide) (by decide) (by decide) (by decide) rfl rfl hce hsl
  have eA : cA = ct 5 := Option.some.inj (fA.symm.trans (hK.2 5 _ rfl).2)
  have eJ : comp = ct 3 := Option.some.inj (fC.symm.trans (hK.2 3 _ rfl).2)
  subst eA
  subst eJ
  generalize hF : Jvm.Free.Multi.fill (T.setVm vm₁) (ct 5) (ct 3) (4 : Int32).toNatClampNeg (60 : Int32).toNatClampNeg (defaultValue .long) (4 : Int32).toNatClampNeg = F at X' step
  have hTh : (T.setVm vm₁).heap = H := hT
  obtain ⟨f1, f2, -, -⟩ := Jvm.Free.Multi.fill_facts (T.setVm vm₁) (ct 5) (ct 3) (4 : Int32).toNatClampNeg (60 : Int32).toNatClampNeg (defaultValue .long) (4 : Int32).toNatClampNeg
  rw [hF, hTh] at f1 f2
  have hold : ∀ x : Nat, x < H.size → F.heap[x]? = H[x]? := fun x hx1 => by
    have := Jvm.Free.Multi.fill_old (T.setVm vm₁) (ct 5) (ct 3) (4 : Int32).toNatClampNeg (60 : Int32).toNatClampNeg (defaultValue .long) (a := x) (by rw [hTh]; exact hx1) (4 : Int32).toNatClampNeg
    rw [hF, hTh] at this
    exact this
  have hrow : ∀ j : Nat, j < 4 → F.heap[H.size + 1 + j]? = some (Jvm.Free.Multi.innerC (ct 3) 60 (.long 0)) := fun j hj => by
    have := Jvm.Free.Multi.fill_inner (T.setVm vm₁) (ct 5) (ct 3) (4 : Int32).toNatClampNeg (60 : Int32).toNatClampNeg (defaultValue .long) (4 : Int32).toNatClampNeg j hj
    rw [hF, hTh] at this
    exact this
  have f2' : F.heap[H.size]? = some (arrV (ct 5) 4 (fun j => va_rf (if j < 4 then some (H.size + 1 + j) else none))) := by
    rw [f2]
    exact congrArg some (sn_outer (ct 5) 4 H.size 4)
  have f1' : F.heap.size = H.size + 1 + 4 := f1
  have hw : sn_H s D ct ad (lay ++ [.inl (5, 4, 3, []), .inl (3, 60, 1, []), .inl (3, 60, 1, []), .inl (3, 60, 1, []), .inl (3, 60, 1, [])]) A (sn_rw4 σ lay.length) F.heap locs := by
    refine ⟨?_, Nat.le_trans h.2.1 (by omega), fun q h1 h2 => ?_, h.2.2.2⟩
    · rw [sn_W_app, ← sn_W_agB lay 0 (fun a _ hb2 => sn_rw4_ag (by omega))]
      refine (h.1.kept (fun k q hq => hold _ ((h.1 k q hq).lt))).app (fun k q hq => ?_)
      have e0 : ∀ j, j < 5 → ad (lay.length + j) = H.size + j := fun j hj => by rw [hE.1 _ (by omega), hze]; omega
      have inner : ∀ j, j < 4 → F.heap[ad (lay.length + (1 + j))]? = some (vp_cell (ct 3) (60, .inr (.inl (sn_L (sn_rw4 σ lay.length) (lay.length + (1 + j)))))) := fun j hj => by
        rw [e0 _ (by omega), show H.size + (1 + j) = H.size + 1 + j by omega, hrow j hj]
        show some ({ cls := ct 3, slots := Array.replicate 60 (.long 0), vm := .none } : Cell) = some (arrV (ct 3) 60 (fun b => .long (σ.2.1 (lay.length + (1 + j)) b)))
        rw [(hz (1 + j) (by omega)).2.1, arrV_new]
      match k, hq with
      | 0, hq =>
        cases hq
        show F.heap[ad (0 + lay.length)]? = some (arrV (ct 5) 4 (fun j => va_rf ((sn_R (sn_rw4 σ lay.length) (0 + lay.length) j).map ad)))
        have e00 : ad lay.length = H.size := by have := e0 0 (by decide); simpa using this
        rw [Nat.zero_add, e00, f2']
        refine congrArg (fun z => some (arrV (ct 5) 4 z)) (funext fun j => congrArg va_rf ?_)
        have hn2 : σ.2.2 lay.length j = none := by have := (hz 0 (by decide)).2.2; rw [Nat.add_zero] at this; rw [this]
        match j with
        | 0 => simp [sn_R, sn_rw4, sn_pR]; exact (e0 1 (by decide)).symm
        | 1 => simp [sn_R, sn_rw4, sn_pR]; exact (e0 2 (by decide)).symm
        | 2 => simp [sn_R, sn_rw4, sn_pR]; exact (e0 3 (by decide)).symm
        | 3 => simp [sn_R, sn_rw4, sn_pR]; exact (e0 4 (by decide)).symm
        | j + 4 => simp [sn_R, sn_rw4, sn_pR, hn2]
      | 1, hq => cases hq; have := inner 0 (by decide); rw [show 0 + lay.length + 1 = lay.length + (1 + 0) by omega]; exact this
      | 2, hq => cases hq; have := inner 1 (by decide); rw [show 0 + lay.length + 1 + 1 = lay.length + (1 + 1) by omega]; exact this
      | 3, hq => cases hq; have := inner 2 (by decide); rw [show 0 + lay.length + 1 + 1 + 1 = lay.length + (1 + 2) by omega]; exact this
      | 4, hq => cases hq; have := inner 3 (by decide); rw [show 0 + lay.length + 1 + 1 + 1 + 1 = lay.length + (1 + 3) by omega]; exact this
      | k + 5, hq => simp [sn_W] at hq
    · rw [hold q (Nat.lt_of_lt_of_le h1 h.2.1)]
      exact h.2.2.1 q h1 h2
  obtain ⟨t, a1, b1⟩ := kk F.heap C2 hw F rfl X'
  have ea : ad lay.length = T.heap.size := by rw [hT, hE.1 _ (by omega), hze]
  refine ⟨t, step t ?_, b1⟩
  rw [ea] at a1
  exact a1
end AL3
end
section
abbrev sn_ye_0 : sn_E := .inr (2, [2, 2, 2, 2, 2, 2])
abbrev sn_ye_1 : sn_E := .inl (0, 11, 0, [])
abbrev sn_ye_2 : sn_E := .inl (0, 12, 0, [])
abbrev sn_ye_3 : sn_E := .inl (0, 10, 0, [])
abbrev sn_ye_4 : sn_E := .inl (0, 16, 0, [])
abbrev sn_ye_5 : sn_E := .inl (0, 30, 0, [])
abbrev sn_ye_6 : sn_E := .inl (0, 120, 0, [])
abbrev sn_yl_0 : List sn_E := [sn_ye_0, sn_ye_1, sn_ye_2, sn_ye_3, sn_ye_4, sn_ye_5, sn_ye_6]
abbrev sn_yl_1 : List sn_E := [sn_ye_0, sn_ye_1]
abbrev sn_yl_2 : List sn_E := [sn_ye_0, sn_ye_1, sn_ye_2]
abbrev sn_yl_3 : List sn_E := [sn_ye_0, sn_ye_1, sn_ye_2, sn_ye_3]
abbrev sn_yl_4 : List sn_E := [sn_ye_0, sn_ye_1, sn_ye_2, sn_ye_3, sn_ye_4]
abbrev sn_yl_5 : List sn_E := [sn_ye_0, sn_ye_1, sn_ye_2, sn_ye_3, sn_ye_4, sn_ye_5]
abbrev sn_ye_7 : sn_E := .inr (5, [2, 0, 0, 0, 0, 0, 0, 2])
abbrev sn_ye_8 : sn_E := .inl (0, 900, 0, [])
abbrev sn_yl_6 : List sn_E := [sn_ye_7, sn_ye_8]
abbrev sn_ye_9 : sn_E := .inr (0, [0, 0, 0, 0, 2, 2, 2, 2, 2, 2, 2, 2, 2, 2])
abbrev sn_ye_10 : sn_E := .inl (0, 6, 0, [])
abbrev sn_ye_11 : sn_E := .inl (0, 180, 0, [])
abbrev sn_yl_7 : List sn_E := [sn_ye_9, sn_ye_5, sn_ye_10, sn_ye_10, sn_ye_10, sn_ye_10, sn_ye_4, sn_ye_11, sn_ye_11, sn_ye_5, sn_ye_10]
abbrev sn_yl_8 : List sn_E := [sn_ye_9, sn_ye_5]
abbrev sn_yl_9 : List sn_E := [sn_ye_9, sn_ye_5, sn_ye_10]
abbrev sn_yl_10 : List sn_E := [sn_ye_9, sn_ye_5, sn_ye_10, sn_ye_10]
abbrev sn_yl_11 : List sn_E := [sn_ye_9, sn_ye_5, sn_ye_10, sn_ye_10, sn_ye_10]
abbrev sn_yl_12 : List sn_E := [sn_ye_9, sn_ye_5, sn_ye_10, sn_ye_10, sn_ye_10, sn_ye_10]
abbrev sn_yl_13 : List sn_E := [sn_ye_9, sn_ye_5, sn_ye_10, sn_ye_10, sn_ye_10, sn_ye_10, sn_ye_4]
abbrev sn_yl_14 : List sn_E := [sn_ye_9, sn_ye_5, sn_ye_10, sn_ye_10, sn_ye_10, sn_ye_10, sn_ye_4, sn_ye_11]
abbrev sn_yl_15 : List sn_E := [sn_ye_9, sn_ye_5, sn_ye_10, sn_ye_10, sn_ye_10, sn_ye_10, sn_ye_4, sn_ye_11, sn_ye_11]
abbrev sn_yl_16 : List sn_E := [sn_ye_9, sn_ye_5, sn_ye_10, sn_ye_10, sn_ye_10, sn_ye_10, sn_ye_4, sn_ye_11, sn_ye_11, sn_ye_5]
abbrev sn_ye_12 : sn_E := .inr (3, [2, 2, 0, 0])
abbrev sn_yl_17 : List sn_E := [sn_ye_12, sn_ye_10, sn_ye_10]
abbrev sn_yl_18 : List sn_E := [sn_ye_12, sn_ye_10]
abbrev sn_ye_13 : sn_E := .inr (1, [2, 1])
abbrev sn_ye_14 : sn_E := .inl (3, 31, 1, [])
abbrev sn_yl_19 : List sn_E := [sn_ye_13, sn_ye_14]
abbrev sn_ye_15 : sn_E := .inr (7, [2, 0, 0, 0, 2])
abbrev sn_ye_16 : sn_E := .inl (0, 186, 0, [])
abbrev sn_yl_20 : List sn_E := [sn_ye_15, sn_ye_10, sn_ye_16]
abbrev sn_yl_21 : List sn_E := [sn_ye_15, sn_ye_10]
abbrev sn_ye_17 : sn_E := .inr (6, [2, 2, 2])
abbrev sn_ye_18 : sn_E := .inl (5, 4, 3, [])
abbrev sn_ye_19 : sn_E := .inl (3, 60, 1, [])
abbrev sn_ye_20 : sn_E := .inl (0, 4, 0, [])
abbrev sn_yl_22 : List sn_E := [sn_ye_17, sn_ye_18, sn_ye_19, sn_ye_19, sn_ye_19, sn_ye_19, sn_ye_20, sn_ye_20]
abbrev sn_yl_23 : List sn_E := [sn_ye_17, sn_ye_18, sn_ye_19, sn_ye_19, sn_ye_19, sn_ye_19]
abbrev sn_yl_24 : List sn_E := [sn_ye_17, sn_ye_18, sn_ye_19, sn_ye_19, sn_ye_19, sn_ye_19, sn_ye_20]
abbrev sn_ye_21 : sn_E := .inr (8, [2, 2, 2, 2, 2, 2, 2, 2, 2, 2, 2, 2])
abbrev sn_ye_22 : sn_E := .inl (4, 3, 3, [])
abbrev sn_ye_23 : sn_E := .inl (1, 3, 0, [])
abbrev sn_ye_24 : sn_E := .inr (4, [1, 1, 2, 2, 2])
abbrev sn_yl_25 : List sn_E := [sn_ye_21, sn_ye_0, sn_ye_1, sn_ye_2, sn_ye_3, sn_ye_4, sn_ye_5, sn_ye_6, sn_ye_0, sn_ye_1, sn_ye_2, sn_ye_3, sn_ye_4, sn_ye_5, sn_ye_6, sn_ye_22, sn_ye_23, sn_ye_7, sn_ye_8, sn_ye_17, sn_ye_18, sn_ye_19, sn_ye_19, sn_ye_19, sn_ye_19, sn_ye_20, sn_ye_20, sn_ye_9, sn_ye_5, sn_ye_10, sn_ye_10, sn_ye_10, sn_ye_10, sn_ye_4, sn_ye_11, sn_ye_11, sn_ye_5, sn_ye_10, sn_ye_9, sn_ye_5, sn_ye_10, sn_ye_10, sn_ye_10, sn_ye_10, sn_ye_4, sn_ye_11, sn_ye_11, sn_ye_5, sn_ye_10, sn_ye_12, sn_ye_10, sn_ye_10, sn_ye_13, sn_ye_14, sn_ye_15, sn_ye_10, sn_ye_16, sn_ye_24]
abbrev sn_ye_25 : sn_E := .inl (3, 9, 1, [])
abbrev sn_yl_26 : List sn_E := [sn_ye_21, sn_ye_0, sn_ye_1, sn_ye_2, sn_ye_3, sn_ye_4, sn_ye_5, sn_ye_6, sn_ye_0, sn_ye_1, sn_ye_2, sn_ye_3, sn_ye_4, sn_ye_5, sn_ye_6, sn_ye_22, sn_ye_23, sn_ye_7, sn_ye_8, sn_ye_17, sn_ye_18, sn_ye_19, sn_ye_19, sn_ye_19, sn_ye_19, sn_ye_20, sn_ye_20, sn_ye_9, sn_ye_5, sn_ye_10, sn_ye_10, sn_ye_10, sn_ye_10, sn_ye_4, sn_ye_11, sn_ye_11, sn_ye_5, sn_ye_10, sn_ye_9, sn_ye_5, sn_ye_10, sn_ye_10, sn_ye_10, sn_ye_10, sn_ye_4, sn_ye_11, sn_ye_11, sn_ye_5, sn_ye_10, sn_ye_12, sn_ye_10, sn_ye_10, sn_ye_13, sn_ye_14, sn_ye_15, sn_ye_10, sn_ye_16, sn_ye_24, sn_ye_25, sn_ye_9, sn_ye_5, sn_ye_10, sn_ye_10, sn_ye_10, sn_ye_10, sn_ye_4, sn_ye_11, sn_ye_11, sn_ye_5, sn_ye_10, sn_ye_12, sn_ye_10, sn_ye_10]
abbrev sn_yl_27 : List sn_E := [sn_ye_21, sn_ye_0, sn_ye_1, sn_ye_2, sn_ye_3, sn_ye_4, sn_ye_5, sn_ye_6, sn_ye_0, sn_ye_1, sn_ye_2, sn_ye_3, sn_ye_4, sn_ye_5, sn_ye_6, sn_ye_22, sn_ye_23, sn_ye_7, sn_ye_8, sn_ye_17, sn_ye_18, sn_ye_19, sn_ye_19, sn_ye_19, sn_ye_19, sn_ye_20, sn_ye_20, sn_ye_9, sn_ye_5, sn_ye_10, sn_ye_10, sn_ye_10, sn_ye_10, sn_ye_4, sn_ye_11, sn_ye_11, sn_ye_5, sn_ye_10, sn_ye_9, sn_ye_5, sn_ye_10, sn_ye_10, sn_ye_10, sn_ye_10, sn_ye_4, sn_ye_11, sn_ye_11, sn_ye_5, sn_ye_10, sn_ye_12, sn_ye_10, sn_ye_10, sn_ye_13, sn_ye_14, sn_ye_15, sn_ye_10, sn_ye_16, sn_ye_24, sn_ye_25]
abbrev sn_yl_28 : List sn_E := [sn_ye_21, sn_ye_0, sn_ye_1, sn_ye_2, sn_ye_3, sn_ye_4, sn_ye_5, sn_ye_6, sn_ye_0, sn_ye_1, sn_ye_2, sn_ye_3, sn_ye_4, sn_ye_5, sn_ye_6, sn_ye_22, sn_ye_23, sn_ye_7, sn_ye_8, sn_ye_17, sn_ye_18, sn_ye_19, sn_ye_19, sn_ye_19, sn_ye_19, sn_ye_20, sn_ye_20, sn_ye_9, sn_ye_5, sn_ye_10, sn_ye_10, sn_ye_10, sn_ye_10, sn_ye_4, sn_ye_11, sn_ye_11, sn_ye_5, sn_ye_10, sn_ye_9, sn_ye_5, sn_ye_10, sn_ye_10, sn_ye_10, sn_ye_10, sn_ye_4, sn_ye_11, sn_ye_11, sn_ye_5, sn_ye_10, sn_ye_12, sn_ye_10, sn_ye_10, sn_ye_13, sn_ye_14, sn_ye_15, sn_ye_10, sn_ye_16, sn_ye_24, sn_ye_25, sn_ye_9]
abbrev sn_yl_29 : List sn_E := [sn_ye_21, sn_ye_0, sn_ye_1, sn_ye_2, sn_ye_3, sn_ye_4, sn_ye_5, sn_ye_6, sn_ye_0, sn_ye_1, sn_ye_2, sn_ye_3, sn_ye_4, sn_ye_5, sn_ye_6, sn_ye_22, sn_ye_23, sn_ye_7, sn_ye_8, sn_ye_17, sn_ye_18, sn_ye_19, sn_ye_19, sn_ye_19, sn_ye_19, sn_ye_20, sn_ye_20, sn_ye_9, sn_ye_5, sn_ye_10, sn_ye_10, sn_ye_10, sn_ye_10, sn_ye_4, sn_ye_11, sn_ye_11, sn_ye_5, sn_ye_10, sn_ye_9, sn_ye_5, sn_ye_10, sn_ye_10, sn_ye_10, sn_ye_10, sn_ye_4, sn_ye_11, sn_ye_11, sn_ye_5, sn_ye_10, sn_ye_12, sn_ye_10, sn_ye_10, sn_ye_13, sn_ye_14, sn_ye_15, sn_ye_10, sn_ye_16, sn_ye_24, sn_ye_25, sn_ye_9, sn_ye_5, sn_ye_10, sn_ye_10, sn_ye_10, sn_ye_10, sn_ye_4, sn_ye_11, sn_ye_11, sn_ye_5, sn_ye_10]
abbrev sn_yl_30 : List sn_E := [sn_ye_21, sn_ye_0, sn_ye_1, sn_ye_2, sn_ye_3, sn_ye_4, sn_ye_5, sn_ye_6, sn_ye_0, sn_ye_1, sn_ye_2, sn_ye_3, sn_ye_4, sn_ye_5, sn_ye_6, sn_ye_22, sn_ye_23, sn_ye_7, sn_ye_8, sn_ye_17, sn_ye_18, sn_ye_19, sn_ye_19, sn_ye_19, sn_ye_19, sn_ye_20, sn_ye_20, sn_ye_9, sn_ye_5, sn_ye_10, sn_ye_10, sn_ye_10, sn_ye_10, sn_ye_4, sn_ye_11, sn_ye_11, sn_ye_5, sn_ye_10, sn_ye_9, sn_ye_5, sn_ye_10, sn_ye_10, sn_ye_10, sn_ye_10, sn_ye_4, sn_ye_11, sn_ye_11, sn_ye_5, sn_ye_10, sn_ye_12, sn_ye_10, sn_ye_10, sn_ye_13, sn_ye_14, sn_ye_15, sn_ye_10, sn_ye_16, sn_ye_24, sn_ye_25, sn_ye_9, sn_ye_5, sn_ye_10, sn_ye_10, sn_ye_10, sn_ye_10, sn_ye_4, sn_ye_11, sn_ye_11, sn_ye_5, sn_ye_10, sn_ye_12]
abbrev sn_yl_31 : List sn_E := [sn_ye_21, sn_ye_0, sn_ye_1, sn_ye_2, sn_ye_3, sn_ye_4, sn_ye_5, sn_ye_6, sn_ye_0, sn_ye_1, sn_ye_2, sn_ye_3, sn_ye_4, sn_ye_5, sn_ye_6, sn_ye_22, sn_ye_23, sn_ye_7, sn_ye_8, sn_ye_17, sn_ye_18, sn_ye_19, sn_ye_19, sn_ye_19, sn_ye_19, sn_ye_20, sn_ye_20, sn_ye_9, sn_ye_5, sn_ye_10, sn_ye_10, sn_ye_10, sn_ye_10, sn_ye_4, sn_ye_11, sn_ye_11, sn_ye_5, sn_ye_10, sn_ye_9, sn_ye_5, sn_ye_10, sn_ye_10, sn_ye_10, sn_ye_10, sn_ye_4, sn_ye_11, sn_ye_11, sn_ye_5, sn_ye_10, sn_ye_12, sn_ye_10, sn_ye_10, sn_ye_13, sn_ye_14, sn_ye_15, sn_ye_10, sn_ye_16, sn_ye_24, sn_ye_25, sn_ye_9, sn_ye_5, sn_ye_10, sn_ye_10, sn_ye_10, sn_ye_10, sn_ye_4, sn_ye_11, sn_ye_11, sn_ye_5, sn_ye_10, sn_ye_12, sn_ye_10, sn_ye_10, sn_ye_0, sn_ye_1, sn_ye_2, sn_ye_3, sn_ye_4, sn_ye_5, sn_ye_6, sn_ye_0, sn_ye_1, sn_ye_2, sn_ye_3, sn_ye_4, sn_ye_5, sn_ye_6, sn_ye_0, sn_ye_1, sn_ye_2, sn_ye_3, sn_ye_4, sn_ye_5, sn_ye_6]
abbrev sn_yl_32 : List sn_E := [sn_ye_21, sn_ye_0]
abbrev sn_yl_33 : List sn_E := [sn_ye_21, sn_ye_0, sn_ye_1, sn_ye_2, sn_ye_3, sn_ye_4, sn_ye_5, sn_ye_6]
abbrev sn_yl_34 : List sn_E := [sn_ye_21, sn_ye_0, sn_ye_1, sn_ye_2, sn_ye_3, sn_ye_4, sn_ye_5, sn_ye_6, sn_ye_0]
abbrev sn_yl_35 : List sn_E := [sn_ye_21, sn_ye_0, sn_ye_1, sn_ye_2, sn_ye_3, sn_ye_4, sn_ye_5, sn_ye_6, sn_ye_0, sn_ye_1, sn_ye_2, sn_ye_3, sn_ye_4, sn_ye_5, sn_ye_6]
abbrev sn_yl_36 : List sn_E := [sn_ye_21, sn_ye_0, sn_ye_1, sn_ye_2, sn_ye_3, sn_ye_4, sn_ye_5, sn_ye_6, sn_ye_0, sn_ye_1, sn_ye_2, sn_ye_3, sn_ye_4, sn_ye_5, sn_ye_6, sn_ye_22]
abbrev sn_yl_37 : List sn_E := [sn_ye_21, sn_ye_0, sn_ye_1, sn_ye_2, sn_ye_3, sn_ye_4, sn_ye_5, sn_ye_6, sn_ye_0, sn_ye_1, sn_ye_2, sn_ye_3, sn_ye_4, sn_ye_5, sn_ye_6, sn_ye_22, sn_ye_23]
abbrev sn_yl_38 : List sn_E := [sn_ye_21, sn_ye_0, sn_ye_1, sn_ye_2, sn_ye_3, sn_ye_4, sn_ye_5, sn_ye_6, sn_ye_0, sn_ye_1, sn_ye_2, sn_ye_3, sn_ye_4, sn_ye_5, sn_ye_6, sn_ye_22, sn_ye_23, sn_ye_7]
abbrev sn_yl_39 : List sn_E := [sn_ye_21, sn_ye_0, sn_ye_1, sn_ye_2, sn_ye_3, sn_ye_4, sn_ye_5, sn_ye_6, sn_ye_0, sn_ye_1, sn_ye_2, sn_ye_3, sn_ye_4, sn_ye_5, sn_ye_6, sn_ye_22, sn_ye_23, sn_ye_7, sn_ye_8]
abbrev sn_yl_40 : List sn_E := [sn_ye_21, sn_ye_0, sn_ye_1, sn_ye_2, sn_ye_3, sn_ye_4, sn_ye_5, sn_ye_6, sn_ye_0, sn_ye_1, sn_ye_2, sn_ye_3, sn_ye_4, sn_ye_5, sn_ye_6, sn_ye_22, sn_ye_23, sn_ye_7, sn_ye_8, sn_ye_17]
abbrev sn_yl_41 : List sn_E := [sn_ye_21, sn_ye_0, sn_ye_1, sn_ye_2, sn_ye_3, sn_ye_4, sn_ye_5, sn_ye_6, sn_ye_0, sn_ye_1, sn_ye_2, sn_ye_3, sn_ye_4, sn_ye_5, sn_ye_6, sn_ye_22, sn_ye_23, sn_ye_7, sn_ye_8, sn_ye_17, sn_ye_18, sn_ye_19, sn_ye_19, sn_ye_19, sn_ye_19, sn_ye_20, sn_ye_20]
abbrev sn_yl_42 : List sn_E := [sn_ye_21, sn_ye_0, sn_ye_1, sn_ye_2, sn_ye_3, sn_ye_4, sn_ye_5, sn_ye_6, sn_ye_0, sn_ye_1, sn_ye_2, sn_ye_3, sn_ye_4, sn_ye_5, sn_ye_6, sn_ye_22, sn_ye_23, sn_ye_7, sn_ye_8, sn_ye_17, sn_ye_18, sn_ye_19, sn_ye_19, sn_ye_19, sn_ye_19, sn_ye_20, sn_ye_20, sn_ye_9]
abbrev sn_yl_43 : List sn_E := [sn_ye_21, sn_ye_0, sn_ye_1, sn_ye_2, sn_ye_3, sn_ye_4, sn_ye_5, sn_ye_6, sn_ye_0, sn_ye_1, sn_ye_2, sn_ye_3, sn_ye_4, sn_ye_5, sn_ye_6, sn_ye_22, sn_ye_23, sn_ye_7, sn_ye_8, sn_ye_17, sn_ye_18, sn_ye_19, sn_ye_19, sn_ye_19, sn_ye_19, sn_ye_20, sn_ye_20, sn_ye_9, sn_ye_5, sn_ye_10, sn_ye_10, sn_ye_10, sn_ye_10, sn_ye_4, sn_ye_11, sn_ye_11, sn_ye_5, sn_ye_10]
abbrev sn_yl_44 : List sn_E := [sn_ye_21, sn_ye_0, sn_ye_1, sn_ye_2, sn_ye_3, sn_ye_4, sn_ye_5, sn_ye_6, sn_ye_0, sn_ye_1, sn_ye_2, sn_ye_3, sn_ye_4, sn_ye_5, sn_ye_6, sn_ye_22, sn_ye_23, sn_ye_7, sn_ye_8, sn_ye_17, sn_ye_18, sn_ye_19, sn_ye_19, sn_ye_19, sn_ye_19, sn_ye_20, sn_ye_20, sn_ye_9, sn_ye_5, sn_ye_10, sn_ye_10, sn_ye_10, sn_ye_10, sn_ye_4, sn_ye_11, sn_ye_11, sn_ye_5, sn_ye_10, sn_ye_9]
abbrev sn_yl_45 : List sn_E := [sn_ye_21, sn_ye_0, sn_ye_1, sn_ye_2, sn_ye_3, sn_ye_4, sn_ye_5, sn_ye_6, sn_ye_0, sn_ye_1, sn_ye_2, sn_ye_3, sn_ye_4, sn_ye_5, sn_ye_6, sn_ye_22, sn_ye_23, sn_ye_7, sn_ye_8, sn_ye_17, sn_ye_18, sn_ye_19, sn_ye_19, sn_ye_19, sn_ye_19, sn_ye_20, sn_ye_20, sn_ye_9, sn_ye_5, sn_ye_10, sn_ye_10, sn_ye_10, sn_ye_10, sn_ye_4, sn_ye_11, sn_ye_11, sn_ye_5, sn_ye_10, sn_ye_9, sn_ye_5, sn_ye_10, sn_ye_10, sn_ye_10, sn_ye_10, sn_ye_4, sn_ye_11, sn_ye_11, sn_ye_5, sn_ye_10]
abbrev sn_yl_46 : List sn_E := [sn_ye_21, sn_ye_0, sn_ye_1, sn_ye_2, sn_ye_3, sn_ye_4, sn_ye_5, sn_ye_6, sn_ye_0, sn_ye_1, sn_ye_2, sn_ye_3, sn_ye_4, sn_ye_5, sn_ye_6, sn_ye_22, sn_ye_23, sn_ye_7, sn_ye_8, sn_ye_17, sn_ye_18, sn_ye_19, sn_ye_19, sn_ye_19, sn_ye_19, sn_ye_20, sn_ye_20, sn_ye_9, sn_ye_5, sn_ye_10, sn_ye_10, sn_ye_10, sn_ye_10, sn_ye_4, sn_ye_11, sn_ye_11, sn_ye_5, sn_ye_10, sn_ye_9, sn_ye_5, sn_ye_10, sn_ye_10, sn_ye_10, sn_ye_10, sn_ye_4, sn_ye_11, sn_ye_11, sn_ye_5, sn_ye_10, sn_ye_12]
abbrev sn_yl_47 : List sn_E := [sn_ye_21, sn_ye_0, sn_ye_1, sn_ye_2, sn_ye_3, sn_ye_4, sn_ye_5, sn_ye_6, sn_ye_0, sn_ye_1, sn_ye_2, sn_ye_3, sn_ye_4, sn_ye_5, sn_ye_6, sn_ye_22, sn_ye_23, sn_ye_7, sn_ye_8, sn_ye_17, sn_ye_18, sn_ye_19, sn_ye_19, sn_ye_19, sn_ye_19, sn_ye_20, sn_ye_20, sn_ye_9, sn_ye_5, sn_ye_10, sn_ye_10, sn_ye_10, sn_ye_10, sn_ye_4, sn_ye_11, sn_ye_11, sn_ye_5, sn_ye_10, sn_ye_9, sn_ye_5, sn_ye_10, sn_ye_10, sn_ye_10, sn_ye_10, sn_ye_4, sn_ye_11, sn_ye_11, sn_ye_5, sn_ye_10, sn_ye_12, sn_ye_10, sn_ye_10]
abbrev sn_yl_48 : List sn_E := [sn_ye_21, sn_ye_0, sn_ye_1, sn_ye_2, sn_ye_3, sn_ye_4, sn_ye_5, sn_ye_6, sn_ye_0, sn_ye_1, sn_ye_2, sn_ye_3, sn_ye_4, sn_ye_5, sn_ye_6, sn_ye_22, sn_ye_23, sn_ye_7, sn_ye_8, sn_ye_17, sn_ye_18, sn_ye_19, sn_ye_19, sn_ye_19, sn_ye_19, sn_ye_20, sn_ye_20, sn_ye_9, sn_ye_5, sn_ye_10, sn_ye_10, sn_ye_10, sn_ye_10, sn_ye_4, sn_ye_11, sn_ye_11, sn_ye_5, sn_ye_10, sn_ye_9, sn_ye_5, sn_ye_10, sn_ye_10, sn_ye_10, sn_ye_10, sn_ye_4, sn_ye_11, sn_ye_11, sn_ye_5, sn_ye_10, sn_ye_12, sn_ye_10, sn_ye_10, sn_ye_13]
abbrev sn_yl_49 : List sn_E := [sn_ye_21, sn_ye_0, sn_ye_1, sn_ye_2, sn_ye_3, sn_ye_4, sn_ye_5, sn_ye_6, sn_ye_0, sn_ye_1, sn_ye_2, sn_ye_3, sn_ye_4, sn_ye_5, sn_ye_6, sn_ye_22, sn_ye_23, sn_ye_7, sn_ye_8, sn_ye_17, sn_ye_18, sn_ye_19, sn_ye_19, sn_ye_19, sn_ye_19, sn_ye_20, sn_ye_20, sn_ye_9, sn_ye_5, sn_ye_10, sn_ye_10, sn_ye_10, sn_ye_10, sn_ye_4, sn_ye_11, sn_ye_11, sn_ye_5, sn_ye_10, sn_ye_9, sn_ye_5, sn_ye_10, sn_ye_10, sn_ye_10, sn_ye_10, sn_ye_4, sn_ye_11, sn_ye_11, sn_ye_5, sn_ye_10, sn_ye_12, sn_ye_10, sn_ye_10, sn_ye_13, sn_ye_14]
abbrev sn_yl_50 : List sn_E := [sn_ye_21, sn_ye_0, sn_ye_1, sn_ye_2, sn_ye_3, sn_ye_4, sn_ye_5, sn_ye_6, sn_ye_0, sn_ye_1, sn_ye_2, sn_ye_3, sn_ye_4, sn_ye_5, sn_ye_6, sn_ye_22, sn_ye_23, sn_ye_7, sn_ye_8, sn_ye_17, sn_ye_18, sn_ye_19, sn_ye_19, sn_ye_19, sn_ye_19, sn_ye_20, sn_ye_20, sn_ye_9, sn_ye_5, sn_ye_10, sn_ye_10, sn_ye_10, sn_ye_10, sn_ye_4, sn_ye_11, sn_ye_11, sn_ye_5, sn_ye_10, sn_ye_9, sn_ye_5, sn_ye_10, sn_ye_10, sn_ye_10, sn_ye_10, sn_ye_4, sn_ye_11, sn_ye_11, sn_ye_5, sn_ye_10, sn_ye_12, sn_ye_10, sn_ye_10, sn_ye_13, sn_ye_14, sn_ye_15]
abbrev sn_yl_51 : List sn_E := [sn_ye_21, sn_ye_0, sn_ye_1, sn_ye_2, sn_ye_3, sn_ye_4, sn_ye_5, sn_ye_6, sn_ye_0, sn_ye_1, sn_ye_2, sn_ye_3, sn_ye_4, sn_ye_5, sn_ye_6, sn_ye_22, sn_ye_23, sn_ye_7, sn_ye_8, sn_ye_17, sn_ye_18, sn_ye_19, sn_ye_19, sn_ye_19, sn_ye_19, sn_ye_20, sn_ye_20, sn_ye_9, sn_ye_5, sn_ye_10, sn_ye_10, sn_ye_10, sn_ye_10, sn_ye_4, sn_ye_11, sn_ye_11, sn_ye_5, sn_ye_10, sn_ye_9, sn_ye_5, sn_ye_10, sn_ye_10, sn_ye_10, sn_ye_10, sn_ye_4, sn_ye_11, sn_ye_11, sn_ye_5, sn_ye_10, sn_ye_12, sn_ye_10, sn_ye_10, sn_ye_13, sn_ye_14, sn_ye_15, sn_ye_10, sn_ye_16]
abbrev sn_yl_52 : List sn_E := [sn_ye_21, sn_ye_0, sn_ye_1, sn_ye_2, sn_ye_3, sn_ye_4, sn_ye_5, sn_ye_6, sn_ye_0, sn_ye_1, sn_ye_2, sn_ye_3, sn_ye_4, sn_ye_5, sn_ye_6, sn_ye_22, sn_ye_23, sn_ye_7, sn_ye_8, sn_ye_17, sn_ye_18, sn_ye_19, sn_ye_19, sn_ye_19, sn_ye_19, sn_ye_20, sn_ye_20, sn_ye_9, sn_ye_5, sn_ye_10, sn_ye_10, sn_ye_10, sn_ye_10, sn_ye_4, sn_ye_11, sn_ye_11, sn_ye_5, sn_ye_10, sn_ye_9, sn_ye_5, sn_ye_10, sn_ye_10, sn_ye_10, sn_ye_10, sn_ye_4, sn_ye_11, sn_ye_11, sn_ye_5, sn_ye_10, sn_ye_12, sn_ye_10, sn_ye_10, sn_ye_13, sn_ye_14, sn_ye_15, sn_ye_10, sn_ye_16, sn_ye_24, sn_ye_25, sn_ye_9, sn_ye_5, sn_ye_10, sn_ye_10, sn_ye_10, sn_ye_10, sn_ye_4, sn_ye_11, sn_ye_11, sn_ye_5, sn_ye_10, sn_ye_12, sn_ye_10, sn_ye_10, sn_ye_0]
abbrev sn_yl_53 : List sn_E := [sn_ye_21, sn_ye_0, sn_ye_1, sn_ye_2, sn_ye_3, sn_ye_4, sn_ye_5, sn_ye_6, sn_ye_0, sn_ye_1, sn_ye_2, sn_ye_3, sn_ye_4, sn_ye_5, sn_ye_6, sn_ye_22, sn_ye_23, sn_ye_7, sn_ye_8, sn_ye_17, sn_ye_18, sn_ye_19, sn_ye_19, sn_ye_19, sn_ye_19, sn_ye_20, sn_ye_20, sn_ye_9, sn_ye_5, sn_ye_10, sn_ye_10, sn_ye_10, sn_ye_10, sn_ye_4, sn_ye_11, sn_ye_11, sn_ye_5, sn_ye_10, sn_ye_9, sn_ye_5, sn_ye_10, sn_ye_10, sn_ye_10, sn_ye_10, sn_ye_4, sn_ye_11, sn_ye_11, sn_ye_5, sn_ye_10, sn_ye_12, sn_ye_10, sn_ye_10, sn_ye_13, sn_ye_14, sn_ye_15, sn_ye_10, sn_ye_16, sn_ye_24, sn_ye_25, sn_ye_9, sn_ye_5, sn_ye_10, sn_ye_10, sn_ye_10, sn_ye_10, sn_ye_4, sn_ye_11, sn_ye_11, sn_ye_5, sn_ye_10, sn_ye_12, sn_ye_10, sn_ye_10, sn_ye_0, sn_ye_1, sn_ye_2, sn_ye_3, sn_ye_4, sn_ye_5, sn_ye_6]
abbrev sn_yl_54 : List sn_E := [sn_ye_21, sn_ye_0, sn_ye_1, sn_ye_2, sn_ye_3, sn_ye_4, sn_ye_5, sn_ye_6, sn_ye_0, sn_ye_1, sn_ye_2, sn_ye_3, sn_ye_4, sn_ye_5, sn_ye_6, sn_ye_22, sn_ye_23, sn_ye_7, sn_ye_8, sn_ye_17, sn_ye_18, sn_ye_19, sn_ye_19, sn_ye_19, sn_ye_19, sn_ye_20, sn_ye_20, sn_ye_9, sn_ye_5, sn_ye_10, sn_ye_10, sn_ye_10, sn_ye_10, sn_ye_4, sn_ye_11, sn_ye_11, sn_ye_5, sn_ye_10, sn_ye_9, sn_ye_5, sn_ye_10, sn_ye_10, sn_ye_10, sn_ye_10, sn_ye_4, sn_ye_11, sn_ye_11, sn_ye_5, sn_ye_10, sn_ye_12, sn_ye_10, sn_ye_10, sn_ye_13, sn_ye_14, sn_ye_15, sn_ye_10, sn_ye_16, sn_ye_24, sn_ye_25, sn_ye_9, sn_ye_5, sn_ye_10, sn_ye_10, sn_ye_10, sn_ye_10, sn_ye_4, sn_ye_11, sn_ye_11, sn_ye_5, sn_ye_10, sn_ye_12, sn_ye_10, sn_ye_10, sn_ye_0, sn_ye_1, sn_ye_2, sn_ye_3, sn_ye_4, sn_ye_5, sn_ye_6, sn_ye_0]
abbrev sn_yl_55 : List sn_E := [sn_ye_21, sn_ye_0, sn_ye_1, sn_ye_2, sn_ye_3, sn_ye_4, sn_ye_5, sn_ye_6, sn_ye_0, sn_ye_1, sn_ye_2, sn_ye_3, sn_ye_4, sn_ye_5, sn_ye_6, sn_ye_22, sn_ye_23, sn_ye_7, sn_ye_8, sn_ye_17, sn_ye_18, sn_ye_19, sn_ye_19, sn_ye_19, sn_ye_19, sn_ye_20, sn_ye_20, sn_ye_9, sn_ye_5, sn_ye_10, sn_ye_10, sn_ye_10, sn_ye_10, sn_ye_4, sn_ye_11, sn_ye_11, sn_ye_5, sn_ye_10, sn_ye_9, sn_ye_5, sn_ye_10, sn_ye_10, sn_ye_10, sn_ye_10, sn_ye_4, sn_ye_11, sn_ye_11, sn_ye_5, sn_ye_10, sn_ye_12, sn_ye_10, sn_ye_10, sn_ye_13, sn_ye_14, sn_ye_15, sn_ye_10, sn_ye_16, sn_ye_24, sn_ye_25, sn_ye_9, sn_ye_5, sn_ye_10, sn_ye_10, sn_ye_10, sn_ye_10, sn_ye_4, sn_ye_11, sn_ye_11, sn_ye_5, sn_ye_10, sn_ye_12, sn_ye_10, sn_ye_10, sn_ye_0, sn_ye_1, sn_ye_2, sn_ye_3, sn_ye_4, sn_ye_5, sn_ye_6, sn_ye_0, sn_ye_1, sn_ye_2, sn_ye_3, sn_ye_4, sn_ye_5, sn_ye_6]
abbrev sn_yl_56 : List sn_E := [sn_ye_21, sn_ye_0, sn_ye_1, sn_ye_2, sn_ye_3, sn_ye_4, sn_ye_5, sn_ye_6, sn_ye_0, sn_ye_1, sn_ye_2, sn_ye_3, sn_ye_4, sn_ye_5, sn_ye_6, sn_ye_22, sn_ye_23, sn_ye_7, sn_ye_8, sn_ye_17, sn_ye_18, sn_ye_19, sn_ye_19, sn_ye_19, sn_ye_19, sn_ye_20, sn_ye_20, sn_ye_9, sn_ye_5, sn_ye_10, sn_ye_10, sn_ye_10, sn_ye_10, sn_ye_4, sn_ye_11, sn_ye_11, sn_ye_5, sn_ye_10, sn_ye_9, sn_ye_5, sn_ye_10, sn_ye_10, sn_ye_10, sn_ye_10, sn_ye_4, sn_ye_11, sn_ye_11, sn_ye_5, sn_ye_10, sn_ye_12, sn_ye_10, sn_ye_10, sn_ye_13, sn_ye_14, sn_ye_15, sn_ye_10, sn_ye_16, sn_ye_24, sn_ye_25, sn_ye_9, sn_ye_5, sn_ye_10, sn_ye_10, sn_ye_10, sn_ye_10, sn_ye_4, sn_ye_11, sn_ye_11, sn_ye_5, sn_ye_10, sn_ye_12, sn_ye_10, sn_ye_10, sn_ye_0, sn_ye_1, sn_ye_2, sn_ye_3, sn_ye_4, sn_ye_5, sn_ye_6, sn_ye_0, sn_ye_1, sn_ye_2, sn_ye_3, sn_ye_4, sn_ye_5, sn_ye_6, sn_ye_0]
abbrev sn_ye_26 : sn_E := .inr (9, [0, 2, 2, 2, 2, 0, 2, 0, 0, 0, 0, 0, 0, 0, 2, 2, 2, 2, 0, 0, 0, 0, 0, 2, 2, 2, 2, 2, 2, 2, 0, 0, 2, 2, 2, 2, 0, 0, 1, 1, 1, 1, 2, 2, 2, 2])
abbrev sn_ye_27 : sn_E := .inl (0, 119, 0, [])
abbrev sn_ye_28 : sn_E := .inl (0, 357, 0, [])
abbrev sn_ye_29 : sn_E := .inl (2, 900, 0, [])
abbrev sn_ye_30 : sn_E := .inl (0, 5, 0, [])
abbrev sn_ye_31 : sn_E := .inl (0, 961, 0, [])
abbrev sn_ye_32 : sn_E := .inl (0, 270, 0, [])
abbrev sn_ye_33 : sn_E := .inl (0, 1620, 0, [])
abbrev sn_ye_34 : sn_E := .inl (3, 240, 1, [])
abbrev sn_yl_57 : List sn_E := [sn_ye_26, sn_ye_27, sn_ye_28, sn_ye_23, sn_ye_29, sn_ye_30, sn_ye_27, sn_ye_5, sn_ye_10, sn_ye_10, sn_ye_10, sn_ye_5, sn_ye_11, sn_ye_11, sn_ye_10, sn_ye_10, sn_ye_5, sn_ye_31, sn_ye_31, sn_ye_32, sn_ye_33, sn_ye_20, sn_ye_20, sn_ye_34, sn_ye_19]
abbrev sn_yl_58 : List sn_E := [sn_ye_26, sn_ye_27]
abbrev sn_yl_59 : List sn_E := [sn_ye_26, sn_ye_27, sn_ye_28]
abbrev sn_yl_60 : List sn_E := [sn_ye_26, sn_ye_27, sn_ye_28, sn_ye_23]
abbrev sn_yl_61 : List sn_E := [sn_ye_26, sn_ye_27, sn_ye_28, sn_ye_23, sn_ye_29]
abbrev sn_yl_62 : List sn_E := [sn_ye_26, sn_ye_27, sn_ye_28, sn_ye_23, sn_ye_29, sn_ye_30]
abbrev sn_yl_63 : List sn_E := [sn_ye_26, sn_ye_27, sn_ye_28, sn_ye_23, sn_ye_29, sn_ye_30, sn_ye_27]
abbrev sn_yl_64 : List sn_E := [sn_ye_26, sn_ye_27, sn_ye_28, sn_ye_23, sn_ye_29, sn_ye_30, sn_ye_27, sn_ye_5]
abbrev sn_yl_65 : List sn_E := [sn_ye_26, sn_ye_27, sn_ye_28, sn_ye_23, sn_ye_29, sn_ye_30, sn_ye_27, sn_ye_5, sn_ye_10]
abbrev sn_yl_66 : List sn_E := [sn_ye_26, sn_ye_27, sn_ye_28, sn_ye_23, sn_ye_29, sn_ye_30, sn_ye_27, sn_ye_5, sn_ye_10, sn_ye_10]
abbrev sn_yl_67 : List sn_E := [sn_ye_26, sn_ye_27, sn_ye_28, sn_ye_23, sn_ye_29, sn_ye_30, sn_ye_27, sn_ye_5, sn_ye_10, sn_ye_10, sn_ye_10]
abbrev sn_yl_68 : List sn_E := [sn_ye_26, sn_ye_27, sn_ye_28, sn_ye_23, sn_ye_29, sn_ye_30, sn_ye_27, sn_ye_5, sn_ye_10, sn_ye_10, sn_ye_10, sn_ye_5]
abbrev sn_yl_69 : List sn_E := [sn_ye_26, sn_ye_27, sn_ye_28, sn_ye_23, sn_ye_29, sn_ye_30, sn_ye_27, sn_ye_5, sn_ye_10, sn_ye_10, sn_ye_10, sn_ye_5, sn_ye_11]
abbrev sn_yl_70 : List sn_E := [sn_ye_26, sn_ye_27, sn_ye_28, sn_ye_23, sn_ye_29, sn_ye_30, sn_ye_27, sn_ye_5, sn_ye_10, sn_ye_10, sn_ye_10, sn_ye_5, sn_ye_11, sn_ye_11]
abbrev sn_yl_71 : List sn_E := [sn_ye_26, sn_ye_27, sn_ye_28, sn_ye_23, sn_ye_29, sn_ye_30, sn_ye_27, sn_ye_5, sn_ye_10, sn_ye_10, sn_ye_10, sn_ye_5, sn_ye_11, sn_ye_11, sn_ye_10]
abbrev sn_yl_72 : List sn_E := [sn_ye_26, sn_ye_27, sn_ye_28, sn_ye_23, sn_ye_29, sn_ye_30, sn_ye_27, sn_ye_5, sn_ye_10, sn_ye_10, sn_ye_10, sn_ye_5, sn_ye_11, sn_ye_11, sn_ye_10, sn_ye_10]
abbrev sn_yl_73 : List sn_E := [sn_ye_26, sn_ye_27, sn_ye_28, sn_ye_23, sn_ye_29, sn_ye_30, sn_ye_27, sn_ye_5, sn_ye_10, sn_ye_10, sn_ye_10, sn_ye_5, sn_ye_11, sn_ye_11, sn_ye_10, sn_ye_10, sn_ye_5]
abbrev sn_yl_74 : List sn_E := [sn_ye_26, sn_ye_27, sn_ye_28, sn_ye_23, sn_ye_29, sn_ye_30, sn_ye_27, sn_ye_5, sn_ye_10, sn_ye_10, sn_ye_10, sn_ye_5, sn_ye_11, sn_ye_11, sn_ye_10, sn_ye_10, sn_ye_5, sn_ye_31]
abbrev sn_yl_75 : List sn_E := [sn_ye_26, sn_ye_27, sn_ye_28, sn_ye_23, sn_ye_29, sn_ye_30, sn_ye_27, sn_ye_5, sn_ye_10, sn_ye_10, sn_ye_10, sn_ye_5, sn_ye_11, sn_ye_11, sn_ye_10, sn_ye_10, sn_ye_5, sn_ye_31, sn_ye_31]
abbrev sn_yl_76 : List sn_E := [sn_ye_26, sn_ye_27, sn_ye_28, sn_ye_23, sn_ye_29, sn_ye_30, sn_ye_27, sn_ye_5, sn_ye_10, sn_ye_10, sn_ye_10, sn_ye_5, sn_ye_11, sn_ye_11, sn_ye_10, sn_ye_10, sn_ye_5, sn_ye_31, sn_ye_31, sn_ye_32]
abbrev sn_yl_77 : List sn_E := [sn_ye_26, sn_ye_27, sn_ye_28, sn_ye_23, sn_ye_29, sn_ye_30, sn_ye_27, sn_ye_5, sn_ye_10, sn_ye_10, sn_ye_10, sn_ye_5, sn_ye_11, sn_ye_11, sn_ye_10, sn_ye_10, sn_ye_5, sn_ye_31, sn_ye_31, sn_ye_32, sn_ye_33]
abbrev sn_yl_78 : List sn_E := [sn_ye_26, sn_ye_27, sn_ye_28, sn_ye_23, sn_ye_29, sn_ye_30, sn_ye_27, sn_ye_5, sn_ye_10, sn_ye_10, sn_ye_10, sn_ye_5, sn_ye_11, sn_ye_11, sn_ye_10, sn_ye_10, sn_ye_5, sn_ye_31, sn_ye_31, sn_ye_32, sn_ye_33, sn_ye_20]
abbrev sn_yl_79 : List sn_E := [sn_ye_26, sn_ye_27, sn_ye_28, sn_ye_23, sn_ye_29, sn_ye_30, sn_ye_27, sn_ye_5, sn_ye_10, sn_ye_10, sn_ye_10, sn_ye_5, sn_ye_11, sn_ye_11, sn_ye_10, sn_ye_10, sn_ye_5, sn_ye_31, sn_ye_31, sn_ye_32, sn_ye_33, sn_ye_20, sn_ye_20]
abbrev sn_yl_80 : List sn_E := [sn_ye_26, sn_ye_27, sn_ye_28, sn_ye_23, sn_ye_29, sn_ye_30, sn_ye_27, sn_ye_5, sn_ye_10, sn_ye_10, sn_ye_10, sn_ye_5, sn_ye_11, sn_ye_11, sn_ye_10, sn_ye_10, sn_ye_5, sn_ye_31, sn_ye_31, sn_ye_32, sn_ye_33, sn_ye_20, sn_ye_20, sn_ye_34]
/-! arrays of references, as a constructor makes them -/
theorem sn_zr_fl0 {σ : sn_S} {a q k : Nat} {v : Int32} (hn : a ≠ q) (h : sn_zr σ a) : sn_zr (sn_pI σ q k v) a := sn_zr_pI hn h
def sn_fl (σ : sn_S) (q : Nat) : sn_S := sn_pI (sn_pI (sn_pI (sn_pI σ q 0 (-1)) q 1 (-1)) q 2 (-1)) q 3 (-1)
theorem sn_zr_fl {σ : sn_S} {a q : Nat} (hn : a ≠ q) (h : sn_zr σ a) : sn_zr (sn_fl σ q) a := sn_zr_pI hn (sn_zr_pI hn (sn_zr_pI hn (sn_zr_pI hn h)))
theorem sn_fill4 {σ : sn_S} {q : Nat} : fJ7_fill_53178 σ q 4 (-1) = some (sn_fl σ q) := rfl
section AL2
variable {p : Program} {l : Launch} {e : Env} {R : Room} {s : State} {m : MethodId} {args : Array Value} {below : List Frame} {meth : Method} {c : Code} {H : Heap} {locs : List Loc} {cells slots : Nat} {Q : State → Prop}
variable {cc : ByteArray} {pc nL N0 : Nat} {ls : Array Slot} {rest : List Value} {own : String} {ret : Option FieldType} {D : va_G} {ct : Nat → ClassId} {ad : Nat → Nat} {lay : List sn_E} {A : Nat → Prop} {σ : sn_S}
theorem sn_newqs {index N : Nat} {n : Int32} {lay3 : List sn_E} {nn : Nat} (C : sn_C p s m args meth c own cc nL ret D ct ad lay A) (hE : sn_E0 ad A N0) (h : sn_H s D ct ad lay A σ H locs) (hnn : lay.length = nn) (hl3 : lay ++ [.inl (4, N, 3, [])] = lay3) (hl : 0 < nn ∧ nn < 200) (hs : s.heap.size + cells = N0 + nn)
    (w1 : Cond.classLink own index "PepperPolicy$House" ∈ sn_gw) (hO : (Cond.arrayOver (.object "PepperPolicy$House")).before #[] s = true) (hz : sn_zr σ nn) (hn : ¬ n < 0) (hN : n.toNatClampNeg = N) (hby : N * 4 ≤ 536870912) (hce : cells + 1 ≤ R.cells) (hsl : slots + N ≤ R.slots) (hd : decode cc pc = .ok (.anewarray index, 3))
    (kk : ∀ (H : Heap), sn_C p s m args meth c own cc nL ret D ct ad lay3 A → sn_H s D ct ad lay3 A σ H locs → W p l e R s m args below meth c H locs (cells + 1) (slots + N) Q (F0 m (pc + 3) ls (.ref (ad nn) :: rest))) :
    W p l e R s m args below meth c H locs cells slots Q (F0 m pc ls (.int n :: rest)) := by
  subst hnn
  subst hl3
  subst hN
  refine sn_heap hE hl.1 (Nat.le_of_lt hl.2) hs h (fun hze => ?_)
  have C2 := sn_C_lay (lay2 := lay ++ [.inl (4, n.toNatClampNeg, 3, [])]) C hE (by have := hl.2; simp; omega)
  obtain ⟨hx, hb, hml, hown, hts, hr, hlk, hK, hD, hG⟩ := C
  refine W.anew hx hb hown (hts _ w1) (va_AO.use hO) rfl hd rfl hn hby hce hsl fun cA kA comp f1 f2 f3 f4 => ?_
  generalize hH1 : H.push ({ cls := cA, slots := Array.replicate n.toNatClampNeg .null, vm := .none } : Cell) = H1
  have z1 : H1.size = H.size + 1 := by rw [← hH1, Array.size_push]
  have e1 : H1[H.size]? = some (arrV cA n.toNatClampNeg (fun _ => .null)) := by rw [← hH1, Array.getElem?_push_size, ← arrV_new]
  have o1 : ∀ q : Nat, q < H.size → H1[q]? = H[q]? := fun q hq => by rw [← hH1, Array.getElem?_push, if_neg (Nat.ne_of_lt hq)]
  have ec : cA = ct 4 := by
    obtain ⟨kA2, comp2, -, -, -, h2⟩ := (hK.2 4 _ rfl).2
    exact Option.some.inj (f1.symm.trans h2)
  subst ec
  rw [hze, ← hE.1 _ hl.2] at e1
  rw [hze, ← hE.1 _ hl.2]
  refine kk H1 C2 (sn_grow hE hl.2 hze h ?_ z1 o1)
  show H1[ad lay.length]? = some (arrV (ct 4) n.toNatClampNeg (fun j => va_rf ((σ.2.2 lay.length j).map ad)))
  rw [hz.2.2]
  exact e1
theorem sn_aasts {q r n ci k : Nat} {rs : List Nat} {fs : List Nat} {i : Int32} {kT : u_T} {kN : Nat} (C : sn_C p s m args meth c own cc nL ret D ct ad lay A) (h : sn_H s D ct ad lay A σ H locs) (hq : lay[q]? = some (.inl (4, n, 3, rs))) (hv : lay[r]? = some (.inr (ci, fs))) (hc : vwCl[ci]? = some ("PepperPolicy$House", kT, kN)) (hin : sn_in i n = true) (hi : i.toNatClampNeg = k) (hd : decode cc pc = .ok (.aastore, 1))
    (kk : ∀ (H : Heap) (locs : List Loc), sn_H s D ct ad lay A (sn_pR σ q k (some r)) H locs → W p l e R s m args below meth c H locs cells slots Q (F0 m (pc + 1) ls rest)) : W p l e R s m args below meth c H locs cells slots Q (F0 m pc ls (.ref (ad r) :: .int i :: .ref (ad q) :: rest)) := by
  subst hi
  obtain ⟨hx, hb, hml, hown, hts, hr, hlk, hK, hD, hG⟩ := C
  have hg := sn_W_get (ct := ct) (ad := ad) (σ := σ) 0 hq
  have hgv := sn_W_get (ct := ct) (ad := ad) (σ := σ) 0 hv
  rw [Nat.zero_add] at hg hgv
  refine va_astq (f := fun j => (σ.2.2 q j).map ad) (r := ("PepperPolicy$House", kT, kN)) hx hb hK h.1 (hD σ) h.2 q 4 r ci hg rfl hgv hc (sn_in_spec hin) hd (fun H1 locs1 hP1 _ hS1 => kk H1 locs1 ⟨?_, hS1⟩)
  have e2 := sn_W_set (ct := ct) (ad := ad) (σ := σ) (τ := sn_pR σ q i.toNatClampNeg (some r)) 0 hq (fun a ha => by
    rw [Nat.zero_add] at ha
    refine ⟨rfl, rfl, funext fun b => ?_⟩
    show σ.2.2 a b = if a = q ∧ b = i.toNatClampNeg then some r else σ.2.2 a b
    rw [if_neg (fun z => ha z.1)])
  rw [Nat.zero_add] at e2
  rw [← e2]
  refine Eq.mp (congrArg (fun z => va_P D vwCl ((sn_W ct ad σ 0 lay).set q (ad q, .inl (ct 4, n, .inr (.inr (.inr (.inr z)))))) H1) ?_) hP1
  funext b
  show va_up (fun j => (σ.2.2 q j).map ad) i.toNatClampNeg (some (ad r)) b = ((if q = q ∧ b = i.toNatClampNeg then some r else σ.2.2 q b).map ad)
  by_cases hb2 : b = i.toNatClampNeg
  · rw [if_pos ⟨rfl, hb2⟩]
    simp [va_up, hb2]
  · rw [if_neg (fun z => hb2 z.2)]
    simp [va_up, hb2]
end AL2
theorem sn_dfX0 : ∀ (ad : Nat → Nat) (q j : Nat), j < 14 → defaultValue (tyX0 j) = vp_V (sn_fs ad sn_z q 0 [0, 0, 0, 0, 2, 2, 2, 2, 2, 2, 2, 2, 2, 2]) j := by
  intro ad q j hj
  match j, hj with
  | 0, _ => rfl
  | 1, _ => rfl
  | 2, _ => rfl
  | 3, _ => rfl
  | 4, _ => rfl
  | 5, _ => rfl
  | 6, _ => rfl
  | 7, _ => rfl
  | 8, _ => rfl
  | 9, _ => rfl
  | 10, _ => rfl
  | 11, _ => rfl
  | 12, _ => rfl
  | 13, _ => rfl
  | n + 14, h => exact absurd h (by omega)
theorem sn_dfX1 : ∀ (ad : Nat → Nat) (q j : Nat), j < 2 → defaultValue (tyX1 j) = vp_V (sn_fs ad sn_z q 0 [2, 1]) j := by
  intro ad q j hj
  match j, hj with
  | 0, _ => rfl
  | 1, _ => rfl
  | n + 2, h => exact absurd h (by omega)
theorem sn_dfX2 : ∀ (ad : Nat → Nat) (q j : Nat), j < 6 → defaultValue (tyX2 j) = vp_V (sn_fs ad sn_z q 0 [2, 2, 2, 2, 2, 2]) j := by
  intro ad q j hj
  match j, hj with
  | 0, _ => rfl
  | 1, _ => rfl
  | 2, _ => rfl
  | 3, _ => rfl
  | 4, _ => rfl
  | 5, _ => rfl
  | n + 6, h => exact absurd h (by omega)
theorem sn_dfX3 : ∀ (ad : Nat → Nat) (q j : Nat), j < 4 → defaultValue (tyX3 j) = vp_V (sn_fs ad sn_z q 0 [2, 2, 0, 0]) j := by
  intro ad q j hj
  match j, hj with
  | 0, _ => rfl
  | 1, _ => rfl
  | 2, _ => rfl
  | 3, _ => rfl
  | n + 4, h => exact absurd h (by omega)
theorem sn_dfX4 : ∀ (ad : Nat → Nat) (q j : Nat), j < 5 → defaultValue (tyX4 j) = vp_V (sn_fs ad sn_z q 0 [1, 1, 2, 2, 2]) j := by
  intro ad q j hj
  match j, hj with
  | 0, _ => rfl
  | 1, _ => rfl
  | 2, _ => rfl
  | 3, _ => rfl
  | 4, _ => rfl
  | n + 5, h => exact absurd h (by omega)
theorem sn_dfX5 : ∀ (ad : Nat → Nat) (q j : Nat), j < 8 → defaultValue (tyX5 j) = vp_V (sn_fs ad sn_z q 0 [2, 0, 0, 0, 0, 0, 0, 2]) j := by
  intro ad q j hj
  match j, hj with
  | 0, _ => rfl
  | 1, _ => rfl
  | 2, _ => rfl
  | 3, _ => rfl
  | 4, _ => rfl
  | 5, _ => rfl
  | 6, _ => rfl
  | 7, _ => rfl
  | n + 8, h => exact absurd h (by omega)
theorem sn_dfX6 : ∀ (ad : Nat → Nat) (q j : Nat), j < 3 → defaultValue (tyX6 j) = vp_V (sn_fs ad sn_z q 0 [2, 2, 2]) j := by
  intro ad q j hj
  match j, hj with
  | 0, _ => rfl
  | 1, _ => rfl
  | 2, _ => rfl
  | n + 3, h => exact absurd h (by omega)
theorem sn_dfX7 : ∀ (ad : Nat → Nat) (q j : Nat), j < 5 → defaultValue (tyX7 j) = vp_V (sn_fs ad sn_z q 0 [2, 0, 0, 0, 2]) j := by
  intro ad q j hj
  match j, hj with
  | 0, _ => rfl
  | 1, _ => rfl
  | 2, _ => rfl
  | 3, _ => rfl
  | 4, _ => rfl
  | n + 5, h => exact absurd h (by omega)
theorem sn_dfX8 : ∀ (ad : Nat → Nat) (q j : Nat), j < 12 → defaultValue (tyX8 j) = vp_V (sn_fs ad sn_z q 0 [2, 2, 2, 2, 2, 2, 2, 2, 2, 2, 2, 2]) j := by
  intro ad q j hj
  match j, hj with
  | 0, _ => rfl
  | 1, _ => rfl
  | 2, _ => rfl
  | 3, _ => rfl
  | 4, _ => rfl
  | 5, _ => rfl
  | 6, _ => rfl
  | 7, _ => rfl
  | 8, _ => rfl
  | 9, _ => rfl
  | 10, _ => rfl
  | 11, _ => rfl
  | n + 12, h => exact absurd h (by omega)
theorem sn_dfX9 : ∀ (ad : Nat → Nat) (q j : Nat), j < 46 → defaultValue (tyX9 j) = vp_V (sn_fs ad sn_z q 0 [0, 2, 2, 2, 2, 0, 2, 0, 0, 0, 0, 0, 0, 0, 2, 2, 2, 2, 0, 0, 0, 0, 0, 2, 2, 2, 2, 2, 2, 2, 0, 0, 2, 2, 2, 2, 0, 0, 1, 1, 1, 1, 2, 2, 2, 2]) j := by
  intro ad q j hj
  match j, hj with
  | 0, _ => rfl
  | 1, _ => rfl
  | 2, _ => rfl
  | 3, _ => rfl
  | 4, _ => rfl
  | 5, _ => rfl
  | 6, _ => rfl
  | 7, _ => rfl
  | 8, _ => rfl
  | 9, _ => rfl
  | 10, _ => rfl
  | 11, _ => rfl
  | 12, _ => rfl
  | 13, _ => rfl
  | 14, _ => rfl
  | 15, _ => rfl
  | 16, _ => rfl
  | 17, _ => rfl
  | 18, _ => rfl
  | 19, _ => rfl
  | 20, _ => rfl
  | 21, _ => rfl
  | 22, _ => rfl
  | 23, _ => rfl
  | 24, _ => rfl
  | 25, _ => rfl
  | 26, _ => rfl
  | 27, _ => rfl
  | 28, _ => rfl
  | 29, _ => rfl
  | 30, _ => rfl
  | 31, _ => rfl
  | 32, _ => rfl
  | 33, _ => rfl
  | 34, _ => rfl
  | 35, _ => rfl
  | 36, _ => rfl
  | 37, _ => rfl
  | 38, _ => rfl
  | 39, _ => rfl
  | 40, _ => rfl
  | 41, _ => rfl
  | 42, _ => rfl
  | 43, _ => rfl
  | 44, _ => rfl
  | 45, _ => rfl
  | n + 46, h => exact absurd h (by omega)
-- X2_init
abbrev rmX2_init : Room := { frames := 1, cells := 6, slots := 199, locals := 12 }
def sn_iniX2 (σ : sn_S) (n : Nat) : sn_S := (sn_pR (sn_pR (sn_pR (sn_pR (sn_pR (sn_pR σ n 0 (some (n + 1))) n 1 (some (n + 2))) n 2 (some (n + 3))) n 3 (some (n + 4))) n 4 (some (n + 5))) n 5 (some (n + 6)))
theorem sn_zr_iniX2 {σ : sn_S} {n a : Nat} (hn : n + 7 ≤ a) (h : sn_zr σ a) : sn_zr (sn_iniX2 σ n) a := sn_zr_pR (by omega) (sn_zr_pR (by omega) (sn_zr_pR (by omega) (sn_zr_pR (by omega) (sn_zr_pR (by omega) (sn_zr_pR (by omega) (h))))))
theorem ctX2_init (l : Launch) (lay : List sn_E) (hl200 : lay.length + 7 ≤ 200) (σ : sn_S) (hz : ∀ a, lay.length ≤ a → sn_zr σ a) : sn_MA l yX2_init cX2_init 1 rmX2_init (lay ++ [.inr (2, [2, 2, 2, 2, 2, 2])]) (lay ++ sn_yl_0) (fun ad => [.ref (ad lay.length)]) σ (sn_iniX2 σ lay.length) 6 199 :=
  sn_metA (by decide) rfl (by rw [List.length_append]; show lay.length + 1 ≤ 200; omega) (fun _ => Nat.le_of_ble_eq_true rfl) (fun p e s m args below meth c ls D ct ad A N0 C hE hni hAO hsz1 hw hl => by
    have hx := C.1
    have hb := C.2.1
    have hAA := hAO.2
    have hAH := hAO.1
    have hsz0 : s.heap.size = N0 + (lay.length + 1) := by rw [hsz1, List.length_append]; rfl
    refine lv_aload_n hx hb dX2_init_0 rfl (lv_at hl 0 rfl) ?_
    refine W.objInit hx hb C.2.2.2.1 (C.2.2.2.2.1 _ km_RX2_3) (C.2.2.2.2.1 _ kin_objectInit) (C.2.2.2.2.1 _ kc_objectInit) rfl (by rw [C.2.2.1]; exact hl.1) rfl dX2_init_1 (Nat.le_of_ble_eq_true rfl) (Nat.le_of_ble_eq_true rfl) ?_
    refine W.eq (g2 := F0 m 4 ls []) rfl ?_
    refine lv_aload_n hx hb dX2_init_4 rfl (lv_at hl 0 rfl) ?_
    refine lv_bipush (v := 11) hx hb dX2_init_5 (by decide) ?_
    refine sn_newarr (t := 0) (N := 11) (kd := 0) (ty := .int) (lay3 := lay ++ sn_yl_1) (nn := (lay.length + 1)) C hE hw (by rw [List.length_append]; rfl) (by rw [List.append_assoc]; rfl) (by omega) (by omega) rfl rfl (fun K h => by cases h) ka_int (sn_cI (hz _ (by omega))) (by decide) (by decide) (Nat.le_of_ble_eq_true rfl) (Nat.le_of_ble_eq_true rfl) (Nat.le_of_ble_eq_true rfl) dX2_init_7 (fun H C hw => ?_)
    refine sn_putF C hni hw ff_RX2_9 (sn_apg (k := 0) rfl) rfl rfl rfl dX2_init_9 (fun H locs hw => ?_)
    refine lv_aload_n hx hb dX2_init_12 rfl (lv_at hl 0 rfl) ?_
    refine lv_bipush (v := 12) hx hb dX2_init_13 (by decide) ?_
    refine sn_newarr (t := 0) (N := 12) (kd := 0) (ty := .int) (lay3 := lay ++ sn_yl_2) (nn := (lay.length + 2)) C hE hw (by rw [List.length_append]; rfl) (by rw [List.append_assoc]; rfl) (by omega) (by omega) rfl rfl (fun K h => by cases h) ka_int (sn_cI (sn_zr_pR (by omega) (hz _ (by omega)))) (by decide) (by decide) (Nat.le_of_ble_eq_true rfl) (Nat.le_of_ble_eq_true rfl) (Nat.le_of_ble_eq_true rfl) dX2_init_15 (fun H C hw => ?_)
    refine sn_putF C hni hw ff_RX2_15 (sn_apg (k := 0) rfl) rfl rfl rfl dX2_init_17 (fun H locs hw => ?_)
    refine lv_aload_n hx hb dX2_init_20 rfl (lv_at hl 0 rfl) ?_
    refine lv_bipush (v := 10) hx hb dX2_init_21 (by decide) ?_
    refine sn_newarr (t := 0) (N := 10) (kd := 0) (ty := .int) (lay3 := lay ++ sn_yl_3) (nn := (lay.length + 3)) C hE hw (by rw [List.length_append]; rfl) (by rw [List.append_assoc]; rfl) (by omega) (by omega) rfl rfl (fun K h => by cases h) ka_int (sn_cI (sn_zr_pR (by omega) (sn_zr_pR (by omega) (hz _ (by omega))))) (by decide) (by decide) (Nat.le_of_ble_eq_true rfl) (Nat.le_of_ble_eq_true rfl) (Nat.le_of_ble_eq_true rfl) dX2_init_23 (fun H C hw => ?_)
    refine sn_putF C hni hw ff_RX2_18 (sn_apg (k := 0) rfl) rfl rfl rfl dX2_init_25 (fun H locs hw => ?_)
    refine lv_aload_n hx hb dX2_init_28 rfl (lv_at hl 0 rfl) ?_
    refine lv_bipush (v := 16) hx hb dX2_init_29 (by decide) ?_
    refine sn_newarr (t := 0) (N := 16) (kd := 0) (ty := .int) (lay3 := lay ++ sn_yl_4) (nn := (lay.length + 4)) C hE hw (by rw [List.length_append]; rfl) (by rw [List.append_assoc]; rfl) (by omega) (by omega) rfl rfl (fun K h => by cases h) ka_int (sn_cI (sn_zr_pR (by omega) (sn_zr_pR (by omega) (sn_zr_pR (by omega) (hz _ (by omega)))))) (by decide) (by decide) (Nat.le_of_ble_eq_true rfl) (Nat.le_of_ble_eq_true rfl) (Nat.le_of_ble_eq_true rfl) dX2_init_31 (fun H C hw => ?_)
    refine sn_putF C hni hw ff_RX2_21 (sn_apg (k := 0) rfl) rfl rfl rfl dX2_init_33 (fun H locs hw => ?_)
    refine lv_aload_n hx hb dX2_init_36 rfl (lv_at hl 0 rfl) ?_
    refine lv_bipush (v := 30) hx hb dX2_init_37 (by decide) ?_
    refine sn_newarr (t := 0) (N := 30) (kd := 0) (ty := .int) (lay3 := lay ++ sn_yl_5) (nn := (lay.length + 5)) C hE hw (by rw [List.length_append]; rfl) (by rw [List.append_assoc]; rfl) (by omega) (by omega) rfl rfl (fun K h => by cases h) ka_int (sn_cI (sn_zr_pR (by omega) (sn_zr_pR (by omega) (sn_zr_pR (by omega) (sn_zr_pR (by omega) (hz _ (by omega))))))) (by decide) (by decide) (Nat.le_of_ble_eq_true rfl) (Nat.le_of_ble_eq_true rfl) (Nat.le_of_ble_eq_true rfl) dX2_init_39 (fun H C hw => ?_)
    refine sn_putF C hni hw ff_RX2_24 (sn_apg (k := 0) rfl) rfl rfl rfl dX2_init_41 (fun H locs hw => ?_)
    refine lv_aload_n hx hb dX2_init_44 rfl (lv_at hl 0 rfl) ?_
    refine lv_bipush (v := 120) hx hb dX2_init_45 (by decide) ?_
    refine sn_newarr (t := 0) (N := 120) (kd := 0) (ty := .int) (lay3 := lay ++ sn_yl_0) (nn := (lay.length + 6)) C hE hw (by rw [List.length_append]; rfl) (by rw [List.append_assoc]; rfl) (by omega) (by omega) rfl rfl (fun K h => by cases h) ka_int (sn_cI (sn_zr_pR (by omega) (sn_zr_pR (by omega) (sn_zr_pR (by omega) (sn_zr_pR (by omega) (sn_zr_pR (by omega) (hz _ (by omega)))))))) (by decide) (by decide) (Nat.le_of_ble_eq_true rfl) (Nat.le_of_ble_eq_true rfl) (Nat.le_of_ble_eq_true rfl) dX2_init_47 (fun H C hw => ?_)
    refine sn_putF C hni hw ff_RX2_27 (sn_apg (k := 0) rfl) rfl rfl rfl dX2_init_49 (fun H locs hw => ?_)
    exact sn_vretA C hw rfl rfl dX2_init_52)

-- X5_init
abbrev rmX5_init : Room := { frames := 1, cells := 1, slots := 900, locals := 12 }
def sn_iniX5 (σ : sn_S) (n : Nat) : sn_S := (sn_pI (sn_pR σ n 0 (some (n + 1))) n 3 (-1))
theorem sn_zr_iniX5 {σ : sn_S} {n a : Nat} (hn : n + 2 ≤ a) (h : sn_zr σ a) : sn_zr (sn_iniX5 σ n) a := sn_zr_pI (by omega) (sn_zr_pR (by omega) (h))
theorem ctX5_init (l : Launch) (lay : List sn_E) (hl200 : lay.length + 2 ≤ 200) (σ : sn_S) (hz : ∀ a, lay.length ≤ a → sn_zr σ a) : sn_MA l yX5_init cX5_init 1 rmX5_init (lay ++ [.inr (5, [2, 0, 0, 0, 0, 0, 0, 2])]) (lay ++ sn_yl_6) (fun ad => [.ref (ad lay.length)]) σ (sn_iniX5 σ lay.length) 1 900 :=
  sn_metA (by decide) rfl (by rw [List.length_append]; show lay.length + 1 ≤ 200; omega) (fun _ => Nat.le_of_ble_eq_true rfl) (fun p e s m args below meth c ls D ct ad A N0 C hE hni hAO hsz1 hw hl => by
    have hx := C.1
    have hb := C.2.1
    have hAA := hAO.2
    have hAH := hAO.1
    have hsz0 : s.heap.size = N0 + (lay.length + 1) := by rw [hsz1, List.length_append]; rfl
    refine lv_aload_n hx hb dX5_init_0 rfl (lv_at hl 0 rfl) ?_
    refine W.objInit hx hb C.2.2.2.1 (C.2.2.2.2.1 _ km_RX5_3) (C.2.2.2.2.1 _ kin_objectInit) (C.2.2.2.2.1 _ kc_objectInit) rfl (by rw [C.2.2.1]; exact hl.1) rfl dX5_init_1 (Nat.le_of_ble_eq_true rfl) (Nat.le_of_ble_eq_true rfl) ?_
    refine W.eq (g2 := F0 m 4 ls []) rfl ?_
    refine lv_aload_n hx hb dX5_init_4 rfl (lv_at hl 0 rfl) ?_
    refine lv_sipush (v := 900) hx hb dX5_init_5 (by decide) ?_
    refine sn_newarr (t := 0) (N := 900) (kd := 0) (ty := .int) (lay3 := lay ++ sn_yl_6) (nn := (lay.length + 1)) C hE hw (by rw [List.length_append]; rfl) (by rw [List.append_assoc]; rfl) (by omega) (by omega) rfl rfl (fun K h => by cases h) ka_int (sn_cI (hz _ (by omega))) (by decide) (by decide) (Nat.le_of_ble_eq_true rfl) (Nat.le_of_ble_eq_true rfl) (Nat.le_of_ble_eq_true rfl) dX5_init_8 (fun H C hw => ?_)
    refine sn_putF C hni hw ff_RX5_9 (sn_apg (k := 0) rfl) rfl rfl rfl dX5_init_10 (fun H locs hw => ?_)
    refine lv_aload_n hx hb dX5_init_13 rfl (lv_at hl 0 rfl) ?_
    refine lv_iconst (v := (-1)) hx hb dX5_init_14 rfl ?_
    refine sn_putI C hw fp_RX5_15 (sn_apg (k := 0) rfl) rfl dX5_init_15 (fun H locs hw => ?_)
    exact sn_vretA C hw rfl rfl dX5_init_18)

-- X0_init
abbrev rmX0_init : Room := { frames := 1, cells := 10, slots := 466, locals := 12 }
def sn_iniX0 (σ : sn_S) (n : Nat) : sn_S := (sn_pR (sn_pR (sn_pR (sn_pR (sn_pR (sn_pR (sn_pR (sn_pR (sn_pR (sn_pR (sn_pI σ n 3 (-1)) n 4 (some (n + 1))) n 5 (some (n + 2))) n 6 (some (n + 3))) n 7 (some (n + 4))) n 8 (some (n + 5))) n 9 (some (n + 6))) n 10 (some (n + 7))) n 11 (some (n + 8))) n 12 (some (n + 9))) n 13 (some (n + 10)))
theorem sn_zr_iniX0 {σ : sn_S} {n a : Nat} (hn : n + 11 ≤ a) (h : sn_zr σ a) : sn_zr (sn_iniX0 σ n) a := sn_zr_pR (by omega) (sn_zr_pR (by omega) (sn_zr_pR (by omega) (sn_zr_pR (by omega) (sn_zr_pR (by omega) (sn_zr_pR (by omega) (sn_zr_pR (by omega) (sn_zr_pR (by omega) (sn_zr_pR (by omega) (sn_zr_pR (by omega) (sn_zr_pI (by omega) (h)))))))))))
theorem ctX0_init (l : Launch) (lay : List sn_E) (hl200 : lay.length + 11 ≤ 200) (σ : sn_S) (hz : ∀ a, lay.length ≤ a → sn_zr σ a) : sn_MA l yX0_init cX0_init 1 rmX0_init (lay ++ [.inr (0, [0, 0, 0, 0, 2, 2, 2, 2, 2, 2, 2, 2, 2, 2])]) (lay ++ sn_yl_7) (fun ad => [.ref (ad lay.length)]) σ (sn_iniX0 σ lay.length) 10 466 :=
  sn_metA (by decide) rfl (by rw [List.length_append]; show lay.length + 1 ≤ 200; omega) (fun _ => Nat.le_of_ble_eq_true rfl) (fun p e s m args below meth c ls D ct ad A N0 C hE hni hAO hsz1 hw hl => by
    have hx := C.1
    have hb := C.2.1
    have hAA := hAO.2
    have hAH := hAO.1
    have hsz0 : s.heap.size = N0 + (lay.length + 1) := by rw [hsz1, List.length_append]; rfl
    refine lv_aload_n hx hb dX0_init_0 rfl (lv_at hl 0 rfl) ?_
    refine W.objInit hx hb C.2.2.2.1 (C.2.2.2.2.1 _ km_RX0_3) (C.2.2.2.2.1 _ kin_objectInit) (C.2.2.2.2.1 _ kc_objectInit) rfl (by rw [C.2.2.1]; exact hl.1) rfl dX0_init_1 (Nat.le_of_ble_eq_true rfl) (Nat.le_of_ble_eq_true rfl) ?_
    refine W.eq (g2 := F0 m 4 ls []) rfl ?_
    refine lv_aload_n hx hb dX0_init_4 rfl (lv_at hl 0 rfl) ?_
    refine lv_iconst (v := (-1)) hx hb dX0_init_5 rfl ?_
    refine sn_putI C hw fp_RX0_9 (sn_apg (k := 0) rfl) rfl dX0_init_6 (fun H locs hw => ?_)
    refine lv_aload_n hx hb dX0_init_9 rfl (lv_at hl 0 rfl) ?_
    refine lv_bipush (v := 30) hx hb dX0_init_10 (by decide) ?_
    refine sn_newarr (t := 0) (N := 30) (kd := 0) (ty := .int) (lay3 := lay ++ sn_yl_8) (nn := (lay.length + 1)) C hE hw (by rw [List.length_append]; rfl) (by rw [List.append_assoc]; rfl) (by omega) (by omega) rfl rfl (fun K h => by cases h) ka_int (sn_cI (sn_zr_pI (by omega) (hz _ (by omega)))) (by decide) (by decide) (Nat.le_of_ble_eq_true rfl) (Nat.le_of_ble_eq_true rfl) (Nat.le_of_ble_eq_true rfl) dX0_init_12 (fun H C hw => ?_)
    refine sn_putF C hni hw ff_RX0_15 (sn_apg (k := 0) rfl) rfl rfl rfl dX0_init_14 (fun H locs hw => ?_)
    refine lv_aload_n hx hb dX0_init_17 rfl (lv_at hl 0 rfl) ?_
    refine lv_bipush (v := 6) hx hb dX0_init_18 (by decide) ?_
    refine sn_newarr (t := 0) (N := 6) (kd := 0) (ty := .int) (lay3 := lay ++ sn_yl_9) (nn := (lay.length + 2)) C hE hw (by rw [List.length_append]; rfl) (by rw [List.append_assoc]; rfl) (by omega) (by omega) rfl rfl (fun K h => by cases h) ka_int (sn_cI (sn_zr_pR (by omega) (sn_zr_pI (by omega) (hz _ (by omega))))) (by decide) (by decide) (Nat.le_of_ble_eq_true rfl) (Nat.le_of_ble_eq_true rfl) (Nat.le_of_ble_eq_true rfl) dX0_init_20 (fun H C hw => ?_)
    refine sn_putF C hni hw ff_RX0_19 (sn_apg (k := 0) rfl) rfl rfl rfl dX0_init_22 (fun H locs hw => ?_)
    refine lv_aload_n hx hb dX0_init_25 rfl (lv_at hl 0 rfl) ?_
    refine lv_bipush (v := 6) hx hb dX0_init_26 (by decide) ?_
    refine sn_newarr (t := 0) (N := 6) (kd := 0) (ty := .int) (lay3 := lay ++ sn_yl_10) (nn := (lay.length + 3)) C hE hw (by rw [List.length_append]; rfl) (by rw [List.append_assoc]; rfl) (by omega) (by omega) rfl rfl (fun K h => by cases h) ka_int (sn_cI (sn_zr_pR (by omega) (sn_zr_pR (by omega) (sn_zr_pI (by omega) (hz _ (by omega)))))) (by decide) (by decide) (Nat.le_of_ble_eq_true rfl) (Nat.le_of_ble_eq_true rfl) (Nat.le_of_ble_eq_true rfl) dX0_init_28 (fun H C hw => ?_)
    refine sn_putF C hni hw ff_RX0_22 (sn_apg (k := 0) rfl) rfl rfl rfl dX0_init_30 (fun H locs hw => ?_)
    refine lv_aload_n hx hb dX0_init_33 rfl (lv_at hl 0 rfl) ?_
    refine lv_bipush (v := 6) hx hb dX0_init_34 (by decide) ?_
    refine sn_newarr (t := 0) (N := 6) (kd := 0) (ty := .int) (lay3 := lay ++ sn_yl_11) (nn := (lay.length + 4)) C hE hw (by rw [List.length_append]; rfl) (by rw [List.append_assoc]; rfl) (by omega) (by omega) rfl rfl (fun K h => by cases h) ka_int (sn_cI (sn_zr_pR (by omega) (sn_zr_pR (by omega) (sn_zr_pR (by omega) (sn_zr_pI (by omega) (hz _ (by omega))))))) (by decide) (by decide) (Nat.le_of_ble_eq_true rfl) (Nat.le_of_ble_eq_true rfl) (Nat.le_of_ble_eq_true rfl) dX0_init_36 (fun H C hw => ?_)
    refine sn_putF C hni hw ff_RX0_25 (sn_apg (k := 0) rfl) rfl rfl rfl dX0_init_38 (fun H locs hw => ?_)
    refine lv_aload_n hx hb dX0_init_41 rfl (lv_at hl 0 rfl) ?_
    refine lv_bipush (v := 6) hx hb dX0_init_42 (by decide) ?_
    refine sn_newarr (t := 0) (N := 6) (kd := 0) (ty := .int) (lay3 := lay ++ sn_yl_12) (nn := (lay.length + 5)) C hE hw (by rw [List.length_append]; rfl) (by rw [List.append_assoc]; rfl) (by omega) (by omega) rfl rfl (fun K h => by cases h) ka_int (sn_cI (sn_zr_pR (by omega) (sn_zr_pR (by omega) (sn_zr_pR (by omega) (sn_zr_pR (by omega) (sn_zr_pI (by omega) (hz _ (by omega)))))))) (by decide) (by decide) (Nat.le_of_ble_eq_true rfl) (Nat.le_of_ble_eq_true rfl) (Nat.le_of_ble_eq_true rfl) dX0_init_44 (fun H C hw => ?_)
    refine sn_putF C hni hw ff_RX0_28 (sn_apg (k := 0) rfl) rfl rfl rfl dX0_init_46 (fun H locs hw => ?_)
    refine lv_aload_n hx hb dX0_init_49 rfl (lv_at hl 0 rfl) ?_
    refine lv_bipush (v := 16) hx hb dX0_init_50 (by decide) ?_
    refine sn_newarr (t := 0) (N := 16) (kd := 0) (ty := .int) (lay3 := lay ++ sn_yl_13) (nn := (lay.length + 6)) C hE hw (by rw [List.length_append]; rfl) (by rw [List.append_assoc]; rfl) (by omega) (by omega) rfl rfl (fun K h => by cases h) ka_int (sn_cI (sn_zr_pR (by omega) (sn_zr_pR (by omega) (sn_zr_pR (by omega) (sn_zr_pR (by omega) (sn_zr_pR (by omega) (sn_zr_pI (by omega) (hz _ (by omega))))))))) (by decide) (by decide) (Nat.le_of_ble_eq_true rfl) (Nat.le_of_ble_eq_true rfl) (Nat.le_of_ble_eq_true rfl) dX0_init_52 (fun H C hw => ?_)
    refine sn_putF C hni hw ff_RX0_31 (sn_apg (k := 0) rfl) rfl rfl rfl dX0_init_54 (fun H locs hw => ?_)
    refine lv_aload_n hx hb dX0_init_57 rfl (lv_at hl 0 rfl) ?_
    refine lv_sipush (v := 180) hx hb dX0_init_58 (by decide) ?_
    refine sn_newarr (t := 0) (N := 180) (kd := 0) (ty := .int) (lay3 := lay ++ sn_yl_14) (nn := (lay.length + 7)) C hE hw (by rw [List.length_append]; rfl) (by rw [List.append_assoc]; rfl) (by omega) (by omega) rfl rfl (fun K h => by cases h) ka_int (sn_cI (sn_zr_pR (by omega) (sn_zr_pR (by omega) (sn_zr_pR (by omega) (sn_zr_pR (by omega) (sn_zr_pR (by omega) (sn_zr_pR (by omega) (sn_zr_pI (by omega) (hz _ (by omega)))))))))) (by decide) (by decide) (Nat.le_of_ble_eq_true rfl) (Nat.le_of_ble_eq_true rfl) (Nat.le_of_ble_eq_true rfl) dX0_init_61 (fun H C hw => ?_)
    refine sn_putF C hni hw ff_RX0_34 (sn_apg (k := 0) rfl) rfl rfl rfl dX0_init_63 (fun H locs hw => ?_)
    refine lv_aload_n hx hb dX0_init_66 rfl (lv_at hl 0 rfl) ?_
    refine lv_sipush (v := 180) hx hb dX0_init_67 (by decide) ?_
    refine sn_newarr (t := 0) (N := 180) (kd := 0) (ty := .int) (lay3 := lay ++ sn_yl_15) (nn := (lay.length + 8)) C hE hw (by rw [List.length_append]; rfl) (by rw [List.append_assoc]; rfl) (by omega) (by omega) rfl rfl (fun K h => by cases h) ka_int (sn_cI (sn_zr_pR (by omega) (sn_zr_pR (by omega) (sn_zr_pR (by omega) (sn_zr_pR (by omega) (sn_zr_pR (by omega) (sn_zr_pR (by omega) (sn_zr_pR (by omega) (sn_zr_pI (by omega) (hz _ (by omega))))))))))) (by decide) (by decide) (Nat.le_of_ble_eq_true rfl) (Nat.le_of_ble_eq_true rfl) (Nat.le_of_ble_eq_true rfl) dX0_init_70 (fun H C hw => ?_)
    refine sn_putF C hni hw ff_RX0_37 (sn_apg (k := 0) rfl) rfl rfl rfl dX0_init_72 (fun H locs hw => ?_)
    refine lv_aload_n hx hb dX0_init_75 rfl (lv_at hl 0 rfl) ?_
    refine lv_bipush (v := 30) hx hb dX0_init_76 (by decide) ?_
    refine sn_newarr (t := 0) (N := 30) (kd := 0) (ty := .int) (lay3 := lay ++ sn_yl_16) (nn := (lay.length + 9)) C hE hw (by rw [List.length_append]; rfl) (by rw [List.append_assoc]; rfl) (by omega) (by omega) rfl rfl (fun K h => by cases h) ka_int (sn_cI (sn_zr_pR (by omega) (sn_zr_pR (by omega) (sn_zr_pR (by omega) (sn_zr_pR (by omega) (sn_zr_pR (by omega) (sn_zr_pR (by omega) (sn_zr_pR (by omega) (sn_zr_pR (by omega) (sn_zr_pI (by omega) (hz _ (by omega)))))))))))) (by decide) (by decide) (Nat.le_of_ble_eq_true rfl) (Nat.le_of_ble_eq_true rfl) (Nat.le_of_ble_eq_true rfl) dX0_init_78 (fun H C hw => ?_)
    refine sn_putF C hni hw ff_RX0_40 (sn_apg (k := 0) rfl) rfl rfl rfl dX0_init_80 (fun H locs hw => ?_)
    refine lv_aload_n hx hb dX0_init_83 rfl (lv_at hl 0 rfl) ?_
    refine lv_bipush (v := 6) hx hb dX0_init_84 (by decide) ?_
    refine sn_newarr (t := 0) (N := 6) (kd := 0) (ty := .int) (lay3 := lay ++ sn_yl_7) (nn := (lay.length + 10)) C hE hw (by rw [List.length_append]; rfl) (by rw [List.append_assoc]; rfl) (by omega) (by omega) rfl rfl (fun K h => by cases h) ka_int (sn_cI (sn_zr_pR (by omega) (sn_zr_pR (by omega) (sn_zr_pR (by omega) (sn_zr_pR (by omega) (sn_zr_pR (by omega) (sn_zr_pR (by omega) (sn_zr_pR (by omega) (sn_zr_pR (by omega) (sn_zr_pR (by omega) (sn_zr_pI (by omega) (hz _ (by omega))))))))))))) (by decide) (by decide) (Nat.le_of_ble_eq_true rfl) (Nat.le_of_ble_eq_true rfl) (Nat.le_of_ble_eq_true rfl) dX0_init_86 (fun H C hw => ?_)
    refine sn_putF C hni hw ff_RX0_43 (sn_apg (k := 0) rfl) rfl rfl rfl dX0_init_88 (fun H locs hw => ?_)
    exact sn_vretA C hw rfl rfl dX0_init_91)

-- X3_init
abbrev rmX3_init : Room := { frames := 1, cells := 2, slots := 12, locals := 12 }
def sn_iniX3 (σ : sn_S) (n : Nat) : sn_S := (sn_pR (sn_pR σ n 0 (some (n + 1))) n 1 (some (n + 2)))
theorem sn_zr_iniX3 {σ : sn_S} {n a : Nat} (hn : n + 3 ≤ a) (h : sn_zr σ a) : sn_zr (sn_iniX3 σ n) a := sn_zr_pR (by omega) (sn_zr_pR (by omega) (h))
theorem ctX3_init (l : Launch) (lay : List sn_E) (hl200 : lay.length + 3 ≤ 200) (σ : sn_S) (hz : ∀ a, lay.length ≤ a → sn_zr σ a) : sn_MA l yX3_init cX3_init 1 rmX3_init (lay ++ [.inr (3, [2, 2, 0, 0])]) (lay ++ sn_yl_17) (fun ad => [.ref (ad lay.length)]) σ (sn_iniX3 σ lay.length) 2 12 :=
  sn_metA (by decide) rfl (by rw [List.length_append]; show lay.length + 1 ≤ 200; omega) (fun _ => Nat.le_of_ble_eq_true rfl) (fun p e s m args below meth c ls D ct ad A N0 C hE hni hAO hsz1 hw hl => by
    have hx := C.1
    have hb := C.2.1
    have hAA := hAO.2
    have hAH := hAO.1
    have hsz0 : s.heap.size = N0 + (lay.length + 1) := by rw [hsz1, List.length_append]; rfl
    refine lv_aload_n hx hb dX3_init_0 rfl (lv_at hl 0 rfl) ?_
    refine W.objInit hx hb C.2.2.2.1 (C.2.2.2.2.1 _ km_RX3_3) (C.2.2.2.2.1 _ kin_objectInit) (C.2.2.2.2.1 _ kc_objectInit) rfl (by rw [C.2.2.1]; exact hl.1) rfl dX3_init_1 (Nat.le_of_ble_eq_true rfl) (Nat.le_of_ble_eq_true rfl) ?_
    refine W.eq (g2 := F0 m 4 ls []) rfl ?_
    refine lv_aload_n hx hb dX3_init_4 rfl (lv_at hl 0 rfl) ?_
    refine lv_bipush (v := 6) hx hb dX3_init_5 (by decide) ?_
    refine sn_newarr (t := 0) (N := 6) (kd := 0) (ty := .int) (lay3 := lay ++ sn_yl_18) (nn := (lay.length + 1)) C hE hw (by rw [List.length_append]; rfl) (by rw [List.append_assoc]; rfl) (by omega) (by omega) rfl rfl (fun K h => by cases h) ka_int (sn_cI (hz _ (by omega))) (by decide) (by decide) (Nat.le_of_ble_eq_true rfl) (Nat.le_of_ble_eq_true rfl) (Nat.le_of_ble_eq_true rfl) dX3_init_7 (fun H C hw => ?_)
    refine sn_putF C hni hw ff_RX3_9 (sn_apg (k := 0) rfl) rfl rfl rfl dX3_init_9 (fun H locs hw => ?_)
    refine lv_aload_n hx hb dX3_init_12 rfl (lv_at hl 0 rfl) ?_
    refine lv_bipush (v := 6) hx hb dX3_init_13 (by decide) ?_
    refine sn_newarr (t := 0) (N := 6) (kd := 0) (ty := .int) (lay3 := lay ++ sn_yl_17) (nn := (lay.length + 2)) C hE hw (by rw [List.length_append]; rfl) (by rw [List.append_assoc]; rfl) (by omega) (by omega) rfl rfl (fun K h => by cases h) ka_int (sn_cI (sn_zr_pR (by omega) (hz _ (by omega)))) (by decide) (by decide) (Nat.le_of_ble_eq_true rfl) (Nat.le_of_ble_eq_true rfl) (Nat.le_of_ble_eq_true rfl) dX3_init_15 (fun H C hw => ?_)
    refine sn_putF C hni hw ff_RX3_15 (sn_apg (k := 0) rfl) rfl rfl rfl dX3_init_17 (fun H locs hw => ?_)
    exact sn_vretA C hw rfl rfl dX3_init_20)

-- X1_init
abbrev rmX1_init : Room := { frames := 1, cells := 1, slots := 31, locals := 12 }
def sn_iniX1 (σ : sn_S) (n : Nat) : sn_S := (sn_pR σ n 0 (some (n + 1)))
theorem sn_zr_iniX1 {σ : sn_S} {n a : Nat} (hn : n + 2 ≤ a) (h : sn_zr σ a) : sn_zr (sn_iniX1 σ n) a := sn_zr_pR (by omega) (h)
theorem ctX1_init (l : Launch) (lay : List sn_E) (hl200 : lay.length + 2 ≤ 200) (σ : sn_S) (hz : ∀ a, lay.length ≤ a → sn_zr σ a) : sn_MA l yX1_init cX1_init 1 rmX1_init (lay ++ [.inr (1, [2, 1])]) (lay ++ sn_yl_19) (fun ad => [.ref (ad lay.length)]) σ (sn_iniX1 σ lay.length) 1 31 :=
  sn_metA (by decide) rfl (by rw [List.length_append]; show lay.length + 1 ≤ 200; omega) (fun _ => Nat.le_of_ble_eq_true rfl) (fun p e s m args below meth c ls D ct ad A N0 C hE hni hAO hsz1 hw hl => by
    have hx := C.1
    have hb := C.2.1
    have hAA := hAO.2
    have hAH := hAO.1
    have hsz0 : s.heap.size = N0 + (lay.length + 1) := by rw [hsz1, List.length_append]; rfl
    refine lv_aload_n hx hb dX1_init_0 rfl (lv_at hl 0 rfl) ?_
    refine W.objInit hx hb C.2.2.2.1 (C.2.2.2.2.1 _ km_RX1_3) (C.2.2.2.2.1 _ kin_objectInit) (C.2.2.2.2.1 _ kc_objectInit) rfl (by rw [C.2.2.1]; exact hl.1) rfl dX1_init_1 (Nat.le_of_ble_eq_true rfl) (Nat.le_of_ble_eq_true rfl) ?_
    refine W.eq (g2 := F0 m 4 ls []) rfl ?_
    refine lv_aload_n hx hb dX1_init_4 rfl (lv_at hl 0 rfl) ?_
    refine lv_bipush (v := 31) hx hb dX1_init_5 (by decide) ?_
    refine sn_newarr (t := 3) (N := 31) (kd := 1) (ty := .long) (lay3 := lay ++ sn_yl_19) (nn := (lay.length + 1)) C hE hw (by rw [List.length_append]; rfl) (by rw [List.append_assoc]; rfl) (by omega) (by omega) rfl rfl (fun K h => by cases h) ka_long (sn_cL (hz _ (by omega))) (by decide) (by decide) (Nat.le_of_ble_eq_true rfl) (Nat.le_of_ble_eq_true rfl) (Nat.le_of_ble_eq_true rfl) dX1_init_7 (fun H C hw => ?_)
    refine sn_putF C hni hw ff_RX1_9 (sn_apg (k := 0) rfl) rfl rfl rfl dX1_init_9 (fun H locs hw => ?_)
    exact sn_vretA C hw rfl rfl dX1_init_12)

-- X7_init
abbrev rmX7_init : Room := { frames := 1, cells := 2, slots := 192, locals := 12 }
def sn_iniX7 (σ : sn_S) (n : Nat) : sn_S := (sn_pR (sn_pR σ n 0 (some (n + 1))) n 4 (some (n + 2)))
theorem sn_zr_iniX7 {σ : sn_S} {n a : Nat} (hn : n + 3 ≤ a) (h : sn_zr σ a) : sn_zr (sn_iniX7 σ n) a := sn_zr_pR (by omega) (sn_zr_pR (by omega) (h))
theorem ctX7_init (l : Launch) (lay : List sn_E) (hl200 : lay.length + 3 ≤ 200) (σ : sn_S) (hz : ∀ a, lay.length ≤ a → sn_zr σ a) : sn_MA l yX7_init cX7_init 1 rmX7_init (lay ++ [.inr (7, [2, 0, 0, 0, 2])]) (lay ++ sn_yl_20) (fun ad => [.ref (ad lay.length)]) σ (sn_iniX7 σ lay.length) 2 192 :=
  sn_metA (by decide) rfl (by rw [List.length_append]; show lay.length + 1 ≤ 200; omega) (fun _ => Nat.le_of_ble_eq_true rfl) (fun p e s m args below meth c ls D ct ad A N0 C hE hni hAO hsz1 hw hl => by
    have hx := C.1
    have hb := C.2.1
    have hAA := hAO.2
    have hAH := hAO.1
    have hsz0 : s.heap.size = N0 + (lay.length + 1) := by rw [hsz1, List.length_append]; rfl
    refine lv_aload_n hx hb dX7_init_0 rfl (lv_at hl 0 rfl) ?_
    refine W.objInit hx hb C.2.2.2.1 (C.2.2.2.2.1 _ km_RX7_3) (C.2.2.2.2.1 _ kin_objectInit) (C.2.2.2.2.1 _ kc_objectInit) rfl (by rw [C.2.2.1]; exact hl.1) rfl dX7_init_1 (Nat.le_of_ble_eq_true rfl) (Nat.le_of_ble_eq_true rfl) ?_
    refine W.eq (g2 := F0 m 4 ls []) rfl ?_
    refine lv_aload_n hx hb dX7_init_4 rfl (lv_at hl 0 rfl) ?_
    refine lv_bipush (v := 6) hx hb dX7_init_5 (by decide) ?_
    refine sn_newarr (t := 0) (N := 6) (kd := 0) (ty := .int) (lay3 := lay ++ sn_yl_21) (nn := (lay.length + 1)) C hE hw (by rw [List.length_append]; rfl) (by rw [List.append_assoc]; rfl) (by omega) (by omega) rfl rfl (fun K h => by cases h) ka_int (sn_cI (hz _ (by omega))) (by decide) (by decide) (Nat.le_of_ble_eq_true rfl) (Nat.le_of_ble_eq_true rfl) (Nat.le_of_ble_eq_true rfl) dX7_init_7 (fun H C hw => ?_)
    refine sn_putF C hni hw ff_RX7_9 (sn_apg (k := 0) rfl) rfl rfl rfl dX7_init_9 (fun H locs hw => ?_)
    refine lv_aload_n hx hb dX7_init_12 rfl (lv_at hl 0 rfl) ?_
    refine lv_sipush (v := 186) hx hb dX7_init_13 (by decide) ?_
    refine sn_newarr (t := 0) (N := 186) (kd := 0) (ty := .int) (lay3 := lay ++ sn_yl_20) (nn := (lay.length + 2)) C hE hw (by rw [List.length_append]; rfl) (by rw [List.append_assoc]; rfl) (by omega) (by omega) rfl rfl (fun K h => by cases h) ka_int (sn_cI (sn_zr_pR (by omega) (hz _ (by omega)))) (by decide) (by decide) (Nat.le_of_ble_eq_true rfl) (Nat.le_of_ble_eq_true rfl) (Nat.le_of_ble_eq_true rfl) dX7_init_16 (fun H C hw => ?_)
    refine sn_putF C hni hw ff_RX7_15 (sn_apg (k := 0) rfl) rfl rfl rfl dX7_init_18 (fun H locs hw => ?_)
    exact sn_vretA C hw rfl rfl dX7_init_21)

-- X6_init
abbrev rmX6_init : Room := { frames := 1, cells := 7, slots := 252, locals := 23 }
def sn_iniX6 (σ : sn_S) (n : Nat) : sn_S := (sn_fl (sn_pR (sn_pR (sn_pR (sn_rw4 σ (n + 1)) n 0 (some (n + 1))) n 1 (some (n + 6))) n 2 (some (n + 7))) (n + 7))
theorem sn_zr_iniX6 {σ : sn_S} {n a : Nat} (hn : n + 8 ≤ a) (h : sn_zr σ a) : sn_zr (sn_iniX6 σ n) a := sn_zr_fl (by omega) (sn_zr_pR (by omega) (sn_zr_pR (by omega) (sn_zr_pR (by omega) (sn_zr_rw (by omega) (h)))))
theorem ctX6_init (l : Launch) (lay : List sn_E) (hl200 : lay.length + 8 ≤ 200) (σ : sn_S) (hz : ∀ a, lay.length ≤ a → sn_zr σ a) : sn_MA l yX6_init cX6_init 1 rmX6_init (lay ++ [.inr (6, [2, 2, 2])]) (lay ++ sn_yl_22) (fun ad => [.ref (ad lay.length)]) σ (sn_iniX6 σ lay.length) 7 252 :=
  sn_metA (by decide) rfl (by rw [List.length_append]; show lay.length + 1 ≤ 200; omega) (fun _ => Nat.le_of_ble_eq_true rfl) (fun p e s m args below meth c ls D ct ad A N0 C hE hni hAO hsz1 hw hl => by
    have hx := C.1
    have hb := C.2.1
    have hAA := hAO.2
    have hAH := hAO.1
    have hsz0 : s.heap.size = N0 + (lay.length + 1) := by rw [hsz1, List.length_append]; rfl
    refine lv_aload_n hx hb dX6_init_0 rfl (lv_at hl 0 rfl) ?_
    refine W.objInit hx hb C.2.2.2.1 (C.2.2.2.2.1 _ km_RX6_3) (C.2.2.2.2.1 _ kin_objectInit) (C.2.2.2.2.1 _ kc_objectInit) rfl (by rw [C.2.2.1]; exact hl.1) rfl dX6_init_1 (Nat.le_of_ble_eq_true rfl) (Nat.le_of_ble_eq_true rfl) ?_
    refine W.eq (g2 := F0 m 4 ls []) rfl ?_
    refine lv_aload_n hx hb dX6_init_4 rfl (lv_at hl 0 rfl) ?_
    refine lv_iconst (v := 4) hx hb dX6_init_5 rfl ?_
    refine lv_bipush (v := 60) hx hb dX6_init_6 (by decide) ?_
    refine sn_newaa (N' := 4) (K' := 60) (lay3 := lay ++ sn_yl_23) (nn := (lay.length + 1)) C hE hw (by rw [List.length_append]; rfl) (by rw [List.append_assoc]; rfl) (by omega) (by omega) kcl_RX6_9 hAA ka_long (fun j hj => hz _ (by omega)) rfl rfl rfl rfl (Nat.le_of_ble_eq_true rfl) (Nat.le_of_ble_eq_true rfl) dX6_init_8 (fun H C hw => ?_)
    refine sn_putF C hni hw ff_RX6_11 (sn_apg (k := 0) rfl) rfl rfl rfl dX6_init_12 (fun H locs hw => ?_)
    refine lv_aload_n hx hb dX6_init_15 rfl (lv_at hl 0 rfl) ?_
    refine lv_iconst (v := 4) hx hb dX6_init_16 rfl ?_
    refine sn_newarr (t := 0) (N := 4) (kd := 0) (ty := .int) (lay3 := lay ++ sn_yl_24) (nn := (lay.length + 6)) C hE hw (by rw [List.length_append]; rfl) (by rw [List.append_assoc]; rfl) (by omega) (by omega) rfl rfl (fun K h => by cases h) ka_int (sn_cI (sn_zr_pR (by omega) (sn_zr_rw (by omega) (hz _ (by omega))))) (by decide) (by decide) (Nat.le_of_ble_eq_true rfl) (Nat.le_of_ble_eq_true rfl) (Nat.le_of_ble_eq_true rfl) dX6_init_17 (fun H C hw => ?_)
    refine sn_putF C hni hw ff_RX6_16 (sn_apg (k := 0) rfl) rfl rfl rfl dX6_init_19 (fun H locs hw => ?_)
    refine lv_aload_n hx hb dX6_init_22 rfl (lv_at hl 0 rfl) ?_
    refine lv_iconst (v := 4) hx hb dX6_init_23 rfl ?_
    refine sn_newarr (t := 0) (N := 4) (kd := 0) (ty := .int) (lay3 := lay ++ sn_yl_22) (nn := (lay.length + 7)) C hE hw (by rw [List.length_append]; rfl) (by rw [List.append_assoc]; rfl) (by omega) (by omega) rfl rfl (fun K h => by cases h) ka_int (sn_cI (sn_zr_pR (by omega) (sn_zr_pR (by omega) (sn_zr_rw (by omega) (hz _ (by omega)))))) (by decide) (by decide) (Nat.le_of_ble_eq_true rfl) (Nat.le_of_ble_eq_true rfl) (Nat.le_of_ble_eq_true rfl) dX6_init_24 (fun H C hw => ?_)
    refine sn_putF C hni hw ff_RX6_20 (sn_apg (k := 0) rfl) rfl rfl rfl dX6_init_26 (fun H locs hw => ?_)
    refine lv_aload_n hx hb dX6_init_29 rfl (lv_at hl 0 rfl) ?_
    refine sn_getR (r := (lay.length + 7)) C hw fd_RX6_20 (sn_apg (k := 0) rfl) rfl (by simp [sn_R, sn_pR]) dX6_init_30 ?_
    refine lv_iconst (v := (-1)) hx hb dX6_init_33 rfl ?_
    refine sn_callS (rest := []) (v := none) (τ := sn_fl (sn_pR (sn_pR (sn_pR (sn_rw4 σ (lay.length + 1)) lay.length 0 (some (lay.length + 1))) lay.length 1 (some (lay.length + 6))) lay.length 2 (some (lay.length + 7))) (lay.length + 7)) C hw (ctJ7_fill_53178 l (sn_apg (k := 7) rfl) sn_fill4) kl_RX6_23 rfl rfl rfl (Nat.le_of_ble_eq_true rfl) dX6_init_34 hl.1 (fun H locs hw => ?_) (Nat.le_of_ble_eq_true rfl) (Nat.le_of_ble_eq_true rfl)
    exact sn_vretA C hw rfl rfl dX6_init_37)

-- X4_init
abbrev rmX4_init : Room := { frames := 2, cells := 15, slots := 505, locals := 32 }
def sn_iniX4 (σ : sn_S) (n : Nat) : sn_S := (sn_pR (sn_iniX3 (sn_pR (sn_iniX0 (sn_pR σ 57 2 (some 58)) 59) 57 3 (some 59)) 70) 57 4 (some 70))
theorem sn_zr_iniX4 {σ : sn_S} {n a : Nat} (hn : 73 ≤ a) (h : sn_zr σ a) : sn_zr (sn_iniX4 σ n) a := sn_zr_pR (by omega) (sn_zr_iniX3 (by omega) (sn_zr_pR (by omega) (sn_zr_iniX0 (by omega) (sn_zr_pR (by omega) (h)))))
theorem ctX4_init (l : Launch) (σ : sn_S) (hz : ∀ a, 57 ≤ a → sn_zr σ a) : sn_MA l yX4_init cX4_init 1 rmX4_init (sn_yl_25) (sn_yl_26) (fun ad => [.ref (ad 57)]) σ (sn_iniX4 σ 57) 15 505 :=
  sn_metA (by decide) rfl (by decide) (fun _ => Nat.le_of_ble_eq_true rfl) (fun p e s m args below meth c ls D ct ad A N0 C hE hni hAO hsz1 hw hl => by
    have hx := C.1
    have hb := C.2.1
    have hAA := hAO.2
    have hAH := hAO.1
    have hsz0 : s.heap.size = N0 + 58 := hsz1
    refine lv_aload_n hx hb dX4_init_0 rfl (lv_at hl 0 rfl) ?_
    refine W.objInit hx hb C.2.2.2.1 (C.2.2.2.2.1 _ km_RX4_3) (C.2.2.2.2.1 _ kin_objectInit) (C.2.2.2.2.1 _ kc_objectInit) rfl (by rw [C.2.2.1]; exact hl.1) rfl dX4_init_1 (Nat.le_of_ble_eq_true rfl) (Nat.le_of_ble_eq_true rfl) ?_
    refine W.eq (g2 := F0 m 4 ls []) rfl ?_
    refine lv_aload_n hx hb dX4_init_4 rfl (lv_at hl 0 rfl) ?_
    refine lv_bipush (v := 9) hx hb dX4_init_5 (by decide) ?_
    refine sn_newarr (t := 3) (N := 9) (kd := 1) (ty := .long) (lay3 := sn_yl_27) (nn := 58) C hE hw rfl rfl (by decide) (by omega) rfl rfl (fun K h => by cases h) ka_long (sn_cL (hz _ (by omega))) (by decide) (by decide) (Nat.le_of_ble_eq_true rfl) (Nat.le_of_ble_eq_true rfl) (Nat.le_of_ble_eq_true rfl) dX4_init_7 (fun H C hw => ?_)
    refine sn_putF C hni hw ff_RX4_9 rfl rfl rfl rfl dX4_init_9 (fun H locs hw => ?_)
    refine lv_aload_n hx hb dX4_init_12 rfl (lv_at hl 0 rfl) ?_
    refine sn_newobj (ci := 0) (ks := [0, 0, 0, 0, 2, 2, 2, 2, 2, 2, 2, 2, 2, 2]) (lay3 := sn_yl_28) (nn := 59) C hE hw rfl rfl (by decide) (by omega) rfl ug_X0 tyX0_ok kcl_RX4_15 kis_X0 ki_RX0 (sn_zr_pR (by omega) (hz _ (by omega))) sn_dfX0 (Nat.le_of_ble_eq_true rfl) (Nat.le_of_ble_eq_true rfl) dX4_init_13 (fun H C hw hsz => ?_)
    refine lv_dup hx hb dX4_init_16 rfl ?_
    refine sn_callA (q := 59) (lay' := sn_yl_29) (τ := (sn_iniX0 (sn_pR σ 57 2 (some 58)) 59)) (mc := 10) (ms := 466) (n := 0) (As := fun ad => []) [.ref (ad 59), .ref (ad 57)] C hE hw hsz hAO (ctX0_init l sn_yl_27 (by decide) (sn_pR σ 57 2 (some 58)) (fun a (ha : 59 ≤ a) => sn_zr_pR (by omega) (hz _ (by omega))) ) kc_X0_init (List.mem_of_getElem? (i := 7) rfl) kin_X0_init ki_RX0 rfl (by decide +kernel) rfl rfl rfl (Nat.le_of_ble_eq_true rfl) dX4_init_17 hl.1 (Nat.le_of_ble_eq_true rfl) (Nat.le_of_ble_eq_true rfl) (fun H locs hw => ?_)
    have C := sn_C_lay (lay2 := sn_yl_29) C hE (by decide)
    refine sn_putF C hni hw ff_RX4_18 rfl rfl rfl rfl dX4_init_20 (fun H locs hw => ?_)
    refine lv_aload_n hx hb dX4_init_23 rfl (lv_at hl 0 rfl) ?_
    refine sn_newobj (ci := 3) (ks := [2, 2, 0, 0]) (lay3 := sn_yl_30) (nn := 70) C hE hw rfl rfl (by decide) (by omega) rfl ug_X3 tyX3_ok kcl_RX4_22 kis_X3 ki_RX3 (sn_zr_pR (by omega) (sn_zr_iniX0 (by omega) (sn_zr_pR (by omega) (hz _ (by omega))))) sn_dfX3 (Nat.le_of_ble_eq_true rfl) (Nat.le_of_ble_eq_true rfl) dX4_init_24 (fun H C hw hsz => ?_)
    refine lv_dup hx hb dX4_init_27 rfl ?_
    refine sn_callA (q := 70) (lay' := sn_yl_26) (τ := (sn_iniX3 (sn_pR (sn_iniX0 (sn_pR σ 57 2 (some 58)) 59) 57 3 (some 59)) 70)) (mc := 2) (ms := 12) (n := 0) (As := fun ad => []) [.ref (ad 70), .ref (ad 57)] C hE hw hsz hAO (ctX3_init l sn_yl_29 (by decide) (sn_pR (sn_iniX0 (sn_pR σ 57 2 (some 58)) 59) 57 3 (some 59)) (fun a (ha : 70 ≤ a) => sn_zr_pR (by omega) (sn_zr_iniX0 (by omega) (sn_zr_pR (by omega) (hz _ (by omega))))) ) kc_X3_init (List.mem_of_getElem? (i := 8) rfl) kin_X3_init ki_RX3 rfl (by decide +kernel) rfl rfl rfl (Nat.le_of_ble_eq_true rfl) dX4_init_28 hl.1 (Nat.le_of_ble_eq_true rfl) (Nat.le_of_ble_eq_true rfl) (fun H locs hw => ?_)
    have C := sn_C_lay (lay2 := sn_yl_26) C hE (by decide)
    refine sn_putF C hni hw ff_RX4_25 rfl rfl rfl rfl dX4_init_31 (fun H locs hw => ?_)
    exact sn_vretA C hw rfl rfl dX4_init_34)

-- X8_init
abbrev rmX8_init : Room := { frames := 3, cells := 93, slots := 3910, locals := 52 }
def sn_iniX8 : sn_S := (sn_pR (sn_iniX2 (sn_pR (sn_iniX2 (sn_pR (sn_iniX2 (sn_pR (sn_iniX4 (sn_pR (sn_iniX7 (sn_pR (sn_iniX1 (sn_pR (sn_iniX3 (sn_pR (sn_iniX0 (sn_pR (sn_iniX0 (sn_pR (sn_iniX6 (sn_pR (sn_iniX5 (sn_pR (sn_pR (sn_pR (sn_iniX2 (sn_pR (sn_iniX2 sn_z 1) 0 0 (some 1)) 8) 0 1 (some 8)) 0 2 (some 15)) 0 3 (some 16)) 17) 0 4 (some 17)) 19) 0 5 (some 19)) 27) 0 6 (some 27)) 38) 0 7 (some 38)) 49) 0 8 (some 49)) 52) 0 9 (some 52)) 54) 0 10 (some 54)) 57) 0 11 (some 57)) 73) 15 0 (some 73)) 80) 15 1 (some 80)) 87) 15 2 (some 87))
def sn_dynX8 : List sn_E := sn_yl_31
theorem ctX8_init (l : Launch) : sn_MA l yX8_init cX8_init 2 rmX8_init [.inr (8, [2, 2, 2, 2, 2, 2, 2, 2, 2, 2, 2, 2])] sn_dynX8 (fun ad => [.ref (ad 0)]) sn_z sn_iniX8 93 3910 :=
  sn_metA (by decide) rfl (by decide) (fun _ => Nat.le_of_ble_eq_true rfl) (fun p e s m args below meth c ls D ct ad A N0 C hE hni hAO hsz1 hw hl => by
    have hx := C.1
    have hb := C.2.1
    have hAA := hAO.2
    have hAH := hAO.1
    have hsz0 : s.heap.size = N0 + 1 := hsz1
    refine lv_aload_n hx hb dX8_init_0 rfl (lv_at hl 0 rfl) ?_
    refine W.objInit hx hb C.2.2.2.1 (C.2.2.2.2.1 _ km_RX8_1) (C.2.2.2.2.1 _ kin_objectInit) (C.2.2.2.2.1 _ kc_objectInit) rfl (by rw [C.2.2.1]; exact hl.1) rfl dX8_init_1 (Nat.le_of_ble_eq_true rfl) (Nat.le_of_ble_eq_true rfl) ?_
    refine W.eq (g2 := F0 m 4 ls []) rfl ?_
    refine lv_aload_n hx hb dX8_init_4 rfl (lv_at hl 0 rfl) ?_
    refine sn_newobj (ci := 2) (ks := [2, 2, 2, 2, 2, 2]) (lay3 := sn_yl_32) (nn := 1) C hE hw rfl rfl (by decide) (by omega) rfl ug_X2 tyX2_ok kcl_RX8_7 kis_X2 ki_RX2 (sn_z_zr _) sn_dfX2 (Nat.le_of_ble_eq_true rfl) (Nat.le_of_ble_eq_true rfl) dX8_init_5 (fun H C hw hsz => ?_)
    refine lv_dup hx hb dX8_init_8 rfl ?_
    refine sn_callA (q := 1) (lay' := sn_yl_33) (τ := (sn_iniX2 sn_z 1)) (mc := 6) (ms := 199) (n := 0) (As := fun ad => []) [.ref (ad 1), .ref (ad 0)] C hE hw hsz hAO (ctX2_init l [.inr (8, [2, 2, 2, 2, 2, 2, 2, 2, 2, 2, 2, 2])] (by decide) sn_z (fun a (ha : 1 ≤ a) => sn_z_zr _) ) kc_X2_init (List.mem_of_getElem? (i := 0) rfl) kin_X2_init ki_RX2 rfl (by decide +kernel) rfl rfl rfl (Nat.le_of_ble_eq_true rfl) dX8_init_9 hl.1 (Nat.le_of_ble_eq_true rfl) (Nat.le_of_ble_eq_true rfl) (fun H locs hw => ?_)
    have C := sn_C_lay (lay2 := sn_yl_33) C hE (by decide)
    refine sn_putF C hni hw ff_RX8_10 rfl rfl rfl rfl dX8_init_12 (fun H locs hw => ?_)
    refine lv_aload_n hx hb dX8_init_15 rfl (lv_at hl 0 rfl) ?_
    refine sn_newobj (ci := 2) (ks := [2, 2, 2, 2, 2, 2]) (lay3 := sn_yl_34) (nn := 8) C hE hw rfl rfl (by decide) (by omega) rfl ug_X2 tyX2_ok kcl_RX8_7 kis_X2 ki_RX2 (sn_zr_pR (by decide) (sn_zr_iniX2 (by decide) (sn_z_zr _))) sn_dfX2 (Nat.le_of_ble_eq_true rfl) (Nat.le_of_ble_eq_true rfl) dX8_init_16 (fun H C hw hsz => ?_)
    refine lv_dup hx hb dX8_init_19 rfl ?_
    refine sn_callA (q := 8) (lay' := sn_yl_35) (τ := (sn_iniX2 (sn_pR (sn_iniX2 sn_z 1) 0 0 (some 1)) 8)) (mc := 6) (ms := 199) (n := 0) (As := fun ad => []) [.ref (ad 8), .ref (ad 0)] C hE hw hsz hAO (ctX2_init l sn_yl_33 (by decide) (sn_pR (sn_iniX2 sn_z 1) 0 0 (some 1)) (fun a (ha : 8 ≤ a) => sn_zr_pR (by omega) (sn_zr_iniX2 (by omega) (sn_z_zr _))) ) kc_X2_init (List.mem_of_getElem? (i := 0) rfl) kin_X2_init ki_RX2 rfl (by decide +kernel) rfl rfl rfl (Nat.le_of_ble_eq_true rfl) dX8_init_20 hl.1 (Nat.le_of_ble_eq_true rfl) (Nat.le_of_ble_eq_true rfl) (fun H locs hw => ?_)
    have C := sn_C_lay (lay2 := sn_yl_35) C hE (by decide)
    refine sn_putF C hni hw ff_RX8_16 rfl rfl rfl rfl dX8_init_23 (fun H locs hw => ?_)
    refine lv_aload_n hx hb dX8_init_26 rfl (lv_at hl 0 rfl) ?_
    refine lv_iconst (v := 3) hx hb dX8_init_27 rfl ?_
    refine sn_newqs (N := 3) (lay3 := sn_yl_36) (nn := 15) C hE hw rfl rfl (by decide) (by omega) kcl_RX8_7 hAH (sn_zr_pR (by decide) (sn_zr_iniX2 (by decide) (sn_zr_pR (by decide) (sn_zr_iniX2 (by decide) (sn_z_zr _))))) (by decide) (by decide) (Nat.le_of_ble_eq_true rfl) (Nat.le_of_ble_eq_true rfl) (Nat.le_of_ble_eq_true rfl) dX8_init_28 (fun H C hw => ?_)
    refine sn_putF C hni hw ff_RX8_19 rfl rfl rfl rfl dX8_init_31 (fun H locs hw => ?_)
    refine lv_aload_n hx hb dX8_init_34 rfl (lv_at hl 0 rfl) ?_
    refine lv_iconst (v := 3) hx hb dX8_init_35 rfl ?_
    refine sn_newarr (t := 1) (N := 3) (kd := 0) (ty := .boolean) (lay3 := sn_yl_37) (nn := 16) C hE hw rfl rfl (by decide) (by omega) rfl rfl (fun K h => by cases h) ka_boolean (sn_cZ (sn_zr_pR (by decide) (sn_zr_pR (by decide) (sn_zr_iniX2 (by decide) (sn_zr_pR (by decide) (sn_zr_iniX2 (by decide) (sn_z_zr _))))))) (by decide) (by decide) (Nat.le_of_ble_eq_true rfl) (Nat.le_of_ble_eq_true rfl) (Nat.le_of_ble_eq_true rfl) dX8_init_36 (fun H C hw => ?_)
    refine sn_putF C hni hw ff_RX8_23 rfl rfl rfl rfl dX8_init_38 (fun H locs hw => ?_)
    refine lv_aload_n hx hb dX8_init_41 rfl (lv_at hl 0 rfl) ?_
    refine sn_newobj (ci := 5) (ks := [2, 0, 0, 0, 0, 0, 0, 2]) (lay3 := sn_yl_38) (nn := 17) C hE hw rfl rfl (by decide) (by omega) rfl ug_X5 tyX5_ok kcl_RX8_27 kis_X5 ki_RX5 (sn_zr_pR (by decide) (sn_zr_pR (by decide) (sn_zr_pR (by decide) (sn_zr_iniX2 (by decide) (sn_zr_pR (by decide) (sn_zr_iniX2 (by decide) (sn_z_zr _))))))) sn_dfX5 (Nat.le_of_ble_eq_true rfl) (Nat.le_of_ble_eq_true rfl) dX8_init_42 (fun H C hw hsz => ?_)
    refine lv_dup hx hb dX8_init_45 rfl ?_
    refine sn_callA (q := 17) (lay' := sn_yl_39) (τ := (sn_iniX5 (sn_pR (sn_pR (sn_pR (sn_iniX2 (sn_pR (sn_iniX2 sn_z 1) 0 0 (some 1)) 8) 0 1 (some 8)) 0 2 (some 15)) 0 3 (some 16)) 17)) (mc := 1) (ms := 900) (n := 0) (As := fun ad => []) [.ref (ad 17), .ref (ad 0)] C hE hw hsz hAO (ctX5_init l sn_yl_37 (by decide) (sn_pR (sn_pR (sn_pR (sn_iniX2 (sn_pR (sn_iniX2 sn_z 1) 0 0 (some 1)) 8) 0 1 (some 8)) 0 2 (some 15)) 0 3 (some 16)) (fun a (ha : 17 ≤ a) => sn_zr_pR (by omega) (sn_zr_pR (by omega) (sn_zr_pR (by omega) (sn_zr_iniX2 (by omega) (sn_zr_pR (by omega) (sn_zr_iniX2 (by omega) (sn_z_zr _))))))) ) kc_X5_init (List.mem_of_getElem? (i := 1) rfl) kin_X5_init ki_RX5 rfl (by decide +kernel) rfl rfl rfl (Nat.le_of_ble_eq_true rfl) dX8_init_46 hl.1 (Nat.le_of_ble_eq_true rfl) (Nat.le_of_ble_eq_true rfl) (fun H locs hw => ?_)
    have C := sn_C_lay (lay2 := sn_yl_39) C hE (by decide)
    refine sn_putF C hni hw ff_RX8_30 rfl rfl rfl rfl dX8_init_49 (fun H locs hw => ?_)
    refine lv_aload_n hx hb dX8_init_52 rfl (lv_at hl 0 rfl) ?_
    refine sn_newobj (ci := 6) (ks := [2, 2, 2]) (lay3 := sn_yl_40) (nn := 19) C hE hw rfl rfl (by decide) (by omega) rfl ug_X6 tyX6_ok kcl_RX8_34 kis_X6 ki_RX6 (sn_zr_pR (by decide) (sn_zr_iniX5 (by decide) (sn_zr_pR (by decide) (sn_zr_pR (by decide) (sn_zr_pR (by decide) (sn_zr_iniX2 (by decide) (sn_zr_pR (by decide) (sn_zr_iniX2 (by decide) (sn_z_zr _))))))))) sn_dfX6 (Nat.le_of_ble_eq_true rfl) (Nat.le_of_ble_eq_true rfl) dX8_init_53 (fun H C hw hsz => ?_)
    refine lv_dup hx hb dX8_init_56 rfl ?_
    refine sn_callI (q := 19) (lay' := sn_yl_41) (τ := (sn_iniX6 (sn_pR (sn_iniX5 (sn_pR (sn_pR (sn_pR (sn_iniX2 (sn_pR (sn_iniX2 sn_z 1) 0 0 (some 1)) 8) 0 1 (some 8)) 0 2 (some 15)) 0 3 (some 16)) 17) 0 4 (some 17)) 19)) (mc := 7) (ms := 252) (n := 0) (As := fun ad => []) [.ref (ad 19), .ref (ad 0)] C hE hw hsz hAO (ctX6_init l sn_yl_39 (by decide) (sn_pR (sn_iniX5 (sn_pR (sn_pR (sn_pR (sn_iniX2 (sn_pR (sn_iniX2 sn_z 1) 0 0 (some 1)) 8) 0 1 (some 8)) 0 2 (some 15)) 0 3 (some 16)) 17) 0 4 (some 17)) (fun a (ha : 19 ≤ a) => sn_zr_pR (by omega) (sn_zr_iniX5 (by omega) (sn_zr_pR (by omega) (sn_zr_pR (by omega) (sn_zr_pR (by omega) (sn_zr_iniX2 (by omega) (sn_zr_pR (by omega) (sn_zr_iniX2 (by omega) (sn_z_zr _))))))))) ) kc_X6_init km_RX8_36 kin_X6_init ki_RX6 rfl (by decide +kernel) rfl rfl rfl (Nat.le_of_ble_eq_true rfl) dX8_init_57 hl.1 (Nat.le_of_ble_eq_true rfl) (Nat.le_of_ble_eq_true rfl) (fun H locs hw => ?_)
    have C := sn_C_lay (lay2 := sn_yl_41) C hE (by decide)
    refine sn_putF C hni hw ff_RX8_37 rfl rfl rfl rfl dX8_init_60 (fun H locs hw => ?_)
    refine lv_aload_n hx hb dX8_init_63 rfl (lv_at hl 0 rfl) ?_
    refine sn_newobj (ci := 0) (ks := [0, 0, 0, 0, 2, 2, 2, 2, 2, 2, 2, 2, 2, 2]) (lay3 := sn_yl_42) (nn := 27) C hE hw rfl rfl (by decide) (by omega) rfl ug_X0 tyX0_ok kcl_RX8_41 kis_X0 ki_RX0 (sn_zr_pR (by decide) (sn_zr_iniX6 (by decide) (sn_zr_pR (by decide) (sn_zr_iniX5 (by decide) (sn_zr_pR (by decide) (sn_zr_pR (by decide) (sn_zr_pR (by decide) (sn_zr_iniX2 (by decide) (sn_zr_pR (by decide) (sn_zr_iniX2 (by decide) (sn_z_zr _))))))))))) sn_dfX0 (Nat.le_of_ble_eq_true rfl) (Nat.le_of_ble_eq_true rfl) dX8_init_64 (fun H C hw hsz => ?_)
    refine lv_dup hx hb dX8_init_67 rfl ?_
    refine sn_callA (q := 27) (lay' := sn_yl_43) (τ := (sn_iniX0 (sn_pR (sn_iniX6 (sn_pR (sn_iniX5 (sn_pR (sn_pR (sn_pR (sn_iniX2 (sn_pR (sn_iniX2 sn_z 1) 0 0 (some 1)) 8) 0 1 (some 8)) 0 2 (some 15)) 0 3 (some 16)) 17) 0 4 (some 17)) 19) 0 5 (some 19)) 27)) (mc := 10) (ms := 466) (n := 0) (As := fun ad => []) [.ref (ad 27), .ref (ad 0)] C hE hw hsz hAO (ctX0_init l sn_yl_41 (by decide) (sn_pR (sn_iniX6 (sn_pR (sn_iniX5 (sn_pR (sn_pR (sn_pR (sn_iniX2 (sn_pR (sn_iniX2 sn_z 1) 0 0 (some 1)) 8) 0 1 (some 8)) 0 2 (some 15)) 0 3 (some 16)) 17) 0 4 (some 17)) 19) 0 5 (some 19)) (fun a (ha : 27 ≤ a) => sn_zr_pR (by omega) (sn_zr_iniX6 (by omega) (sn_zr_pR (by omega) (sn_zr_iniX5 (by omega) (sn_zr_pR (by omega) (sn_zr_pR (by omega) (sn_zr_pR (by omega) (sn_zr_iniX2 (by omega) (sn_zr_pR (by omega) (sn_zr_iniX2 (by omega) (sn_z_zr _))))))))))) ) kc_X0_init (List.mem_of_getElem? (i := 2) rfl) kin_X0_init ki_RX0 rfl (by decide +kernel) rfl rfl rfl (Nat.le_of_ble_eq_true rfl) dX8_init_68 hl.1 (Nat.le_of_ble_eq_true rfl) (Nat.le_of_ble_eq_true rfl) (fun H locs hw => ?_)
    have C := sn_C_lay (lay2 := sn_yl_43) C hE (by decide)
    refine sn_putF C hni hw ff_RX8_44 rfl rfl rfl rfl dX8_init_71 (fun H locs hw => ?_)
    refine lv_aload_n hx hb dX8_init_74 rfl (lv_at hl 0 rfl) ?_
    refine sn_newobj (ci := 0) (ks := [0, 0, 0, 0, 2, 2, 2, 2, 2, 2, 2, 2, 2, 2]) (lay3 := sn_yl_44) (nn := 38) C hE hw rfl rfl (by decide) (by omega) rfl ug_X0 tyX0_ok kcl_RX8_41 kis_X0 ki_RX0 (sn_zr_pR (by decide) (sn_zr_iniX0 (by decide) (sn_zr_pR (by decide) (sn_zr_iniX6 (by decide) (sn_zr_pR (by decide) (sn_zr_iniX5 (by decide) (sn_zr_pR (by decide) (sn_zr_pR (by decide) (sn_zr_pR (by decide) (sn_zr_iniX2 (by decide) (sn_zr_pR (by decide) (sn_zr_iniX2 (by decide) (sn_z_zr _))))))))))))) sn_dfX0 (Nat.le_of_ble_eq_true rfl) (Nat.le_of_ble_eq_true rfl) dX8_init_75 (fun H C hw hsz => ?_)
    refine lv_dup hx hb dX8_init_78 rfl ?_
    refine sn_callA (q := 38) (lay' := sn_yl_45) (τ := (sn_iniX0 (sn_pR (sn_iniX0 (sn_pR (sn_iniX6 (sn_pR (sn_iniX5 (sn_pR (sn_pR (sn_pR (sn_iniX2 (sn_pR (sn_iniX2 sn_z 1) 0 0 (some 1)) 8) 0 1 (some 8)) 0 2 (some 15)) 0 3 (some 16)) 17) 0 4 (some 17)) 19) 0 5 (some 19)) 27) 0 6 (some 27)) 38)) (mc := 10) (ms := 466) (n := 0) (As := fun ad => []) [.ref (ad 38), .ref (ad 0)] C hE hw hsz hAO (ctX0_init l sn_yl_43 (by decide) (sn_pR (sn_iniX0 (sn_pR (sn_iniX6 (sn_pR (sn_iniX5 (sn_pR (sn_pR (sn_pR (sn_iniX2 (sn_pR (sn_iniX2 sn_z 1) 0 0 (some 1)) 8) 0 1 (some 8)) 0 2 (some 15)) 0 3 (some 16)) 17) 0 4 (some 17)) 19) 0 5 (some 19)) 27) 0 6 (some 27)) (fun a (ha : 38 ≤ a) => sn_zr_pR (by omega) (sn_zr_iniX0 (by omega) (sn_zr_pR (by omega) (sn_zr_iniX6 (by omega) (sn_zr_pR (by omega) (sn_zr_iniX5 (by omega) (sn_zr_pR (by omega) (sn_zr_pR (by omega) (sn_zr_pR (by omega) (sn_zr_iniX2 (by omega) (sn_zr_pR (by omega) (sn_zr_iniX2 (by omega) (sn_z_zr _))))))))))))) ) kc_X0_init (List.mem_of_getElem? (i := 2) rfl) kin_X0_init ki_RX0 rfl (by decide +kernel) rfl rfl rfl (Nat.le_of_ble_eq_true rfl) dX8_init_79 hl.1 (Nat.le_of_ble_eq_true rfl) (Nat.le_of_ble_eq_true rfl) (fun H locs hw => ?_)
    have C := sn_C_lay (lay2 := sn_yl_45) C hE (by decide)
    refine sn_putF C hni hw ff_RX8_48 rfl rfl rfl rfl dX8_init_82 (fun H locs hw => ?_)
    refine lv_aload_n hx hb dX8_init_85 rfl (lv_at hl 0 rfl) ?_
    refine sn_newobj (ci := 3) (ks := [2, 2, 0, 0]) (lay3 := sn_yl_46) (nn := 49) C hE hw rfl rfl (by decide) (by omega) rfl ug_X3 tyX3_ok kcl_RX8_51 kis_X3 ki_RX3 (sn_zr_pR (by decide) (sn_zr_iniX0 (by decide) (sn_zr_pR (by decide) (sn_zr_iniX0 (by decide) (sn_zr_pR (by decide) (sn_zr_iniX6 (by decide) (sn_zr_pR (by decide) (sn_zr_iniX5 (by decide) (sn_zr_pR (by decide) (sn_zr_pR (by decide) (sn_zr_pR (by decide) (sn_zr_iniX2 (by decide) (sn_zr_pR (by decide) (sn_zr_iniX2 (by decide) (sn_z_zr _))))))))))))))) sn_dfX3 (Nat.le_of_ble_eq_true rfl) (Nat.le_of_ble_eq_true rfl) dX8_init_86 (fun H C hw hsz => ?_)
    refine lv_dup hx hb dX8_init_89 rfl ?_
    refine sn_callA (q := 49) (lay' := sn_yl_47) (τ := (sn_iniX3 (sn_pR (sn_iniX0 (sn_pR (sn_iniX0 (sn_pR (sn_iniX6 (sn_pR (sn_iniX5 (sn_pR (sn_pR (sn_pR (sn_iniX2 (sn_pR (sn_iniX2 sn_z 1) 0 0 (some 1)) 8) 0 1 (some 8)) 0 2 (some 15)) 0 3 (some 16)) 17) 0 4 (some 17)) 19) 0 5 (some 19)) 27) 0 6 (some 27)) 38) 0 7 (some 38)) 49)) (mc := 2) (ms := 12) (n := 0) (As := fun ad => []) [.ref (ad 49), .ref (ad 0)] C hE hw hsz hAO (ctX3_init l sn_yl_45 (by decide) (sn_pR (sn_iniX0 (sn_pR (sn_iniX0 (sn_pR (sn_iniX6 (sn_pR (sn_iniX5 (sn_pR (sn_pR (sn_pR (sn_iniX2 (sn_pR (sn_iniX2 sn_z 1) 0 0 (some 1)) 8) 0 1 (some 8)) 0 2 (some 15)) 0 3 (some 16)) 17) 0 4 (some 17)) 19) 0 5 (some 19)) 27) 0 6 (some 27)) 38) 0 7 (some 38)) (fun a (ha : 49 ≤ a) => sn_zr_pR (by omega) (sn_zr_iniX0 (by omega) (sn_zr_pR (by omega) (sn_zr_iniX0 (by omega) (sn_zr_pR (by omega) (sn_zr_iniX6 (by omega) (sn_zr_pR (by omega) (sn_zr_iniX5 (by omega) (sn_zr_pR (by omega) (sn_zr_pR (by omega) (sn_zr_pR (by omega) (sn_zr_iniX2 (by omega) (sn_zr_pR (by omega) (sn_zr_iniX2 (by omega) (sn_z_zr _))))))))))))))) ) kc_X3_init (List.mem_of_getElem? (i := 3) rfl) kin_X3_init ki_RX3 rfl (by decide +kernel) rfl rfl rfl (Nat.le_of_ble_eq_true rfl) dX8_init_90 hl.1 (Nat.le_of_ble_eq_true rfl) (Nat.le_of_ble_eq_true rfl) (fun H locs hw => ?_)
    have C := sn_C_lay (lay2 := sn_yl_47) C hE (by decide)
    refine sn_putF C hni hw ff_RX8_54 rfl rfl rfl rfl dX8_init_93 (fun H locs hw => ?_)
    refine lv_aload_n hx hb dX8_init_96 rfl (lv_at hl 0 rfl) ?_
    refine sn_newobj (ci := 1) (ks := [2, 1]) (lay3 := sn_yl_48) (nn := 52) C hE hw rfl rfl (by decide) (by omega) rfl ug_X1 tyX1_ok kcl_RX8_58 kis_X1 ki_RX1 (sn_zr_pR (by decide) (sn_zr_iniX3 (by decide) (sn_zr_pR (by decide) (sn_zr_iniX0 (by decide) (sn_zr_pR (by decide) (sn_zr_iniX0 (by decide) (sn_zr_pR (by decide) (sn_zr_iniX6 (by decide) (sn_zr_pR (by decide) (sn_zr_iniX5 (by decide) (sn_zr_pR (by decide) (sn_zr_pR (by decide) (sn_zr_pR (by decide) (sn_zr_iniX2 (by decide) (sn_zr_pR (by decide) (sn_zr_iniX2 (by decide) (sn_z_zr _))))))))))))))))) sn_dfX1 (Nat.le_of_ble_eq_true rfl) (Nat.le_of_ble_eq_true rfl) dX8_init_97 (fun H C hw hsz => ?_)
    refine lv_dup hx hb dX8_init_100 rfl ?_
    refine sn_callA (q := 52) (lay' := sn_yl_49) (τ := (sn_iniX1 (sn_pR (sn_iniX3 (sn_pR (sn_iniX0 (sn_pR (sn_iniX0 (sn_pR (sn_iniX6 (sn_pR (sn_iniX5 (sn_pR (sn_pR (sn_pR (sn_iniX2 (sn_pR (sn_iniX2 sn_z 1) 0 0 (some 1)) 8) 0 1 (some 8)) 0 2 (some 15)) 0 3 (some 16)) 17) 0 4 (some 17)) 19) 0 5 (some 19)) 27) 0 6 (some 27)) 38) 0 7 (some 38)) 49) 0 8 (some 49)) 52)) (mc := 1) (ms := 31) (n := 0) (As := fun ad => []) [.ref (ad 52), .ref (ad 0)] C hE hw hsz hAO (ctX1_init l sn_yl_47 (by decide) (sn_pR (sn_iniX3 (sn_pR (sn_iniX0 (sn_pR (sn_iniX0 (sn_pR (sn_iniX6 (sn_pR (sn_iniX5 (sn_pR (sn_pR (sn_pR (sn_iniX2 (sn_pR (sn_iniX2 sn_z 1) 0 0 (some 1)) 8) 0 1 (some 8)) 0 2 (some 15)) 0 3 (some 16)) 17) 0 4 (some 17)) 19) 0 5 (some 19)) 27) 0 6 (some 27)) 38) 0 7 (some 38)) 49) 0 8 (some 49)) (fun a (ha : 52 ≤ a) => sn_zr_pR (by omega) (sn_zr_iniX3 (by omega) (sn_zr_pR (by omega) (sn_zr_iniX0 (by omega) (sn_zr_pR (by omega) (sn_zr_iniX0 (by omega) (sn_zr_pR (by omega) (sn_zr_iniX6 (by omega) (sn_zr_pR (by omega) (sn_zr_iniX5 (by omega) (sn_zr_pR (by omega) (sn_zr_pR (by omega) (sn_zr_pR (by omega) (sn_zr_iniX2 (by omega) (sn_zr_pR (by omega) (sn_zr_iniX2 (by omega) (sn_z_zr _))))))))))))))))) ) kc_X1_init (List.mem_of_getElem? (i := 4) rfl) kin_X1_init ki_RX1 rfl (by decide +kernel) rfl rfl rfl (Nat.le_of_ble_eq_true rfl) dX8_init_101 hl.1 (Nat.le_of_ble_eq_true rfl) (Nat.le_of_ble_eq_true rfl) (fun H locs hw => ?_)
    have C := sn_C_lay (lay2 := sn_yl_49) C hE (by decide)
    refine sn_putF C hni hw ff_RX8_61 rfl rfl rfl rfl dX8_init_104 (fun H locs hw => ?_)
    refine lv_aload_n hx hb dX8_init_107 rfl (lv_at hl 0 rfl) ?_
    refine sn_newobj (ci := 7) (ks := [2, 0, 0, 0, 2]) (lay3 := sn_yl_50) (nn := 54) C hE hw rfl rfl (by decide) (by omega) rfl ug_X7 tyX7_ok kcl_RX8_65 kis_X7 ki_RX7 (sn_zr_pR (by decide) (sn_zr_iniX1 (by decide) (sn_zr_pR (by decide) (sn_zr_iniX3 (by decide) (sn_zr_pR (by decide) (sn_zr_iniX0 (by decide) (sn_zr_pR (by decide) (sn_zr_iniX0 (by decide) (sn_zr_pR (by decide) (sn_zr_iniX6 (by decide) (sn_zr_pR (by decide) (sn_zr_iniX5 (by decide) (sn_zr_pR (by decide) (sn_zr_pR (by decide) (sn_zr_pR (by decide) (sn_zr_iniX2 (by decide) (sn_zr_pR (by decide) (sn_zr_iniX2 (by decide) (sn_z_zr _))))))))))))))))))) sn_dfX7 (Nat.le_of_ble_eq_true rfl) (Nat.le_of_ble_eq_true rfl) dX8_init_108 (fun H C hw hsz => ?_)
    refine lv_dup hx hb dX8_init_111 rfl ?_
    refine sn_callA (q := 54) (lay' := sn_yl_51) (τ := (sn_iniX7 (sn_pR (sn_iniX1 (sn_pR (sn_iniX3 (sn_pR (sn_iniX0 (sn_pR (sn_iniX0 (sn_pR (sn_iniX6 (sn_pR (sn_iniX5 (sn_pR (sn_pR (sn_pR (sn_iniX2 (sn_pR (sn_iniX2 sn_z 1) 0 0 (some 1)) 8) 0 1 (some 8)) 0 2 (some 15)) 0 3 (some 16)) 17) 0 4 (some 17)) 19) 0 5 (some 19)) 27) 0 6 (some 27)) 38) 0 7 (some 38)) 49) 0 8 (some 49)) 52) 0 9 (some 52)) 54)) (mc := 2) (ms := 192) (n := 0) (As := fun ad => []) [.ref (ad 54), .ref (ad 0)] C hE hw hsz hAO (ctX7_init l sn_yl_49 (by decide) (sn_pR (sn_iniX1 (sn_pR (sn_iniX3 (sn_pR (sn_iniX0 (sn_pR (sn_iniX0 (sn_pR (sn_iniX6 (sn_pR (sn_iniX5 (sn_pR (sn_pR (sn_pR (sn_iniX2 (sn_pR (sn_iniX2 sn_z 1) 0 0 (some 1)) 8) 0 1 (some 8)) 0 2 (some 15)) 0 3 (some 16)) 17) 0 4 (some 17)) 19) 0 5 (some 19)) 27) 0 6 (some 27)) 38) 0 7 (some 38)) 49) 0 8 (some 49)) 52) 0 9 (some 52)) (fun a (ha : 54 ≤ a) => sn_zr_pR (by omega) (sn_zr_iniX1 (by omega) (sn_zr_pR (by omega) (sn_zr_iniX3 (by omega) (sn_zr_pR (by omega) (sn_zr_iniX0 (by omega) (sn_zr_pR (by omega) (sn_zr_iniX0 (by omega) (sn_zr_pR (by omega) (sn_zr_iniX6 (by omega) (sn_zr_pR (by omega) (sn_zr_iniX5 (by omega) (sn_zr_pR (by omega) (sn_zr_pR (by omega) (sn_zr_pR (by omega) (sn_zr_iniX2 (by omega) (sn_zr_pR (by omega) (sn_zr_iniX2 (by omega) (sn_z_zr _))))))))))))))))))) ) kc_X7_init (List.mem_of_getElem? (i := 5) rfl) kin_X7_init ki_RX7 rfl (by decide +kernel) rfl rfl rfl (Nat.le_of_ble_eq_true rfl) dX8_init_112 hl.1 (Nat.le_of_ble_eq_true rfl) (Nat.le_of_ble_eq_true rfl) (fun H locs hw => ?_)
    have C := sn_C_lay (lay2 := sn_yl_51) C hE (by decide)
    refine sn_putF C hni hw ff_RX8_68 rfl rfl rfl rfl dX8_init_115 (fun H locs hw => ?_)
    refine lv_aload_n hx hb dX8_init_118 rfl (lv_at hl 0 rfl) ?_
    refine sn_newobj (ci := 4) (ks := [1, 1, 2, 2, 2]) (lay3 := sn_yl_25) (nn := 57) C hE hw rfl rfl (by decide) (by omega) rfl ug_X4 tyX4_ok kcl_RX8_72 kis_X4 ki_RX4 (sn_zr_pR (by decide) (sn_zr_iniX7 (by decide) (sn_zr_pR (by decide) (sn_zr_iniX1 (by decide) (sn_zr_pR (by decide) (sn_zr_iniX3 (by decide) (sn_zr_pR (by decide) (sn_zr_iniX0 (by decide) (sn_zr_pR (by decide) (sn_zr_iniX0 (by decide) (sn_zr_pR (by decide) (sn_zr_iniX6 (by decide) (sn_zr_pR (by decide) (sn_zr_iniX5 (by decide) (sn_zr_pR (by decide) (sn_zr_pR (by decide) (sn_zr_pR (by decide) (sn_zr_iniX2 (by decide) (sn_zr_pR (by decide) (sn_zr_iniX2 (by decide) (sn_z_zr _))))))))))))))))))))) sn_dfX4 (Nat.le_of_ble_eq_true rfl) (Nat.le_of_ble_eq_true rfl) dX8_init_119 (fun H C hw hsz => ?_)
    refine lv_dup hx hb dX8_init_122 rfl ?_
    refine sn_callA (q := 57) (lay' := sn_yl_26) (τ := (sn_iniX4 (sn_pR (sn_iniX7 (sn_pR (sn_iniX1 (sn_pR (sn_iniX3 (sn_pR (sn_iniX0 (sn_pR (sn_iniX0 (sn_pR (sn_iniX6 (sn_pR (sn_iniX5 (sn_pR (sn_pR (sn_pR (sn_iniX2 (sn_pR (sn_iniX2 sn_z 1) 0 0 (some 1)) 8) 0 1 (some 8)) 0 2 (some 15)) 0 3 (some 16)) 17) 0 4 (some 17)) 19) 0 5 (some 19)) 27) 0 6 (some 27)) 38) 0 7 (some 38)) 49) 0 8 (some 49)) 52) 0 9 (some 52)) 54) 0 10 (some 54)) 57)) (mc := 15) (ms := 505) (n := 0) (As := fun ad => []) [.ref (ad 57), .ref (ad 0)] C hE hw hsz hAO (ctX4_init l (sn_pR (sn_iniX7 (sn_pR (sn_iniX1 (sn_pR (sn_iniX3 (sn_pR (sn_iniX0 (sn_pR (sn_iniX0 (sn_pR (sn_iniX6 (sn_pR (sn_iniX5 (sn_pR (sn_pR (sn_pR (sn_iniX2 (sn_pR (sn_iniX2 sn_z 1) 0 0 (some 1)) 8) 0 1 (some 8)) 0 2 (some 15)) 0 3 (some 16)) 17) 0 4 (some 17)) 19) 0 5 (some 19)) 27) 0 6 (some 27)) 38) 0 7 (some 38)) 49) 0 8 (some 49)) 52) 0 9 (some 52)) 54) 0 10 (some 54)) (fun a (ha : 57 ≤ a) => sn_zr_pR (by omega) (sn_zr_iniX7 (by omega) (sn_zr_pR (by omega) (sn_zr_iniX1 (by omega) (sn_zr_pR (by omega) (sn_zr_iniX3 (by omega) (sn_zr_pR (by omega) (sn_zr_iniX0 (by omega) (sn_zr_pR (by omega) (sn_zr_iniX0 (by omega) (sn_zr_pR (by omega) (sn_zr_iniX6 (by omega) (sn_zr_pR (by omega) (sn_zr_iniX5 (by omega) (sn_zr_pR (by omega) (sn_zr_pR (by omega) (sn_zr_pR (by omega) (sn_zr_iniX2 (by omega) (sn_zr_pR (by omega) (sn_zr_iniX2 (by omega) (sn_z_zr _)))))))))))))))))))))) kc_X4_init (List.mem_of_getElem? (i := 6) rfl) kin_X4_init ki_RX4 rfl (by decide +kernel) rfl rfl rfl (Nat.le_of_ble_eq_true rfl) dX8_init_123 hl.1 (Nat.le_of_ble_eq_true rfl) (Nat.le_of_ble_eq_true rfl) (fun H locs hw => ?_)
    have C := sn_C_lay (lay2 := sn_yl_26) C hE (by decide)
    refine sn_putF C hni hw ff_RX8_75 rfl rfl rfl rfl dX8_init_126 (fun H locs hw => ?_)
    refine lv_iconst (v := 0) hx hb dX8_init_129 rfl ?_
    refine lv_istore_n (lv' := [(1, .int 0), (0, .ref (ad 0))]) hx hb dX8_init_130 rfl hl (by decide) rfl (fun ls hl => ?_)
    refine lv_iload_n hx hb dX8_init_131 rfl (lv_at hl 0 rfl) ?_
    refine lv_iconst (v := 3) hx hb dX8_init_132 rfl ?_
    refine lv_icmp_ge (tgt := 155) hx hb dX8_init_133 (by decide) (fun q => absurd q (by decide)) (fun _ => ?_)
    refine lv_aload_n hx hb dX8_init_136 rfl (lv_at hl 1 rfl) ?_
    refine sn_getR (r := 15) C hw fd_RX8_19 rfl rfl rfl dX8_init_137 ?_
    refine lv_iload_n hx hb dX8_init_140 rfl (lv_at hl 0 rfl) ?_
    refine sn_newobj (ci := 2) (ks := [2, 2, 2, 2, 2, 2]) (lay3 := sn_yl_52) (nn := 73) C hE hw rfl rfl (by decide) (by omega) rfl ug_X2 tyX2_ok kcl_RX8_7 kis_X2 ki_RX2 (sn_zr_pR (by decide) (sn_zr_iniX4 (by decide) (sn_zr_pR (by decide) (sn_zr_iniX7 (by decide) (sn_zr_pR (by decide) (sn_zr_iniX1 (by decide) (sn_zr_pR (by decide) (sn_zr_iniX3 (by decide) (sn_zr_pR (by decide) (sn_zr_iniX0 (by decide) (sn_zr_pR (by decide) (sn_zr_iniX0 (by decide) (sn_zr_pR (by decide) (sn_zr_iniX6 (by decide) (sn_zr_pR (by decide) (sn_zr_iniX5 (by decide) (sn_zr_pR (by decide) (sn_zr_pR (by decide) (sn_zr_pR (by decide) (sn_zr_iniX2 (by decide) (sn_zr_pR (by decide) (sn_zr_iniX2 (by decide) (sn_z_zr _))))))))))))))))))))))) sn_dfX2 (Nat.le_of_ble_eq_true rfl) (Nat.le_of_ble_eq_true rfl) dX8_init_141 (fun H C hw hsz => ?_)
    refine lv_dup hx hb dX8_init_144 rfl ?_
    refine sn_callA (q := 73) (lay' := sn_yl_53) (τ := (sn_iniX2 (sn_pR (sn_iniX4 (sn_pR (sn_iniX7 (sn_pR (sn_iniX1 (sn_pR (sn_iniX3 (sn_pR (sn_iniX0 (sn_pR (sn_iniX0 (sn_pR (sn_iniX6 (sn_pR (sn_iniX5 (sn_pR (sn_pR (sn_pR (sn_iniX2 (sn_pR (sn_iniX2 sn_z 1) 0 0 (some 1)) 8) 0 1 (some 8)) 0 2 (some 15)) 0 3 (some 16)) 17) 0 4 (some 17)) 19) 0 5 (some 19)) 27) 0 6 (some 27)) 38) 0 7 (some 38)) 49) 0 8 (some 49)) 52) 0 9 (some 52)) 54) 0 10 (some 54)) 57) 0 11 (some 57)) 73)) (mc := 6) (ms := 199) (n := 0) (As := fun ad => []) [.ref (ad 73), .int 0, .ref (ad 15)] C hE hw hsz hAO (ctX2_init l sn_yl_26 (by decide) (sn_pR (sn_iniX4 (sn_pR (sn_iniX7 (sn_pR (sn_iniX1 (sn_pR (sn_iniX3 (sn_pR (sn_iniX0 (sn_pR (sn_iniX0 (sn_pR (sn_iniX6 (sn_pR (sn_iniX5 (sn_pR (sn_pR (sn_pR (sn_iniX2 (sn_pR (sn_iniX2 sn_z 1) 0 0 (some 1)) 8) 0 1 (some 8)) 0 2 (some 15)) 0 3 (some 16)) 17) 0 4 (some 17)) 19) 0 5 (some 19)) 27) 0 6 (some 27)) 38) 0 7 (some 38)) 49) 0 8 (some 49)) 52) 0 9 (some 52)) 54) 0 10 (some 54)) 57) 0 11 (some 57)) (fun a (ha : 73 ≤ a) => sn_zr_pR (by omega) (sn_zr_iniX4 (by omega) (sn_zr_pR (by omega) (sn_zr_iniX7 (by omega) (sn_zr_pR (by omega) (sn_zr_iniX1 (by omega) (sn_zr_pR (by omega) (sn_zr_iniX3 (by omega) (sn_zr_pR (by omega) (sn_zr_iniX0 (by omega) (sn_zr_pR (by omega) (sn_zr_iniX0 (by omega) (sn_zr_pR (by omega) (sn_zr_iniX6 (by omega) (sn_zr_pR (by omega) (sn_zr_iniX5 (by omega) (sn_zr_pR (by omega) (sn_zr_pR (by omega) (sn_zr_pR (by omega) (sn_zr_iniX2 (by omega) (sn_zr_pR (by omega) (sn_zr_iniX2 (by omega) (sn_z_zr _))))))))))))))))))))))) ) kc_X2_init (List.mem_of_getElem? (i := 0) rfl) kin_X2_init ki_RX2 rfl (by decide +kernel) rfl rfl rfl (Nat.le_of_ble_eq_true rfl) dX8_init_145 hl.1 (Nat.le_of_ble_eq_true rfl) (Nat.le_of_ble_eq_true rfl) (fun H locs hw => ?_)
    have C := sn_C_lay (lay2 := sn_yl_53) C hE (by decide)
    refine sn_aasts (k := 0) C hw rfl rfl rfl (by decide) rfl dX8_init_148 (fun H locs hw => ?_)
    refine lv_iinc (v := 1) (lv' := [(1, .int 1), (0, .ref (ad 0))]) hx hb dX8_init_149 hl (k := 0) rfl (by decide) (by decide) rfl (fun ls hl => ?_)
    refine lv_goto (tgt := 131) hx hb dX8_init_152 (by decide) ?_
    refine lv_iload_n hx hb dX8_init_131 rfl (lv_at hl 0 rfl) ?_
    refine lv_iconst (v := 3) hx hb dX8_init_132 rfl ?_
    refine lv_icmp_ge (tgt := 155) hx hb dX8_init_133 (by decide) (fun q => absurd q (by decide)) (fun _ => ?_)
    refine lv_aload_n hx hb dX8_init_136 rfl (lv_at hl 1 rfl) ?_
    refine sn_getR (r := 15) C hw fd_RX8_19 rfl rfl rfl dX8_init_137 ?_
    refine lv_iload_n hx hb dX8_init_140 rfl (lv_at hl 0 rfl) ?_
    refine sn_newobj (ci := 2) (ks := [2, 2, 2, 2, 2, 2]) (lay3 := sn_yl_54) (nn := 80) C hE hw rfl rfl (by decide) (by omega) rfl ug_X2 tyX2_ok kcl_RX8_7 kis_X2 ki_RX2 (sn_zr_pR (by decide) (sn_zr_iniX2 (by decide) (sn_zr_pR (by decide) (sn_zr_iniX4 (by decide) (sn_zr_pR (by decide) (sn_zr_iniX7 (by decide) (sn_zr_pR (by decide) (sn_zr_iniX1 (by decide) (sn_zr_pR (by decide) (sn_zr_iniX3 (by decide) (sn_zr_pR (by decide) (sn_zr_iniX0 (by decide) (sn_zr_pR (by decide) (sn_zr_iniX0 (by decide) (sn_zr_pR (by decide) (sn_zr_iniX6 (by decide) (sn_zr_pR (by decide) (sn_zr_iniX5 (by decide) (sn_zr_pR (by decide) (sn_zr_pR (by decide) (sn_zr_pR (by decide) (sn_zr_iniX2 (by decide) (sn_zr_pR (by decide) (sn_zr_iniX2 (by decide) (sn_z_zr _))))))))))))))))))))))))) sn_dfX2 (Nat.le_of_ble_eq_true rfl) (Nat.le_of_ble_eq_true rfl) dX8_init_141 (fun H C hw hsz => ?_)
    refine lv_dup hx hb dX8_init_144 rfl ?_
    refine sn_callA (q := 80) (lay' := sn_yl_55) (τ := (sn_iniX2 (sn_pR (sn_iniX2 (sn_pR (sn_iniX4 (sn_pR (sn_iniX7 (sn_pR (sn_iniX1 (sn_pR (sn_iniX3 (sn_pR (sn_iniX0 (sn_pR (sn_iniX0 (sn_pR (sn_iniX6 (sn_pR (sn_iniX5 (sn_pR (sn_pR (sn_pR (sn_iniX2 (sn_pR (sn_iniX2 sn_z 1) 0 0 (some 1)) 8) 0 1 (some 8)) 0 2 (some 15)) 0 3 (some 16)) 17) 0 4 (some 17)) 19) 0 5 (some 19)) 27) 0 6 (some 27)) 38) 0 7 (some 38)) 49) 0 8 (some 49)) 52) 0 9 (some 52)) 54) 0 10 (some 54)) 57) 0 11 (some 57)) 73) 15 0 (some 73)) 80)) (mc := 6) (ms := 199) (n := 0) (As := fun ad => []) [.ref (ad 80), .int 1, .ref (ad 15)] C hE hw hsz hAO (ctX2_init l sn_yl_53 (by decide) (sn_pR (sn_iniX2 (sn_pR (sn_iniX4 (sn_pR (sn_iniX7 (sn_pR (sn_iniX1 (sn_pR (sn_iniX3 (sn_pR (sn_iniX0 (sn_pR (sn_iniX0 (sn_pR (sn_iniX6 (sn_pR (sn_iniX5 (sn_pR (sn_pR (sn_pR (sn_iniX2 (sn_pR (sn_iniX2 sn_z 1) 0 0 (some 1)) 8) 0 1 (some 8)) 0 2 (some 15)) 0 3 (some 16)) 17) 0 4 (some 17)) 19) 0 5 (some 19)) 27) 0 6 (some 27)) 38) 0 7 (some 38)) 49) 0 8 (some 49)) 52) 0 9 (some 52)) 54) 0 10 (some 54)) 57) 0 11 (some 57)) 73) 15 0 (some 73)) (fun a (ha : 80 ≤ a) => sn_zr_pR (by omega) (sn_zr_iniX2 (by omega) (sn_zr_pR (by omega) (sn_zr_iniX4 (by omega) (sn_zr_pR (by omega) (sn_zr_iniX7 (by omega) (sn_zr_pR (by omega) (sn_zr_iniX1 (by omega) (sn_zr_pR (by omega) (sn_zr_iniX3 (by omega) (sn_zr_pR (by omega) (sn_zr_iniX0 (by omega) (sn_zr_pR (by omega) (sn_zr_iniX0 (by omega) (sn_zr_pR (by omega) (sn_zr_iniX6 (by omega) (sn_zr_pR (by omega) (sn_zr_iniX5 (by omega) (sn_zr_pR (by omega) (sn_zr_pR (by omega) (sn_zr_pR (by omega) (sn_zr_iniX2 (by omega) (sn_zr_pR (by omega) (sn_zr_iniX2 (by omega) (sn_z_zr _))))))))))))))))))))))))) ) kc_X2_init (List.mem_of_getElem? (i := 0) rfl) kin_X2_init ki_RX2 rfl (by decide +kernel) rfl rfl rfl (Nat.le_of_ble_eq_true rfl) dX8_init_145 hl.1 (Nat.le_of_ble_eq_true rfl) (Nat.le_of_ble_eq_true rfl) (fun H locs hw => ?_)
    have C := sn_C_lay (lay2 := sn_yl_55) C hE (by decide)
    refine sn_aasts (k := 1) C hw rfl rfl rfl (by decide) rfl dX8_init_148 (fun H locs hw => ?_)
    refine lv_iinc (v := 2) (lv' := [(1, .int 2), (0, .ref (ad 0))]) hx hb dX8_init_149 hl (k := 0) rfl (by decide) (by decide) rfl (fun ls hl => ?_)
    refine lv_goto (tgt := 131) hx hb dX8_init_152 (by decide) ?_
    refine lv_iload_n hx hb dX8_init_131 rfl (lv_at hl 0 rfl) ?_
    refine lv_iconst (v := 3) hx hb dX8_init_132 rfl ?_
    refine lv_icmp_ge (tgt := 155) hx hb dX8_init_133 (by decide) (fun q => absurd q (by decide)) (fun _ => ?_)
    refine lv_aload_n hx hb dX8_init_136 rfl (lv_at hl 1 rfl) ?_
    refine sn_getR (r := 15) C hw fd_RX8_19 rfl rfl rfl dX8_init_137 ?_
    refine lv_iload_n hx hb dX8_init_140 rfl (lv_at hl 0 rfl) ?_
    refine sn_newobj (ci := 2) (ks := [2, 2, 2, 2, 2, 2]) (lay3 := sn_yl_56) (nn := 87) C hE hw rfl rfl (by decide) (by omega) rfl ug_X2 tyX2_ok kcl_RX8_7 kis_X2 ki_RX2 (sn_zr_pR (by decide) (sn_zr_iniX2 (by decide) (sn_zr_pR (by decide) (sn_zr_iniX2 (by decide) (sn_zr_pR (by decide) (sn_zr_iniX4 (by decide) (sn_zr_pR (by decide) (sn_zr_iniX7 (by decide) (sn_zr_pR (by decide) (sn_zr_iniX1 (by decide) (sn_zr_pR (by decide) (sn_zr_iniX3 (by decide) (sn_zr_pR (by decide) (sn_zr_iniX0 (by decide) (sn_zr_pR (by decide) (sn_zr_iniX0 (by decide) (sn_zr_pR (by decide) (sn_zr_iniX6 (by decide) (sn_zr_pR (by decide) (sn_zr_iniX5 (by decide) (sn_zr_pR (by decide) (sn_zr_pR (by decide) (sn_zr_pR (by decide) (sn_zr_iniX2 (by decide) (sn_zr_pR (by decide) (sn_zr_iniX2 (by decide) (sn_z_zr _))))))))))))))))))))))))))) sn_dfX2 (Nat.le_of_ble_eq_true rfl) (Nat.le_of_ble_eq_true rfl) dX8_init_141 (fun H C hw hsz => ?_)
    refine lv_dup hx hb dX8_init_144 rfl ?_
    refine sn_callA (q := 87) (lay' := sn_yl_31) (τ := (sn_iniX2 (sn_pR (sn_iniX2 (sn_pR (sn_iniX2 (sn_pR (sn_iniX4 (sn_pR (sn_iniX7 (sn_pR (sn_iniX1 (sn_pR (sn_iniX3 (sn_pR (sn_iniX0 (sn_pR (sn_iniX0 (sn_pR (sn_iniX6 (sn_pR (sn_iniX5 (sn_pR (sn_pR (sn_pR (sn_iniX2 (sn_pR (sn_iniX2 sn_z 1) 0 0 (some 1)) 8) 0 1 (some 8)) 0 2 (some 15)) 0 3 (some 16)) 17) 0 4 (some 17)) 19) 0 5 (some 19)) 27) 0 6 (some 27)) 38) 0 7 (some 38)) 49) 0 8 (some 49)) 52) 0 9 (some 52)) 54) 0 10 (some 54)) 57) 0 11 (some 57)) 73) 15 0 (some 73)) 80) 15 1 (some 80)) 87)) (mc := 6) (ms := 199) (n := 0) (As := fun ad => []) [.ref (ad 87), .int 2, .ref (ad 15)] C hE hw hsz hAO (ctX2_init l sn_yl_55 (by decide) (sn_pR (sn_iniX2 (sn_pR (sn_iniX2 (sn_pR (sn_iniX4 (sn_pR (sn_iniX7 (sn_pR (sn_iniX1 (sn_pR (sn_iniX3 (sn_pR (sn_iniX0 (sn_pR (sn_iniX0 (sn_pR (sn_iniX6 (sn_pR (sn_iniX5 (sn_pR (sn_pR (sn_pR (sn_iniX2 (sn_pR (sn_iniX2 sn_z 1) 0 0 (some 1)) 8) 0 1 (some 8)) 0 2 (some 15)) 0 3 (some 16)) 17) 0 4 (some 17)) 19) 0 5 (some 19)) 27) 0 6 (some 27)) 38) 0 7 (some 38)) 49) 0 8 (some 49)) 52) 0 9 (some 52)) 54) 0 10 (some 54)) 57) 0 11 (some 57)) 73) 15 0 (some 73)) 80) 15 1 (some 80)) (fun a (ha : 87 ≤ a) => sn_zr_pR (by omega) (sn_zr_iniX2 (by omega) (sn_zr_pR (by omega) (sn_zr_iniX2 (by omega) (sn_zr_pR (by omega) (sn_zr_iniX4 (by omega) (sn_zr_pR (by omega) (sn_zr_iniX7 (by omega) (sn_zr_pR (by omega) (sn_zr_iniX1 (by omega) (sn_zr_pR (by omega) (sn_zr_iniX3 (by omega) (sn_zr_pR (by omega) (sn_zr_iniX0 (by omega) (sn_zr_pR (by omega) (sn_zr_iniX0 (by omega) (sn_zr_pR (by omega) (sn_zr_iniX6 (by omega) (sn_zr_pR (by omega) (sn_zr_iniX5 (by omega) (sn_zr_pR (by omega) (sn_zr_pR (by omega) (sn_zr_pR (by omega) (sn_zr_iniX2 (by omega) (sn_zr_pR (by omega) (sn_zr_iniX2 (by omega) (sn_z_zr _))))))))))))))))))))))))))) ) kc_X2_init (List.mem_of_getElem? (i := 0) rfl) kin_X2_init ki_RX2 rfl (by decide +kernel) rfl rfl rfl (Nat.le_of_ble_eq_true rfl) dX8_init_145 hl.1 (Nat.le_of_ble_eq_true rfl) (Nat.le_of_ble_eq_true rfl) (fun H locs hw => ?_)
    have C := sn_C_lay (lay2 := sn_yl_31) C hE (by decide)
    refine sn_aasts (k := 2) C hw rfl rfl rfl (by decide) rfl dX8_init_148 (fun H locs hw => ?_)
    refine lv_iinc (v := 3) (lv' := [(1, .int 3), (0, .ref (ad 0))]) hx hb dX8_init_149 hl (k := 0) rfl (by decide) (by decide) rfl (fun ls hl => ?_)
    refine lv_goto (tgt := 131) hx hb dX8_init_152 (by decide) ?_
    refine lv_iload_n hx hb dX8_init_131 rfl (lv_at hl 0 rfl) ?_
    refine lv_iconst (v := 3) hx hb dX8_init_132 rfl ?_
    refine lv_icmp_ge (tgt := 155) hx hb dX8_init_133 (by decide) (fun _ => ?_) (fun q => absurd (by decide) q)
    exact sn_vretA C hw rfl rfl dX8_init_155)

-- X9_init
abbrev rmX9_init : Room := { frames := 1, cells := 24, slots := 6103, locals := 12 }
def sn_iniX9 : sn_S := (sn_pR (sn_pR (sn_pR (sn_pR (sn_pI (sn_pI (sn_pI (sn_pI (sn_pR (sn_pR (sn_pR (sn_pR (sn_pR (sn_pR (sn_pR (sn_pR (sn_pR (sn_pR (sn_pR (sn_pR (sn_pR (sn_pR (sn_pR (sn_pI (sn_pR (sn_pR (sn_pR (sn_pR (sn_pR sn_z 0 1 (some 1)) 0 2 (some 2)) 0 3 (some 3)) 0 4 (some 4)) 0 6 (some 5)) 0 13 (-1)) 0 14 (some 6)) 0 15 (some 7)) 0 16 (some 8)) 0 17 (some 9)) 0 23 (some 10)) 0 24 (some 11)) 0 25 (some 12)) 0 26 (some 13)) 0 27 (some 14)) 0 28 (some 15)) 0 29 (some 16)) 0 32 (some 17)) 0 33 (some 18)) 0 34 (some 19)) 0 35 (some 20)) 21 (0 : Int32).toNatClampNeg (-1)) 21 (1 : Int32).toNatClampNeg (-1)) 21 (2 : Int32).toNatClampNeg (-1)) 21 (3 : Int32).toNatClampNeg (-1)) 0 42 (some 21)) 0 43 (some 22)) 0 44 (some 23)) 0 45 (some 24))
def sn_dynX9 : List sn_E := sn_yl_57
theorem ctX9_init (l : Launch) : sn_MA l yX9_init cX9_init 1 rmX9_init [.inr (9, [0, 2, 2, 2, 2, 0, 2, 0, 0, 0, 0, 0, 0, 0, 2, 2, 2, 2, 0, 0, 0, 0, 0, 2, 2, 2, 2, 2, 2, 2, 0, 0, 2, 2, 2, 2, 0, 0, 1, 1, 1, 1, 2, 2, 2, 2])] sn_dynX9 (fun ad => [.ref (ad 0)]) sn_z sn_iniX9 24 6103 :=
  sn_metA (by decide) rfl (by decide) (fun _ => Nat.le_of_ble_eq_true rfl) (fun p e s m args below meth c ls D ct ad A N0 C hE hni hAO hsz1 hw hl => by
    have hx := C.1
    have hb := C.2.1
    have hAA := hAO.2
    have hAH := hAO.1
    have hsz0 : s.heap.size = N0 + 1 := hsz1
    refine lv_aload_n hx hb dX9_init_0 rfl (lv_at hl 0 rfl) ?_
    refine W.objInit hx hb C.2.2.2.1 (C.2.2.2.2.1 _ km_RX9_3) (C.2.2.2.2.1 _ kin_objectInit) (C.2.2.2.2.1 _ kc_objectInit) rfl (by rw [C.2.2.1]; exact hl.1) rfl dX9_init_1 (Nat.le_of_ble_eq_true rfl) (Nat.le_of_ble_eq_true rfl) ?_
    refine W.eq (g2 := F0 m 4 ls []) rfl ?_
    refine lv_aload_n hx hb dX9_init_4 rfl (lv_at hl 0 rfl) ?_
    refine lv_bipush (v := 119) hx hb dX9_init_5 (by decide) ?_
    refine sn_newarr (t := 0) (N := 119) (kd := 0) (ty := .int) (lay3 := sn_yl_58) (nn := 1) C hE hw rfl rfl (by decide) (by omega) rfl rfl (fun K h => by cases h) ka_int (sn_cI (sn_z_zr _)) (by decide) (by decide) (Nat.le_of_ble_eq_true rfl) (Nat.le_of_ble_eq_true rfl) (Nat.le_of_ble_eq_true rfl) dX9_init_7 (fun H C hw => ?_)
    refine sn_putF C hni hw ff_RX9_9 rfl rfl rfl rfl dX9_init_9 (fun H locs hw => ?_)
    refine lv_aload_n hx hb dX9_init_12 rfl (lv_at hl 0 rfl) ?_
    refine lv_sipush (v := 357) hx hb dX9_init_13 (by decide) ?_
    refine sn_newarr (t := 0) (N := 357) (kd := 0) (ty := .int) (lay3 := sn_yl_59) (nn := 2) C hE hw rfl rfl (by decide) (by omega) rfl rfl (fun K h => by cases h) ka_int (sn_cI (sn_zr_pR (by decide) (sn_z_zr _))) (by decide) (by decide) (Nat.le_of_ble_eq_true rfl) (Nat.le_of_ble_eq_true rfl) (Nat.le_of_ble_eq_true rfl) dX9_init_16 (fun H C hw => ?_)
    refine sn_putF C hni hw ff_RX9_13 rfl rfl rfl rfl dX9_init_18 (fun H locs hw => ?_)
    refine lv_aload_n hx hb dX9_init_21 rfl (lv_at hl 0 rfl) ?_
    refine lv_iconst (v := 3) hx hb dX9_init_22 rfl ?_
    refine sn_newarr (t := 1) (N := 3) (kd := 0) (ty := .boolean) (lay3 := sn_yl_60) (nn := 3) C hE hw rfl rfl (by decide) (by omega) rfl rfl (fun K h => by cases h) ka_boolean (sn_cZ (sn_zr_pR (by decide) (sn_zr_pR (by decide) (sn_z_zr _)))) (by decide) (by decide) (Nat.le_of_ble_eq_true rfl) (Nat.le_of_ble_eq_true rfl) (Nat.le_of_ble_eq_true rfl) dX9_init_23 (fun H C hw => ?_)
    refine sn_putF C hni hw ff_RX9_16 rfl rfl rfl rfl dX9_init_25 (fun H locs hw => ?_)
    refine lv_aload_n hx hb dX9_init_28 rfl (lv_at hl 0 rfl) ?_
    refine lv_sipush (v := 900) hx hb dX9_init_29 (by decide) ?_
    refine sn_newarr (t := 2) (N := 900) (kd := 0) (ty := .byte) (lay3 := sn_yl_61) (nn := 4) C hE hw rfl rfl (by decide) (by omega) rfl rfl (fun K h => by cases h) ka_byte (sn_cB (sn_zr_pR (by decide) (sn_zr_pR (by decide) (sn_zr_pR (by decide) (sn_z_zr _))))) (by decide) (by decide) (Nat.le_of_ble_eq_true rfl) (Nat.le_of_ble_eq_true rfl) (Nat.le_of_ble_eq_true rfl) dX9_init_32 (fun H C hw => ?_)
    refine sn_putF C hni hw ff_RX9_20 rfl rfl rfl rfl dX9_init_34 (fun H locs hw => ?_)
    refine lv_aload_n hx hb dX9_init_37 rfl (lv_at hl 0 rfl) ?_
    refine lv_iconst (v := 5) hx hb dX9_init_38 rfl ?_
    refine sn_newarr (t := 0) (N := 5) (kd := 0) (ty := .int) (lay3 := sn_yl_62) (nn := 5) C hE hw rfl rfl (by decide) (by omega) rfl rfl (fun K h => by cases h) ka_int (sn_cI (sn_zr_pR (by decide) (sn_zr_pR (by decide) (sn_zr_pR (by decide) (sn_zr_pR (by decide) (sn_z_zr _)))))) (by decide) (by decide) (Nat.le_of_ble_eq_true rfl) (Nat.le_of_ble_eq_true rfl) (Nat.le_of_ble_eq_true rfl) dX9_init_39 (fun H C hw => ?_)
    refine sn_putF C hni hw ff_RX9_24 rfl rfl rfl rfl dX9_init_41 (fun H locs hw => ?_)
    refine lv_aload_n hx hb dX9_init_44 rfl (lv_at hl 0 rfl) ?_
    refine lv_iconst (v := (-1)) hx hb dX9_init_45 rfl ?_
    refine sn_putI C hw fp_RX9_27 rfl rfl dX9_init_46 (fun H locs hw => ?_)
    refine lv_aload_n hx hb dX9_init_49 rfl (lv_at hl 0 rfl) ?_
    refine lv_bipush (v := 119) hx hb dX9_init_50 (by decide) ?_
    refine sn_newarr (t := 0) (N := 119) (kd := 0) (ty := .int) (lay3 := sn_yl_63) (nn := 6) C hE hw rfl rfl (by decide) (by omega) rfl rfl (fun K h => by cases h) ka_int (sn_cI (sn_zr_pI (by decide) (sn_zr_pR (by decide) (sn_zr_pR (by decide) (sn_zr_pR (by decide) (sn_zr_pR (by decide) (sn_zr_pR (by decide) (sn_z_zr _)))))))) (by decide) (by decide) (Nat.le_of_ble_eq_true rfl) (Nat.le_of_ble_eq_true rfl) (Nat.le_of_ble_eq_true rfl) dX9_init_52 (fun H C hw => ?_)
    refine sn_putF C hni hw ff_RX9_31 rfl rfl rfl rfl dX9_init_54 (fun H locs hw => ?_)
    refine lv_aload_n hx hb dX9_init_57 rfl (lv_at hl 0 rfl) ?_
    refine lv_bipush (v := 30) hx hb dX9_init_58 (by decide) ?_
    refine sn_newarr (t := 0) (N := 30) (kd := 0) (ty := .int) (lay3 := sn_yl_64) (nn := 7) C hE hw rfl rfl (by decide) (by omega) rfl rfl (fun K h => by cases h) ka_int (sn_cI (sn_zr_pR (by decide) (sn_zr_pI (by decide) (sn_zr_pR (by decide) (sn_zr_pR (by decide) (sn_zr_pR (by decide) (sn_zr_pR (by decide) (sn_zr_pR (by decide) (sn_z_zr _))))))))) (by decide) (by decide) (Nat.le_of_ble_eq_true rfl) (Nat.le_of_ble_eq_true rfl) (Nat.le_of_ble_eq_true rfl) dX9_init_60 (fun H C hw => ?_)
    refine sn_putF C hni hw ff_RX9_34 rfl rfl rfl rfl dX9_init_62 (fun H locs hw => ?_)
    refine lv_aload_n hx hb dX9_init_65 rfl (lv_at hl 0 rfl) ?_
    refine lv_bipush (v := 6) hx hb dX9_init_66 (by decide) ?_
    refine sn_newarr (t := 0) (N := 6) (kd := 0) (ty := .int) (lay3 := sn_yl_65) (nn := 8) C hE hw rfl rfl (by decide) (by omega) rfl rfl (fun K h => by cases h) ka_int (sn_cI (sn_zr_pR (by decide) (sn_zr_pR (by decide) (sn_zr_pI (by decide) (sn_zr_pR (by decide) (sn_zr_pR (by decide) (sn_zr_pR (by decide) (sn_zr_pR (by decide) (sn_zr_pR (by decide) (sn_z_zr _)))))))))) (by decide) (by decide) (Nat.le_of_ble_eq_true rfl) (Nat.le_of_ble_eq_true rfl) (Nat.le_of_ble_eq_true rfl) dX9_init_68 (fun H C hw => ?_)
    refine sn_putF C hni hw ff_RX9_37 rfl rfl rfl rfl dX9_init_70 (fun H locs hw => ?_)
    refine lv_aload_n hx hb dX9_init_73 rfl (lv_at hl 0 rfl) ?_
    refine lv_bipush (v := 6) hx hb dX9_init_74 (by decide) ?_
    refine sn_newarr (t := 0) (N := 6) (kd := 0) (ty := .int) (lay3 := sn_yl_66) (nn := 9) C hE hw rfl rfl (by decide) (by omega) rfl rfl (fun K h => by cases h) ka_int (sn_cI (sn_zr_pR (by decide) (sn_zr_pR (by decide) (sn_zr_pR (by decide) (sn_zr_pI (by decide) (sn_zr_pR (by decide) (sn_zr_pR (by decide) (sn_zr_pR (by decide) (sn_zr_pR (by decide) (sn_zr_pR (by decide) (sn_z_zr _))))))))))) (by decide) (by decide) (Nat.le_of_ble_eq_true rfl) (Nat.le_of_ble_eq_true rfl) (Nat.le_of_ble_eq_true rfl) dX9_init_76 (fun H C hw => ?_)
    refine sn_putF C hni hw ff_RX9_40 rfl rfl rfl rfl dX9_init_78 (fun H locs hw => ?_)
    refine lv_aload_n hx hb dX9_init_81 rfl (lv_at hl 0 rfl) ?_
    refine lv_bipush (v := 6) hx hb dX9_init_82 (by decide) ?_
    refine sn_newarr (t := 0) (N := 6) (kd := 0) (ty := .int) (lay3 := sn_yl_67) (nn := 10) C hE hw rfl rfl (by decide) (by omega) rfl rfl (fun K h => by cases h) ka_int (sn_cI (sn_zr_pR (by decide) (sn_zr_pR (by decide) (sn_zr_pR (by decide) (sn_zr_pR (by decide) (sn_zr_pI (by decide) (sn_zr_pR (by decide) (sn_zr_pR (by decide) (sn_zr_pR (by decide) (sn_zr_pR (by decide) (sn_zr_pR (by decide) (sn_z_zr _)))))))))))) (by decide) (by decide) (Nat.le_of_ble_eq_true rfl) (Nat.le_of_ble_eq_true rfl) (Nat.le_of_ble_eq_true rfl) dX9_init_84 (fun H C hw => ?_)
    refine sn_putF C hni hw ff_RX9_43 rfl rfl rfl rfl dX9_init_86 (fun H locs hw => ?_)
    refine lv_aload_n hx hb dX9_init_89 rfl (lv_at hl 0 rfl) ?_
    refine lv_bipush (v := 30) hx hb dX9_init_90 (by decide) ?_
    refine sn_newarr (t := 0) (N := 30) (kd := 0) (ty := .int) (lay3 := sn_yl_68) (nn := 11) C hE hw rfl rfl (by decide) (by omega) rfl rfl (fun K h => by cases h) ka_int (sn_cI (sn_zr_pR (by decide) (sn_zr_pR (by decide) (sn_zr_pR (by decide) (sn_zr_pR (by decide) (sn_zr_pR (by decide) (sn_zr_pI (by decide) (sn_zr_pR (by decide) (sn_zr_pR (by decide) (sn_zr_pR (by decide) (sn_zr_pR (by decide) (sn_zr_pR (by decide) (sn_z_zr _))))))))))))) (by decide) (by decide) (Nat.le_of_ble_eq_true rfl) (Nat.le_of_ble_eq_true rfl) (Nat.le_of_ble_eq_true rfl) dX9_init_92 (fun H C hw => ?_)
    refine sn_putF C hni hw ff_RX9_46 rfl rfl rfl rfl dX9_init_94 (fun H locs hw => ?_)
    refine lv_aload_n hx hb dX9_init_97 rfl (lv_at hl 0 rfl) ?_
    refine lv_sipush (v := 180) hx hb dX9_init_98 (by decide) ?_
    refine sn_newarr (t := 0) (N := 180) (kd := 0) (ty := .int) (lay3 := sn_yl_69) (nn := 12) C hE hw rfl rfl (by decide) (by omega) rfl rfl (fun K h => by cases h) ka_int (sn_cI (sn_zr_pR (by decide) (sn_zr_pR (by decide) (sn_zr_pR (by decide) (sn_zr_pR (by decide) (sn_zr_pR (by decide) (sn_zr_pR (by decide) (sn_zr_pI (by decide) (sn_zr_pR (by decide) (sn_zr_pR (by decide) (sn_zr_pR (by decide) (sn_zr_pR (by decide) (sn_zr_pR (by decide) (sn_z_zr _)))))))))))))) (by decide) (by decide) (Nat.le_of_ble_eq_true rfl) (Nat.le_of_ble_eq_true rfl) (Nat.le_of_ble_eq_true rfl) dX9_init_101 (fun H C hw => ?_)
    refine sn_putF C hni hw ff_RX9_49 rfl rfl rfl rfl dX9_init_103 (fun H locs hw => ?_)
    refine lv_aload_n hx hb dX9_init_106 rfl (lv_at hl 0 rfl) ?_
    refine lv_sipush (v := 180) hx hb dX9_init_107 (by decide) ?_
    refine sn_newarr (t := 0) (N := 180) (kd := 0) (ty := .int) (lay3 := sn_yl_70) (nn := 13) C hE hw rfl rfl (by decide) (by omega) rfl rfl (fun K h => by cases h) ka_int (sn_cI (sn_zr_pR (by decide) (sn_zr_pR (by decide) (sn_zr_pR (by decide) (sn_zr_pR (by decide) (sn_zr_pR (by decide) (sn_zr_pR (by decide) (sn_zr_pR (by decide) (sn_zr_pI (by decide) (sn_zr_pR (by decide) (sn_zr_pR (by decide) (sn_zr_pR (by decide) (sn_zr_pR (by decide) (sn_zr_pR (by decide) (sn_z_zr _))))))))))))))) (by decide) (by decide) (Nat.le_of_ble_eq_true rfl) (Nat.le_of_ble_eq_true rfl) (Nat.le_of_ble_eq_true rfl) dX9_init_110 (fun H C hw => ?_)
    refine sn_putF C hni hw ff_RX9_52 rfl rfl rfl rfl dX9_init_112 (fun H locs hw => ?_)
    refine lv_aload_n hx hb dX9_init_115 rfl (lv_at hl 0 rfl) ?_
    refine lv_bipush (v := 6) hx hb dX9_init_116 (by decide) ?_
    refine sn_newarr (t := 0) (N := 6) (kd := 0) (ty := .int) (lay3 := sn_yl_71) (nn := 14) C hE hw rfl rfl (by decide) (by omega) rfl rfl (fun K h => by cases h) ka_int (sn_cI (sn_zr_pR (by decide) (sn_zr_pR (by decide) (sn_zr_pR (by decide) (sn_zr_pR (by decide) (sn_zr_pR (by decide) (sn_zr_pR (by decide) (sn_zr_pR (by decide) (sn_zr_pR (by decide) (sn_zr_pI (by decide) (sn_zr_pR (by decide) (sn_zr_pR (by decide) (sn_zr_pR (by decide) (sn_zr_pR (by decide) (sn_zr_pR (by decide) (sn_z_zr _)))))))))))))))) (by decide) (by decide) (Nat.le_of_ble_eq_true rfl) (Nat.le_of_ble_eq_true rfl) (Nat.le_of_ble_eq_true rfl) dX9_init_118 (fun H C hw => ?_)
    refine sn_putF C hni hw ff_RX9_55 rfl rfl rfl rfl dX9_init_120 (fun H locs hw => ?_)
    refine lv_aload_n hx hb dX9_init_123 rfl (lv_at hl 0 rfl) ?_
    refine lv_bipush (v := 6) hx hb dX9_init_124 (by decide) ?_
    refine sn_newarr (t := 0) (N := 6) (kd := 0) (ty := .int) (lay3 := sn_yl_72) (nn := 15) C hE hw rfl rfl (by decide) (by omega) rfl rfl (fun K h => by cases h) ka_int (sn_cI (sn_zr_pR (by decide) (sn_zr_pR (by decide) (sn_zr_pR (by decide) (sn_zr_pR (by decide) (sn_zr_pR (by decide) (sn_zr_pR (by decide) (sn_zr_pR (by decide) (sn_zr_pR (by decide) (sn_zr_pR (by decide) (sn_zr_pI (by decide) (sn_zr_pR (by decide) (sn_zr_pR (by decide) (sn_zr_pR (by decide) (sn_zr_pR (by decide) (sn_zr_pR (by decide) (sn_z_zr _))))))))))))))))) (by decide) (by decide) (Nat.le_of_ble_eq_true rfl) (Nat.le_of_ble_eq_true rfl) (Nat.le_of_ble_eq_true rfl) dX9_init_126 (fun H C hw => ?_)
    refine sn_putF C hni hw ff_RX9_58 rfl rfl rfl rfl dX9_init_128 (fun H locs hw => ?_)
    refine lv_aload_n hx hb dX9_init_131 rfl (lv_at hl 0 rfl) ?_
    refine lv_bipush (v := 30) hx hb dX9_init_132 (by decide) ?_
    refine sn_newarr (t := 0) (N := 30) (kd := 0) (ty := .int) (lay3 := sn_yl_73) (nn := 16) C hE hw rfl rfl (by decide) (by omega) rfl rfl (fun K h => by cases h) ka_int (sn_cI (sn_zr_pR (by decide) (sn_zr_pR (by decide) (sn_zr_pR (by decide) (sn_zr_pR (by decide) (sn_zr_pR (by decide) (sn_zr_pR (by decide) (sn_zr_pR (by decide) (sn_zr_pR (by decide) (sn_zr_pR (by decide) (sn_zr_pR (by decide) (sn_zr_pI (by decide) (sn_zr_pR (by decide) (sn_zr_pR (by decide) (sn_zr_pR (by decide) (sn_zr_pR (by decide) (sn_zr_pR (by decide) (sn_z_zr _)))))))))))))))))) (by decide) (by decide) (Nat.le_of_ble_eq_true rfl) (Nat.le_of_ble_eq_true rfl) (Nat.le_of_ble_eq_true rfl) dX9_init_134 (fun H C hw => ?_)
    refine sn_putF C hni hw ff_RX9_61 rfl rfl rfl rfl dX9_init_136 (fun H locs hw => ?_)
    refine lv_aload_n hx hb dX9_init_139 rfl (lv_at hl 0 rfl) ?_
    refine lv_sipush (v := 961) hx hb dX9_init_140 (by decide) ?_
    refine sn_newarr (t := 0) (N := 961) (kd := 0) (ty := .int) (lay3 := sn_yl_74) (nn := 17) C hE hw rfl rfl (by decide) (by omega) rfl rfl (fun K h => by cases h) ka_int (sn_cI (sn_zr_pR (by decide) (sn_zr_pR (by decide) (sn_zr_pR (by decide) (sn_zr_pR (by decide) (sn_zr_pR (by decide) (sn_zr_pR (by decide) (sn_zr_pR (by decide) (sn_zr_pR (by decide) (sn_zr_pR (by decide) (sn_zr_pR (by decide) (sn_zr_pR (by decide) (sn_zr_pI (by decide) (sn_zr_pR (by decide) (sn_zr_pR (by decide) (sn_zr_pR (by decide) (sn_zr_pR (by decide) (sn_zr_pR (by decide) (sn_z_zr _))))))))))))))))))) (by decide) (by decide) (Nat.le_of_ble_eq_true rfl) (Nat.le_of_ble_eq_true rfl) (Nat.le_of_ble_eq_true rfl) dX9_init_143 (fun H C hw => ?_)
    refine sn_putF C hni hw ff_RX9_64 rfl rfl rfl rfl dX9_init_145 (fun H locs hw => ?_)
    refine lv_aload_n hx hb dX9_init_148 rfl (lv_at hl 0 rfl) ?_
    refine lv_sipush (v := 961) hx hb dX9_init_149 (by decide) ?_
    refine sn_newarr (t := 0) (N := 961) (kd := 0) (ty := .int) (lay3 := sn_yl_75) (nn := 18) C hE hw rfl rfl (by decide) (by omega) rfl rfl (fun K h => by cases h) ka_int (sn_cI (sn_zr_pR (by decide) (sn_zr_pR (by decide) (sn_zr_pR (by decide) (sn_zr_pR (by decide) (sn_zr_pR (by decide) (sn_zr_pR (by decide) (sn_zr_pR (by decide) (sn_zr_pR (by decide) (sn_zr_pR (by decide) (sn_zr_pR (by decide) (sn_zr_pR (by decide) (sn_zr_pR (by decide) (sn_zr_pI (by decide) (sn_zr_pR (by decide) (sn_zr_pR (by decide) (sn_zr_pR (by decide) (sn_zr_pR (by decide) (sn_zr_pR (by decide) (sn_z_zr _)))))))))))))))))))) (by decide) (by decide) (Nat.le_of_ble_eq_true rfl) (Nat.le_of_ble_eq_true rfl) (Nat.le_of_ble_eq_true rfl) dX9_init_152 (fun H C hw => ?_)
    refine sn_putF C hni hw ff_RX9_67 rfl rfl rfl rfl dX9_init_154 (fun H locs hw => ?_)
    refine lv_aload_n hx hb dX9_init_157 rfl (lv_at hl 0 rfl) ?_
    refine lv_sipush (v := 270) hx hb dX9_init_158 (by decide) ?_
    refine sn_newarr (t := 0) (N := 270) (kd := 0) (ty := .int) (lay3 := sn_yl_76) (nn := 19) C hE hw rfl rfl (by decide) (by omega) rfl rfl (fun K h => by cases h) ka_int (sn_cI (sn_zr_pR (by decide) (sn_zr_pR (by decide) (sn_zr_pR (by decide) (sn_zr_pR (by decide) (sn_zr_pR (by decide) (sn_zr_pR (by decide) (sn_zr_pR (by decide) (sn_zr_pR (by decide) (sn_zr_pR (by decide) (sn_zr_pR (by decide) (sn_zr_pR (by decide) (sn_zr_pR (by decide) (sn_zr_pR (by decide) (sn_zr_pI (by decide) (sn_zr_pR (by decide) (sn_zr_pR (by decide) (sn_zr_pR (by decide) (sn_zr_pR (by decide) (sn_zr_pR (by decide) (sn_z_zr _))))))))))))))))))))) (by decide) (by decide) (Nat.le_of_ble_eq_true rfl) (Nat.le_of_ble_eq_true rfl) (Nat.le_of_ble_eq_true rfl) dX9_init_161 (fun H C hw => ?_)
    refine sn_putF C hni hw ff_RX9_70 rfl rfl rfl rfl dX9_init_163 (fun H locs hw => ?_)
    refine lv_aload_n hx hb dX9_init_166 rfl (lv_at hl 0 rfl) ?_
    refine lv_sipush (v := 1620) hx hb dX9_init_167 (by decide) ?_
    refine sn_newarr (t := 0) (N := 1620) (kd := 0) (ty := .int) (lay3 := sn_yl_77) (nn := 20) C hE hw rfl rfl (by decide) (by omega) rfl rfl (fun K h => by cases h) ka_int (sn_cI (sn_zr_pR (by decide) (sn_zr_pR (by decide) (sn_zr_pR (by decide) (sn_zr_pR (by decide) (sn_zr_pR (by decide) (sn_zr_pR (by decide) (sn_zr_pR (by decide) (sn_zr_pR (by decide) (sn_zr_pR (by decide) (sn_zr_pR (by decide) (sn_zr_pR (by decide) (sn_zr_pR (by decide) (sn_zr_pR (by decide) (sn_zr_pR (by decide) (sn_zr_pI (by decide) (sn_zr_pR (by decide) (sn_zr_pR (by decide) (sn_zr_pR (by decide) (sn_zr_pR (by decide) (sn_zr_pR (by decide) (sn_z_zr _)))))))))))))))))))))) (by decide) (by decide) (Nat.le_of_ble_eq_true rfl) (Nat.le_of_ble_eq_true rfl) (Nat.le_of_ble_eq_true rfl) dX9_init_170 (fun H C hw => ?_)
    refine sn_putF C hni hw ff_RX9_73 rfl rfl rfl rfl dX9_init_172 (fun H locs hw => ?_)
    refine lv_aload_n hx hb dX9_init_175 rfl (lv_at hl 0 rfl) ?_
    refine lv_iconst (v := 4) hx hb dX9_init_176 rfl ?_
    refine sn_newarr (t := 0) (N := 4) (kd := 0) (ty := .int) (lay3 := sn_yl_78) (nn := 21) C hE hw rfl rfl (by decide) (by omega) rfl rfl (fun K h => by cases h) ka_int (sn_cI (sn_zr_pR (by decide) (sn_zr_pR (by decide) (sn_zr_pR (by decide) (sn_zr_pR (by decide) (sn_zr_pR (by decide) (sn_zr_pR (by decide) (sn_zr_pR (by decide) (sn_zr_pR (by decide) (sn_zr_pR (by decide) (sn_zr_pR (by decide) (sn_zr_pR (by decide) (sn_zr_pR (by decide) (sn_zr_pR (by decide) (sn_zr_pR (by decide) (sn_zr_pR (by decide) (sn_zr_pI (by decide) (sn_zr_pR (by decide) (sn_zr_pR (by decide) (sn_zr_pR (by decide) (sn_zr_pR (by decide) (sn_zr_pR (by decide) (sn_z_zr _))))))))))))))))))))))) (by decide) (by decide) (Nat.le_of_ble_eq_true rfl) (Nat.le_of_ble_eq_true rfl) (Nat.le_of_ble_eq_true rfl) dX9_init_177 (fun H C hw => ?_)
    refine lv_dup hx hb dX9_init_179 rfl ?_
    refine lv_iconst (v := 0) hx hb dX9_init_180 rfl ?_
    refine lv_iconst (v := (-1)) hx hb dX9_init_181 rfl ?_
    refine sn_iast C hw rfl (by decide) dX9_init_182 (fun H locs hw => ?_)
    refine lv_dup hx hb dX9_init_183 rfl ?_
    refine lv_iconst (v := 1) hx hb dX9_init_184 rfl ?_
    refine lv_iconst (v := (-1)) hx hb dX9_init_185 rfl ?_
    refine sn_iast C hw rfl (by decide) dX9_init_186 (fun H locs hw => ?_)
    refine lv_dup hx hb dX9_init_187 rfl ?_
    refine lv_iconst (v := 2) hx hb dX9_init_188 rfl ?_
    refine lv_iconst (v := (-1)) hx hb dX9_init_189 rfl ?_
    refine sn_iast C hw rfl (by decide) dX9_init_190 (fun H locs hw => ?_)
    refine lv_dup hx hb dX9_init_191 rfl ?_
    refine lv_iconst (v := 3) hx hb dX9_init_192 rfl ?_
    refine lv_iconst (v := (-1)) hx hb dX9_init_193 rfl ?_
    refine sn_iast C hw rfl (by decide) dX9_init_194 (fun H locs hw => ?_)
    refine sn_putF C hni hw ff_RX9_76 rfl rfl rfl rfl dX9_init_195 (fun H locs hw => ?_)
    refine lv_aload_n hx hb dX9_init_198 rfl (lv_at hl 0 rfl) ?_
    refine lv_iconst (v := 4) hx hb dX9_init_199 rfl ?_
    refine sn_newarr (t := 0) (N := 4) (kd := 0) (ty := .int) (lay3 := sn_yl_79) (nn := 22) C hE hw rfl rfl (by decide) (by omega) rfl rfl (fun K h => by cases h) ka_int (sn_cI (sn_zr_pR (by decide) (sn_zr_pI (by decide) (sn_zr_pI (by decide) (sn_zr_pI (by decide) (sn_zr_pI (by decide) (sn_zr_pR (by decide) (sn_zr_pR (by decide) (sn_zr_pR (by decide) (sn_zr_pR (by decide) (sn_zr_pR (by decide) (sn_zr_pR (by decide) (sn_zr_pR (by decide) (sn_zr_pR (by decide) (sn_zr_pR (by decide) (sn_zr_pR (by decide) (sn_zr_pR (by decide) (sn_zr_pR (by decide) (sn_zr_pR (by decide) (sn_zr_pR (by decide) (sn_zr_pR (by decide) (sn_zr_pI (by decide) (sn_zr_pR (by decide) (sn_zr_pR (by decide) (sn_zr_pR (by decide) (sn_zr_pR (by decide) (sn_zr_pR (by decide) (sn_z_zr _)))))))))))))))))))))))))))) (by decide) (by decide) (Nat.le_of_ble_eq_true rfl) (Nat.le_of_ble_eq_true rfl) (Nat.le_of_ble_eq_true rfl) dX9_init_200 (fun H C hw => ?_)
    refine sn_putF C hni hw ff_RX9_79 rfl rfl rfl rfl dX9_init_202 (fun H locs hw => ?_)
    refine lv_aload_n hx hb dX9_init_205 rfl (lv_at hl 0 rfl) ?_
    refine lv_sipush (v := 240) hx hb dX9_init_206 (by decide) ?_
    refine sn_newarr (t := 3) (N := 240) (kd := 1) (ty := .long) (lay3 := sn_yl_80) (nn := 23) C hE hw rfl rfl (by decide) (by omega) rfl rfl (fun K h => by cases h) ka_long (sn_cL (sn_zr_pR (by decide) (sn_zr_pR (by decide) (sn_zr_pI (by decide) (sn_zr_pI (by decide) (sn_zr_pI (by decide) (sn_zr_pI (by decide) (sn_zr_pR (by decide) (sn_zr_pR (by decide) (sn_zr_pR (by decide) (sn_zr_pR (by decide) (sn_zr_pR (by decide) (sn_zr_pR (by decide) (sn_zr_pR (by decide) (sn_zr_pR (by decide) (sn_zr_pR (by decide) (sn_zr_pR (by decide) (sn_zr_pR (by decide) (sn_zr_pR (by decide) (sn_zr_pR (by decide) (sn_zr_pR (by decide) (sn_zr_pR (by decide) (sn_zr_pI (by decide) (sn_zr_pR (by decide) (sn_zr_pR (by decide) (sn_zr_pR (by decide) (sn_zr_pR (by decide) (sn_zr_pR (by decide) (sn_z_zr _))))))))))))))))))))))))))))) (by decide) (by decide) (Nat.le_of_ble_eq_true rfl) (Nat.le_of_ble_eq_true rfl) (Nat.le_of_ble_eq_true rfl) dX9_init_209 (fun H C hw => ?_)
    refine sn_putF C hni hw ff_RX9_82 rfl rfl rfl rfl dX9_init_211 (fun H locs hw => ?_)
    refine lv_aload_n hx hb dX9_init_214 rfl (lv_at hl 0 rfl) ?_
    refine lv_bipush (v := 60) hx hb dX9_init_215 (by decide) ?_
    refine sn_newarr (t := 3) (N := 60) (kd := 1) (ty := .long) (lay3 := sn_yl_57) (nn := 24) C hE hw rfl rfl (by decide) (by omega) rfl rfl (fun K h => by cases h) ka_long (sn_cL (sn_zr_pR (by decide) (sn_zr_pR (by decide) (sn_zr_pR (by decide) (sn_zr_pI (by decide) (sn_zr_pI (by decide) (sn_zr_pI (by decide) (sn_zr_pI (by decide) (sn_zr_pR (by decide) (sn_zr_pR (by decide) (sn_zr_pR (by decide) (sn_zr_pR (by decide) (sn_zr_pR (by decide) (sn_zr_pR (by decide) (sn_zr_pR (by decide) (sn_zr_pR (by decide) (sn_zr_pR (by decide) (sn_zr_pR (by decide) (sn_zr_pR (by decide) (sn_zr_pR (by decide) (sn_zr_pR (by decide) (sn_zr_pR (by decide) (sn_zr_pR (by decide) (sn_zr_pI (by decide) (sn_zr_pR (by decide) (sn_zr_pR (by decide) (sn_zr_pR (by decide) (sn_zr_pR (by decide) (sn_zr_pR (by decide) (sn_z_zr _)))))))))))))))))))))))))))))) (by decide) (by decide) (Nat.le_of_ble_eq_true rfl) (Nat.le_of_ble_eq_true rfl) (Nat.le_of_ble_eq_true rfl) dX9_init_217 (fun H C hw => ?_)
    refine sn_putF C hni hw ff_RX9_86 rfl rfl rfl rfl dX9_init_219 (fun H locs hw => ?_)
    exact sn_vretA C hw rfl rfl dX9_init_222)
end
