section
variable {p : Program} {l : Launch} {e : Env} {s : State} {m : MethodId} {args : Array Value} {below : List Frame} {meth : Method} {c : Code} {Q : State → Prop} {D : va_G} {ct : Nat → ClassId} {ad : Nat → Nat}
-- X9_which
abbrev rmX9_which : Room := { frames := 5, cells := 0, slots := 0, locals := 120 }
def fX9_which (σ : sn_S) (x1 : Int32) : Option (Int32 × sn_S) :=
  ((fX9_layPairs σ x1).bind fun t_1 => (if 0 ≤ t_1.1 then
  (some ((sn_I t_1.2 0 36), t_1.2))
  else
  (some (t_1.1, t_1.2))))
theorem wX9_which_in (C : sn_C p s m args meth c RX9 cX9_which 3 (some .int) D ct ad layM) {σ : sn_S} {x1 : Int32}  {o : (Int32 × sn_S)} (hf : fX9_which σ x1 = some o) (kr : sn_Kr p l e rmX9_which s m args below meth c Q D ct ad layM cX9_which .ireturn (true) o.2 [.int o.1]) : sn_At p l e rmX9_which s m args below meth c Q D ct ad layM 3 σ 0 [(0, .ref (ad 0)), (1, .int x1)] [] := by
  intro H locs ls hw hl
  have hx := C.1
  have hb := C.2.1
  unfold fX9_which at hf
  refine lv_aload_n hx hb dX9_which_0 rfl (lv_at hl 0 rfl) ?_
  refine lv_iload_n hx hb dX9_which_1 rfl (lv_at hl 1 rfl) ?_
  obtain ⟨t_1, h_2, hf⟩ := sn_bd hf
  refine sn_callVi (rest := []) C hw (ctX9_layPairs l  h_2) kl_RX9_375 layM_0 rfl rfl rfl rfl (Nat.le_of_ble_eq_true rfl) dX9_which_2 hl.1 (fun H locs hw => ?_)
  refine lv_istore_n (lv' := [(2, .int t_1.1), (0, .ref (ad 0)), (1, .int x1)]) hx hb dX9_which_5 rfl hl (by decide) rfl (fun ls hl => ?_)
  refine lv_iload_n hx hb dX9_which_6 rfl (lv_at hl 0 rfl) ?_
  refine lv_if_ge (tgt := 14) hx hb dX9_which_7 (by decide) (fun c_3 => ?_) (fun c_3 => ?_)
  · have hf := sn_if c_3 hf
    refine lv_aload_n hx hb dX9_which_14 rfl (lv_at hl 1 rfl) ?_
    refine sn_getI C hw fd_RX9_372 layM_0 rfl dX9_which_15 ?_
    cases hf
    exact kr _ _ _ _ hw rfl dX9_which_18
  · have hf := sn_el c_3 hf
    refine lv_iload_n hx hb dX9_which_10 rfl (lv_at hl 0 rfl) ?_
    refine lv_goto (tgt := 18) hx hb dX9_which_11 (by decide) ?_
    cases hf
    exact kr _ _ _ _ hw rfl dX9_which_18
theorem ctX9_which (l : Launch) {σ : sn_S} {x1 : Int32}  {o : (Int32 × sn_S)} (hf : fX9_which σ x1 = some o) : sn_M l yX9_which cX9_which 3 (some .int) rmX9_which layM (fun ad => [.ref (ad 0), .int x1]) σ (some (fun _ => .int o.1)) o.2 :=
  sn_met (by decide) (fun _ => Nat.le_of_ble_eq_true rfl) (fun p e s m args below meth c ls D ct ad C hw hl => wX9_which_in C  hf (fun H locs ls pc hw ok hd => sn_iret C hw hd) _ _ _ hw hl)
-- X9_when
abbrev rmX9_when : Room := { frames := 5, cells := 0, slots := 0, locals := 120 }
def BX9_when_47 (σ : sn_S) (x3 : Int32) : Option ((Int32 × sn_S)) :=
  (some (x3, σ))
def BX9_when_17 (σ : sn_S) (x3 : Int32) (x4 : Int32) : Option ((Int32 × Int32) ⊕ (Int32)) :=
  (if (sn_I σ 0 36) ≤ x4 then
  (some (.inr (x3)))
  else
  (sn_gd (sn_in x4 270) (sn_lt (x3 ||| ((1 : Int32) <<< (((sn_I σ 19 x4.toNatClampNeg) / (10 : Int32)) &&& 31))) fun y_3 => (sn_lt (x4 + 1) fun y_5 => (some (.inl (y_3, y_5)))))))
def LX9_when_17 (σ : sn_S) (s : Int32 × Int32) : Option ((Int32 × Int32) ⊕ (Int32)) := BX9_when_17 σ s.1 s.2
def fX9_when (σ : sn_S) (x1 : Int32) : Option (Int32 × sn_S) :=
  ((fX9_layPairs σ x1).bind fun t_1 => (if 0 ≤ t_1.1 then
  ((sn_it (LX9_when_17 t_1.2) 5000 ((0 : Int32), (0 : Int32))).bind fun t_4 => (BX9_when_47 t_1.2 t_4))
  else
  (some (t_1.1, t_1.2))))
theorem wX9_when_47 (C : sn_C p s m args meth c RX9 cX9_when 5 (some .int) D ct ad layM) {σ : sn_S} {x3 : Int32}  {o : (Int32 × sn_S)} (hf : BX9_when_47 σ x3 = some o) (kr : sn_Kr p l e rmX9_when s m args below meth c Q D ct ad layM cX9_when .ireturn (true) o.2 [.int o.1]) : sn_At p l e rmX9_when s m args below meth c Q D ct ad layM 5 σ 47 [(3, .int x3)] [] := by
  intro H locs ls hw hl
  have hx := C.1
  have hb := C.2.1
  unfold BX9_when_47 at hf
  refine lv_iload_n hx hb dX9_when_47 rfl (lv_at hl 0 rfl) ?_
  cases hf
  exact kr _ _ _ _ hw rfl dX9_when_48
theorem wX9_when_17 (C : sn_C p s m args meth c RX9 cX9_when 5 (some .int) D ct ad layM) {σ : sn_S} {x3 : Int32} {x4 : Int32}  {o : (Int32 × Int32) ⊕ (Int32)} (hf : BX9_when_17 σ x3 x4 = some o) (kc : ∀ v, o = .inl v → sn_At p l e rmX9_when s m args below meth c Q D ct ad layM 5 σ 17 [(0, .ref (ad 0)), (3, .int v.1), (4, .int v.2)] []) (kx : ∀ v, o = .inr v → sn_At p l e rmX9_when s m args below meth c Q D ct ad layM 5 σ 47 [(3, .int v)] []) : sn_At p l e rmX9_when s m args below meth c Q D ct ad layM 5 σ 17 [(0, .ref (ad 0)), (3, .int x3), (4, .int x4)] [] := by
  intro H locs ls hw hl
  have hx := C.1
  have hb := C.2.1
  unfold BX9_when_17 at hf
  refine lv_iload hx hb dX9_when_17 (lv_at hl 2 rfl) ?_
  refine lv_aload_n hx hb dX9_when_19 rfl (lv_at hl 0 rfl) ?_
  refine sn_getI C hw fd_RX9_372 layM_0 rfl dX9_when_20 ?_
  refine lv_icmp_ge (tgt := 47) hx hb dX9_when_23 (by decide) (fun c_1 => ?_) (fun c_1 => ?_)
  · have hf := sn_if c_1 hf
    cases hf
    exact kx _ rfl _ _ _ hw (lv_sub hl [1] rfl)
  · have hf := sn_el c_1 hf
    refine lv_iload_n hx hb dX9_when_26 rfl (lv_at hl 1 rfl) ?_
    refine lv_iconst (v := 1) hx hb dX9_when_27 rfl ?_
    refine lv_aload_n hx hb dX9_when_28 rfl (lv_at hl 0 rfl) ?_
    refine sn_getC (r := 19) C hw fd_RX9_70 layM_0 rfl dX9_when_29 ?_
    refine lv_iload hx hb dX9_when_32 (lv_at hl 2 rfl) ?_
    obtain ⟨g_2, hf⟩ := sn_gdE hf
    refine sn_iald C hw layM_19 g_2 dX9_when_34 ?_
    refine lv_bipush (v := 10) hx hb dX9_when_35 (by decide) ?_
    refine lv_idiv hx hb dX9_when_37 (by decide) ?_
    refine lv_ishl hx hb dX9_when_38 ?_
    refine lv_ior hx hb dX9_when_39 ?_
    obtain ⟨y_3, e_4, hf⟩ := sn_ltE hf
    refine lv_topi (fun y_3_ e_4_ => ?_)
    obtain rfl : y_3 = y_3_ := e_4.trans e_4_.symm
    refine lv_istore_n (lv' := [(3, .int y_3), (0, .ref (ad 0)), (4, .int x4)]) hx hb dX9_when_40 rfl hl (by decide) rfl (fun ls hl => ?_)
    obtain ⟨y_5, e_6, hf⟩ := sn_ltE hf
    refine lv_iinc (v := y_5) (lv' := [(4, .int y_5), (3, .int y_3), (0, .ref (ad 0))]) hx hb dX9_when_41 hl (k := 2) rfl (by rw [e_6]; rfl) (by decide) rfl (fun ls hl => ?_)
    refine lv_goto (tgt := 17) hx hb dX9_when_44 (by decide) ?_
    cases hf
    exact kc _ rfl _ _ _ hw (lv_sub hl [2, 1, 0] rfl)
theorem wX9_when_L17 (C : sn_C p s m args meth c RX9 cX9_when 5 (some .int) D ct ad layM) {σ : sn_S}   {z : Int32 × Int32} {t : Int32} (h : sn_it (LX9_when_17 σ) 5000 z = some t) (kx : ∀ v, t = v → sn_At p l e rmX9_when s m args below meth c Q D ct ad layM 5 σ 47 [(3, .int v)] []) : sn_At p l e rmX9_when s m args below meth c Q D ct ad layM 5 σ 17 [(0, .ref (ad 0)), (3, .int z.1), (4, .int z.2)] [] :=
  sn_loop (f := LX9_when_17 σ) (G := fun z => sn_At p l e rmX9_when s m args below meth c Q D ct ad layM 5 σ 17 [(0, .ref (ad 0)), (3, .int z.1), (4, .int z.2)] []) (E := fun t => (∀ v, t = v → sn_At p l e rmX9_when s m args below meth c Q D ct ad layM 5 σ 47 [(3, .int v)] []) ∧ True) (fun z o hf k1 k2 => wX9_when_17 C  hf (fun v e => k1 v e) (fun v e => (k2 _ e).1 v rfl)) 5000 z t h ⟨kx, trivial⟩
theorem wX9_when_in (C : sn_C p s m args meth c RX9 cX9_when 5 (some .int) D ct ad layM) {σ : sn_S} {x1 : Int32}  {o : (Int32 × sn_S)} (hf : fX9_when σ x1 = some o) (kr : sn_Kr p l e rmX9_when s m args below meth c Q D ct ad layM cX9_when .ireturn (true) o.2 [.int o.1]) : sn_At p l e rmX9_when s m args below meth c Q D ct ad layM 5 σ 0 [(0, .ref (ad 0)), (1, .int x1)] [] := by
  intro H locs ls hw hl
  have hx := C.1
  have hb := C.2.1
  unfold fX9_when at hf
  refine lv_aload_n hx hb dX9_when_0 rfl (lv_at hl 0 rfl) ?_
  refine lv_iload_n hx hb dX9_when_1 rfl (lv_at hl 1 rfl) ?_
  obtain ⟨t_1, h_2, hf⟩ := sn_bd hf
  refine sn_callVi (rest := []) C hw (ctX9_layPairs l  h_2) kl_RX9_375 layM_0 rfl rfl rfl rfl (Nat.le_of_ble_eq_true rfl) dX9_when_2 hl.1 (fun H locs hw => ?_)
  refine lv_istore_n (lv' := [(2, .int t_1.1), (0, .ref (ad 0)), (1, .int x1)]) hx hb dX9_when_5 rfl hl (by decide) rfl (fun ls hl => ?_)
  refine lv_iload_n hx hb dX9_when_6 rfl (lv_at hl 0 rfl) ?_
  refine lv_if_ge (tgt := 12) hx hb dX9_when_7 (by decide) (fun c_3 => ?_) (fun c_3 => ?_)
  · have hf := sn_if c_3 hf
    refine lv_iconst (v := 0) hx hb dX9_when_12 rfl ?_
    refine lv_istore_n (lv' := [(3, .int (0 : Int32)), (2, .int t_1.1), (0, .ref (ad 0)), (1, .int x1)]) hx hb dX9_when_13 rfl hl (by decide) rfl (fun ls hl => ?_)
    refine lv_iconst (v := 0) hx hb dX9_when_14 rfl ?_
    refine lv_istore (lv' := [(4, .int (0 : Int32)), (3, .int (0 : Int32)), (2, .int t_1.1), (0, .ref (ad 0)), (1, .int x1)]) hx hb dX9_when_15 hl (by decide) rfl (fun ls hl => ?_)
    obtain ⟨t_4, h_5, hf⟩ := sn_bd hf
    exact wX9_when_L17 C  h_5 (fun v e => by cases e; exact wX9_when_47 C  hf kr) _ _ _ hw (lv_sub hl [3, 1, 0] rfl)
  · have hf := sn_el c_3 hf
    refine lv_iload_n hx hb dX9_when_10 rfl (lv_at hl 0 rfl) ?_
    cases hf
    exact kr _ _ _ _ hw rfl dX9_when_11
theorem ctX9_when (l : Launch) {σ : sn_S} {x1 : Int32}  {o : (Int32 × sn_S)} (hf : fX9_when σ x1 = some o) : sn_M l yX9_when cX9_when 5 (some .int) rmX9_when layM (fun ad => [.ref (ad 0), .int x1]) σ (some (fun _ => .int o.1)) o.2 :=
  sn_met (by decide) (fun _ => Nat.le_of_ble_eq_true rfl) (fun p e s m args below meth c ls D ct ad C hw hl => wX9_when_in C  hf (fun H locs ls pc hw ok hd => sn_iret C hw hd) _ _ _ hw hl)
-- X9_gust
abbrev rmX9_gust : Room := { frames := 5, cells := 0, slots := 0, locals := 120 }
def fX9_gust (σ : sn_S) (x1 : Int32) : Option (Int32 × sn_S) :=
  ((fX9_layPairs σ x1).bind fun t_1 => (if 0 ≤ t_1.1 then
  (if (sn_I t_1.2 0 36) = 0 then
  (some ((-1 : Int32), t_1.2))
  else
  (sn_gd (sn_in (0 : Int32) 270) (some ((sn_I t_1.2 19 (0 : Int32).toNatClampNeg), t_1.2))))
  else
  (some (t_1.1, t_1.2))))
theorem wX9_gust_in (C : sn_C p s m args meth c RX9 cX9_gust 3 (some .int) D ct ad layM) {σ : sn_S} {x1 : Int32}  {o : (Int32 × sn_S)} (hf : fX9_gust σ x1 = some o) (kr : sn_Kr p l e rmX9_gust s m args below meth c Q D ct ad layM cX9_gust .ireturn (true) o.2 [.int o.1]) : sn_At p l e rmX9_gust s m args below meth c Q D ct ad layM 3 σ 0 [(0, .ref (ad 0)), (1, .int x1)] [] := by
  intro H locs ls hw hl
  have hx := C.1
  have hb := C.2.1
  unfold fX9_gust at hf
  refine lv_aload_n hx hb dX9_gust_0 rfl (lv_at hl 0 rfl) ?_
  refine lv_iload_n hx hb dX9_gust_1 rfl (lv_at hl 1 rfl) ?_
  obtain ⟨t_1, h_2, hf⟩ := sn_bd hf
  refine sn_callVi (rest := []) C hw (ctX9_layPairs l  h_2) kl_RX9_375 layM_0 rfl rfl rfl rfl (Nat.le_of_ble_eq_true rfl) dX9_gust_2 hl.1 (fun H locs hw => ?_)
  refine lv_istore_n (lv' := [(2, .int t_1.1), (0, .ref (ad 0)), (1, .int x1)]) hx hb dX9_gust_5 rfl hl (by decide) rfl (fun ls hl => ?_)
  refine lv_iload_n hx hb dX9_gust_6 rfl (lv_at hl 0 rfl) ?_
  refine lv_if_ge (tgt := 12) hx hb dX9_gust_7 (by decide) (fun c_3 => ?_) (fun c_3 => ?_)
  · have hf := sn_if c_3 hf
    refine lv_aload_n hx hb dX9_gust_12 rfl (lv_at hl 1 rfl) ?_
    refine sn_getI C hw fd_RX9_372 layM_0 rfl dX9_gust_13 ?_
    refine lv_if_ne (tgt := 23) hx hb dX9_gust_16 (by decide) (fun c_4 => ?_) (fun c_4 => ?_)
    · have hf := sn_el c_4 hf
      refine lv_aload_n hx hb dX9_gust_23 rfl (lv_at hl 1 rfl) ?_
      refine sn_getC (r := 19) C hw fd_RX9_70 layM_0 rfl dX9_gust_24 ?_
      refine lv_iconst (v := 0) hx hb dX9_gust_27 rfl ?_
      obtain ⟨g_5, hf⟩ := sn_gdE hf
      refine sn_iald C hw layM_19 g_5 dX9_gust_28 ?_
      cases hf
      exact kr _ _ _ _ hw rfl dX9_gust_29
    · have hf := sn_if c_4 hf
      refine lv_iconst (v := (-1)) hx hb dX9_gust_19 rfl ?_
      refine lv_goto (tgt := 29) hx hb dX9_gust_20 (by decide) ?_
      cases hf
      exact kr _ _ _ _ hw rfl dX9_gust_29
  · have hf := sn_el c_3 hf
    refine lv_iload_n hx hb dX9_gust_10 rfl (lv_at hl 0 rfl) ?_
    cases hf
    exact kr _ _ _ _ hw rfl dX9_gust_11
theorem ctX9_gust (l : Launch) {σ : sn_S} {x1 : Int32}  {o : (Int32 × sn_S)} (hf : fX9_gust σ x1 = some o) : sn_M l yX9_gust cX9_gust 3 (some .int) rmX9_gust layM (fun ad => [.ref (ad 0), .int x1]) σ (some (fun _ => .int o.1)) o.2 :=
  sn_met (by decide) (fun _ => Nat.le_of_ble_eq_true rfl) (fun p e s m args below meth c ls D ct ad C hw hl => wX9_gust_in C  hf (fun H locs ls pc hw ok hd => sn_iret C hw hd) _ _ _ hw hl)
-- X9_askOf
abbrev rmX9_askOf : Room := { frames := 1, cells := 0, slots := 0, locals := 32 }
def BX9_askOf_119 (σ : sn_S) (x1 : Int32) : Option ((Int32 × sn_S)) :=
  (some (x1, σ))
def BX9_askOf_113 (σ : sn_S) (x1 : Int32) (x2 : Int32) : Option ((sn_S × Int32 × Int32) ⊕ (sn_S × Int32)) :=
  (sn_lt (x2 + 1) fun y_1 => (some (.inl (σ, x1, y_1))))
def BX9_askOf_95 (σ : sn_S) (x1 : Int32) (x2 : Int32) (x3 : Int32) : Option ((sn_S × Int32 × Int32) ⊕ (sn_S × Int32)) :=
  (if x3 < (sn_I σ 0 37) then
  (sn_lt (sn_pI σ 0 37 x3) fun σ_2 => (BX9_askOf_113 σ_2 x2 x2))
  else
  (BX9_askOf_113 σ x1 x2))
def BX9_askOf_82 (σ : sn_S) (x1 : Int32) (x2 : Int32) (x3 : Int32) (x4 : Int32) (x5 : Int32) : Option ((Int32 × Int32) ⊕ (Int32)) :=
  (sn_lt (if x3 < x5 then x5 else x3) fun y_1 => (sn_lt (x4 + 1) fun y_3 => (some (.inl (y_1, y_3)))))
def BX9_askOf_73 (σ : sn_S) (x1 : Int32) (x2 : Int32) (x3 : Int32) (x4 : Int32) (x5 : Int32) (x6 : Int32) (t0 : Int32) (t1 : Int32) : Option ((Int32 × Int32) ⊕ (Int32)) :=
  (sn_lt (t0 + t1) fun y_1 => (sn_lt (x6 + 1) fun y_3 => (some (.inl (y_1, y_3)))))
def BX9_askOf_40 (σ : sn_S) (x1 : Int32) (x2 : Int32) (x3 : Int32) (x4 : Int32) (x5 : Int32) (x6 : Int32) : Option ((Int32 × Int32) ⊕ (Int32)) :=
  (if (sn_I σ 0 36) ≤ x6 then
  (some (.inr (x5)))
  else
  (sn_gd (sn_in (((6 : Int32) * x6) + x2) 1620) (if (sn_I σ 20 (((6 : Int32) * x6) + x2).toNatClampNeg) = x4 then
  (BX9_askOf_73 σ x1 x2 x3 x4 x5 x6 x5 (1 : Int32))
  else
  (BX9_askOf_73 σ x1 x2 x3 x4 x5 x6 x5 (0 : Int32)))))
def LX9_askOf_40 (σ : sn_S) (x1 : Int32) (x2 : Int32) (x3 : Int32) (x4 : Int32) (s : Int32 × Int32) : Option ((Int32 × Int32) ⊕ (Int32)) := BX9_askOf_40 σ x1 x2 x3 x4 s.1 s.2
def BX9_askOf_27 (σ : sn_S) (x1 : Int32) (x2 : Int32) (x3 : Int32) (x4 : Int32) : Option ((Int32 × Int32) ⊕ (Int32)) :=
  (if (30 : Int32) < x4 then
  (some (.inr (x3)))
  else
  ((sn_it (LX9_askOf_40 σ x1 x2 x3 x4) 5000 ((0 : Int32), (0 : Int32))).bind fun t_2 => (BX9_askOf_82 σ x1 x2 x3 x4 t_2)))
def LX9_askOf_27 (σ : sn_S) (x1 : Int32) (x2 : Int32) (s : Int32 × Int32) : Option ((Int32 × Int32) ⊕ (Int32)) := BX9_askOf_27 σ x1 x2 s.1 s.2
def BX9_askOf_12 (σ : sn_S) (x1 : Int32) (x2 : Int32) : Option ((sn_S × Int32 × Int32) ⊕ (sn_S × Int32)) :=
  (sn_gd (sn_in (5 : Int32) 119) (if (sn_I σ 1 (5 : Int32).toNatClampNeg) ≤ x2 then
  (some (.inr (σ, x1)))
  else
  ((sn_it (LX9_askOf_27 σ x1 x2) 5000 ((0 : Int32), (0 : Int32))).bind fun t_3 => (BX9_askOf_95 σ x1 x2 t_3))))
def LX9_askOf_12  (s : sn_S × Int32 × Int32) : Option ((sn_S × Int32 × Int32) ⊕ (sn_S × Int32)) := BX9_askOf_12 s.1 s.2.1 s.2.2
def fX9_askOf (σ : sn_S) : Option (Int32 × sn_S) :=
  (sn_lt (sn_pI σ 0 37 (sn_I σ 0 36)) fun σ_1 => ((sn_it (LX9_askOf_12 ) 5000 (σ_1, (-1 : Int32), (0 : Int32))).bind fun t_3 => (BX9_askOf_119 t_3.1 t_3.2)))
theorem wX9_askOf_119 (C : sn_C p s m args meth c RX9 cX9_askOf 7 (some .int) D ct ad layM) {σ : sn_S} {x1 : Int32}  {o : (Int32 × sn_S)} (hf : BX9_askOf_119 σ x1 = some o) (kr : sn_Kr p l e rmX9_askOf s m args below meth c Q D ct ad layM cX9_askOf .ireturn (true) o.2 [.int o.1]) : sn_At p l e rmX9_askOf s m args below meth c Q D ct ad layM 7 σ 119 [(1, .int x1)] [] := by
  intro H locs ls hw hl
  have hx := C.1
  have hb := C.2.1
  unfold BX9_askOf_119 at hf
  refine lv_iload_n hx hb dX9_askOf_119 rfl (lv_at hl 0 rfl) ?_
  cases hf
  exact kr _ _ _ _ hw rfl dX9_askOf_120
theorem wX9_askOf_113 (C : sn_C p s m args meth c RX9 cX9_askOf 7 (some .int) D ct ad layM) {σ : sn_S} {x1 : Int32} {x2 : Int32}  {o : (sn_S × Int32 × Int32) ⊕ (sn_S × Int32)} (hf : BX9_askOf_113 σ x1 x2 = some o) (kc : ∀ v, o = .inl v → sn_At p l e rmX9_askOf s m args below meth c Q D ct ad layM 7 v.1 12 [(0, .ref (ad 0)), (1, .int v.2.1), (2, .int v.2.2)] []) (kx : ∀ v, o = .inr v → sn_At p l e rmX9_askOf s m args below meth c Q D ct ad layM 7 v.1 119 [(1, .int v.2)] []) : sn_At p l e rmX9_askOf s m args below meth c Q D ct ad layM 7 σ 113 [(0, .ref (ad 0)), (1, .int x1), (2, .int x2)] [] := by
  intro H locs ls hw hl
  have hx := C.1
  have hb := C.2.1
  unfold BX9_askOf_113 at hf
  obtain ⟨y_1, e_2, hf⟩ := sn_ltE hf
  refine lv_iinc (v := y_1) (lv' := [(2, .int y_1), (0, .ref (ad 0)), (1, .int x1)]) hx hb dX9_askOf_113 hl (k := 2) rfl (by rw [e_2]; rfl) (by decide) rfl (fun ls hl => ?_)
  refine lv_goto (tgt := 12) hx hb dX9_askOf_116 (by decide) ?_
  cases hf
  exact kc _ rfl _ _ _ hw (lv_sub hl [1, 2, 0] rfl)
theorem wX9_askOf_95 (C : sn_C p s m args meth c RX9 cX9_askOf 7 (some .int) D ct ad layM) {σ : sn_S} {x1 : Int32} {x2 : Int32} {x3 : Int32}  {o : (sn_S × Int32 × Int32) ⊕ (sn_S × Int32)} (hf : BX9_askOf_95 σ x1 x2 x3 = some o) (kc : ∀ v, o = .inl v → sn_At p l e rmX9_askOf s m args below meth c Q D ct ad layM 7 v.1 12 [(0, .ref (ad 0)), (1, .int v.2.1), (2, .int v.2.2)] []) (kx : ∀ v, o = .inr v → sn_At p l e rmX9_askOf s m args below meth c Q D ct ad layM 7 v.1 119 [(1, .int v.2)] []) : sn_At p l e rmX9_askOf s m args below meth c Q D ct ad layM 7 σ 95 [(0, .ref (ad 0)), (1, .int x1), (2, .int x2), (3, .int x3)] [] := by
  intro H locs ls hw hl
  have hx := C.1
  have hb := C.2.1
  unfold BX9_askOf_95 at hf
  refine lv_iload_n hx hb dX9_askOf_95 rfl (lv_at hl 3 rfl) ?_
  refine lv_aload_n hx hb dX9_askOf_96 rfl (lv_at hl 0 rfl) ?_
  refine sn_getI C hw fd_RX9_378 layM_0 rfl dX9_askOf_97 ?_
  refine lv_icmp_lt (tgt := 106) hx hb dX9_askOf_100 (by decide) (fun c_1 => ?_) (fun c_1 => ?_)
  · have hf := sn_if c_1 hf
    refine lv_aload_n hx hb dX9_askOf_106 rfl (lv_at hl 0 rfl) ?_
    refine lv_iload_n hx hb dX9_askOf_107 rfl (lv_at hl 3 rfl) ?_
    refine sn_putI C hw fp_RX9_378 layM_0 rfl dX9_askOf_108 (fun H locs hw => ?_)
    obtain ⟨σ_2, e_3, hf⟩ := sn_ltE hf
    rw [← e_3] at hw
    refine lv_iload_n hx hb dX9_askOf_111 rfl (lv_at hl 2 rfl) ?_
    refine lv_istore_n (lv' := [(1, .int x2), (0, .ref (ad 0)), (2, .int x2), (3, .int x3)]) hx hb dX9_askOf_112 rfl hl (by decide) rfl (fun ls hl => ?_)
    exact wX9_askOf_113 C  hf kc kx _ _ _ hw (lv_sub hl [1, 0, 2] rfl)
  · have hf := sn_el c_1 hf
    refine lv_goto (tgt := 113) hx hb dX9_askOf_103 (by decide) ?_
    exact wX9_askOf_113 C  hf kc kx _ _ _ hw (lv_sub hl [0, 1, 2] rfl)
theorem wX9_askOf_82 (C : sn_C p s m args meth c RX9 cX9_askOf 7 (some .int) D ct ad layM) {σ : sn_S} {x1 : Int32} {x2 : Int32} {x3 : Int32} {x4 : Int32} {x5 : Int32}  {o : (Int32 × Int32) ⊕ (Int32)} (hf : BX9_askOf_82 σ x1 x2 x3 x4 x5 = some o) (kc : ∀ v, o = .inl v → sn_At p l e rmX9_askOf s m args below meth c Q D ct ad layM 7 σ 27 [(0, .ref (ad 0)), (1, .int x1), (2, .int x2), (3, .int v.1), (4, .int v.2)] []) (kx : ∀ v, o = .inr v → sn_At p l e rmX9_askOf s m args below meth c Q D ct ad layM 7 σ 95 [(0, .ref (ad 0)), (1, .int x1), (2, .int x2), (3, .int v)] []) : sn_At p l e rmX9_askOf s m args below meth c Q D ct ad layM 7 σ 82 [(0, .ref (ad 0)), (1, .int x1), (2, .int x2), (3, .int x3), (4, .int x4), (5, .int x5)] [] := by
  intro H locs ls hw hl
  have hx := C.1
  have hb := C.2.1
  unfold BX9_askOf_82 at hf
  refine lv_iload_n hx hb dX9_askOf_82 rfl (lv_at hl 3 rfl) ?_
  refine lv_iload hx hb dX9_askOf_83 (lv_at hl 5 rfl) ?_
  refine va_mmax hx hb (C.2.2.1.trans hl.1.symm) C.2.2.2.1 (C.2.2.2.2.1 _ km_RX9_293) (C.2.2.2.2.1 _ kst_maxI) (C.2.2.2.2.1 _ ki_Math) (C.2.2.2.2.1 _ kc_maxI) (Nat.le_of_ble_eq_true rfl) (Nat.le_of_ble_eq_true rfl) (Nat.zero_le _) (Nat.zero_le _) dX9_askOf_85 ?_
  obtain ⟨y_1, e_2, hf⟩ := sn_ltE hf
  refine lv_topi (fun y_1_ e_2_ => ?_)
  obtain rfl : y_1 = y_1_ := e_2.trans e_2_.symm
  refine lv_istore_n (lv' := [(3, .int y_1), (0, .ref (ad 0)), (1, .int x1), (2, .int x2), (4, .int x4), (5, .int x5)]) hx hb dX9_askOf_88 rfl hl (by decide) rfl (fun ls hl => ?_)
  obtain ⟨y_3, e_4, hf⟩ := sn_ltE hf
  refine lv_iinc (v := y_3) (lv' := [(4, .int y_3), (3, .int y_1), (0, .ref (ad 0)), (1, .int x1), (2, .int x2), (5, .int x5)]) hx hb dX9_askOf_89 hl (k := 4) rfl (by rw [e_4]; rfl) (by decide) rfl (fun ls hl => ?_)
  refine lv_goto (tgt := 27) hx hb dX9_askOf_92 (by decide) ?_
  cases hf
  exact kc _ rfl _ _ _ hw (lv_sub hl [2, 3, 4, 1, 0] rfl)
theorem wX9_askOf_73 (C : sn_C p s m args meth c RX9 cX9_askOf 7 (some .int) D ct ad layM) {σ : sn_S} {x1 : Int32} {x2 : Int32} {x3 : Int32} {x4 : Int32} {x5 : Int32} {x6 : Int32} {t0 : Int32} {t1 : Int32}  {o : (Int32 × Int32) ⊕ (Int32)} (hf : BX9_askOf_73 σ x1 x2 x3 x4 x5 x6 t0 t1 = some o) (kc : ∀ v, o = .inl v → sn_At p l e rmX9_askOf s m args below meth c Q D ct ad layM 7 σ 40 [(0, .ref (ad 0)), (1, .int x1), (2, .int x2), (3, .int x3), (4, .int x4), (5, .int v.1), (6, .int v.2)] []) (kx : ∀ v, o = .inr v → sn_At p l e rmX9_askOf s m args below meth c Q D ct ad layM 7 σ 82 [(0, .ref (ad 0)), (1, .int x1), (2, .int x2), (3, .int x3), (4, .int x4), (5, .int v)] []) : sn_At p l e rmX9_askOf s m args below meth c Q D ct ad layM 7 σ 73 [(0, .ref (ad 0)), (1, .int x1), (2, .int x2), (3, .int x3), (4, .int x4), (5, .int x5), (6, .int x6)] [.int t1, .int t0] := by
  intro H locs ls hw hl
  have hx := C.1
  have hb := C.2.1
  unfold BX9_askOf_73 at hf
  refine lv_iadd hx hb dX9_askOf_73 ?_
  obtain ⟨y_1, e_2, hf⟩ := sn_ltE hf
  refine lv_topi (fun y_1_ e_2_ => ?_)
  obtain rfl : y_1 = y_1_ := e_2.trans e_2_.symm
  refine lv_istore (lv' := [(5, .int y_1), (0, .ref (ad 0)), (1, .int x1), (2, .int x2), (3, .int x3), (4, .int x4), (6, .int x6)]) hx hb dX9_askOf_74 hl (by decide) rfl (fun ls hl => ?_)
  obtain ⟨y_3, e_4, hf⟩ := sn_ltE hf
  refine lv_iinc (v := y_3) (lv' := [(6, .int y_3), (5, .int y_1), (0, .ref (ad 0)), (1, .int x1), (2, .int x2), (3, .int x3), (4, .int x4)]) hx hb dX9_askOf_76 hl (k := 6) rfl (by rw [e_4]; rfl) (by decide) rfl (fun ls hl => ?_)
  refine lv_goto (tgt := 40) hx hb dX9_askOf_79 (by decide) ?_
  cases hf
  exact kc _ rfl _ _ _ hw (lv_sub hl [2, 3, 4, 5, 6, 1, 0] rfl)
theorem wX9_askOf_40 (C : sn_C p s m args meth c RX9 cX9_askOf 7 (some .int) D ct ad layM) {σ : sn_S} {x1 : Int32} {x2 : Int32} {x3 : Int32} {x4 : Int32} {x5 : Int32} {x6 : Int32}  {o : (Int32 × Int32) ⊕ (Int32)} (hf : BX9_askOf_40 σ x1 x2 x3 x4 x5 x6 = some o) (kc : ∀ v, o = .inl v → sn_At p l e rmX9_askOf s m args below meth c Q D ct ad layM 7 σ 40 [(0, .ref (ad 0)), (1, .int x1), (2, .int x2), (3, .int x3), (4, .int x4), (5, .int v.1), (6, .int v.2)] []) (kx : ∀ v, o = .inr v → sn_At p l e rmX9_askOf s m args below meth c Q D ct ad layM 7 σ 82 [(0, .ref (ad 0)), (1, .int x1), (2, .int x2), (3, .int x3), (4, .int x4), (5, .int v)] []) : sn_At p l e rmX9_askOf s m args below meth c Q D ct ad layM 7 σ 40 [(0, .ref (ad 0)), (1, .int x1), (2, .int x2), (3, .int x3), (4, .int x4), (5, .int x5), (6, .int x6)] [] := by
  intro H locs ls hw hl
  have hx := C.1
  have hb := C.2.1
  unfold BX9_askOf_40 at hf
  refine lv_iload hx hb dX9_askOf_40 (lv_at hl 6 rfl) ?_
  refine lv_aload_n hx hb dX9_askOf_42 rfl (lv_at hl 0 rfl) ?_
  refine sn_getI C hw fd_RX9_372 layM_0 rfl dX9_askOf_43 ?_
  refine lv_icmp_ge (tgt := 82) hx hb dX9_askOf_46 (by decide) (fun c_1 => ?_) (fun c_1 => ?_)
  · have hf := sn_if c_1 hf
    cases hf
    exact kx _ rfl _ _ _ hw (lv_sub hl [0, 1, 2, 3, 4, 5] rfl)
  · have hf := sn_el c_1 hf
    refine lv_iload hx hb dX9_askOf_49 (lv_at hl 5 rfl) ?_
    refine lv_aload_n hx hb dX9_askOf_51 rfl (lv_at hl 0 rfl) ?_
    refine sn_getC (r := 20) C hw fd_RX9_73 layM_0 rfl dX9_askOf_52 ?_
    refine lv_bipush (v := 6) hx hb dX9_askOf_55 (by decide) ?_
    refine lv_iload hx hb dX9_askOf_57 (lv_at hl 6 rfl) ?_
    refine lv_imul hx hb dX9_askOf_59 ?_
    refine lv_iload_n hx hb dX9_askOf_60 rfl (lv_at hl 2 rfl) ?_
    refine lv_iadd hx hb dX9_askOf_61 ?_
    obtain ⟨g_2, hf⟩ := sn_gdE hf
    refine sn_iald C hw layM_20 g_2 dX9_askOf_62 ?_
    refine lv_iload hx hb dX9_askOf_63 (lv_at hl 4 rfl) ?_
    refine lv_icmp_ne (tgt := 72) hx hb dX9_askOf_65 (by decide) (fun c_3 => ?_) (fun c_3 => ?_)
    · have hf := sn_el c_3 hf
      refine lv_iconst (v := 0) hx hb dX9_askOf_72 rfl ?_
      exact wX9_askOf_73 C  hf kc kx _ _ _ hw (lv_sub hl [0, 1, 2, 3, 4, 5, 6] rfl)
    · have hf := sn_if c_3 hf
      refine lv_iconst (v := 1) hx hb dX9_askOf_68 rfl ?_
      refine lv_goto (tgt := 73) hx hb dX9_askOf_69 (by decide) ?_
      exact wX9_askOf_73 C  hf kc kx _ _ _ hw (lv_sub hl [0, 1, 2, 3, 4, 5, 6] rfl)
theorem wX9_askOf_L40 (C : sn_C p s m args meth c RX9 cX9_askOf 7 (some .int) D ct ad layM) {σ : sn_S} {x1 : Int32} {x2 : Int32} {x3 : Int32} {x4 : Int32}   {z : Int32 × Int32} {t : Int32} (h : sn_it (LX9_askOf_40 σ x1 x2 x3 x4) 5000 z = some t) (kx : ∀ v, t = v → sn_At p l e rmX9_askOf s m args below meth c Q D ct ad layM 7 σ 82 [(0, .ref (ad 0)), (1, .int x1), (2, .int x2), (3, .int x3), (4, .int x4), (5, .int v)] []) : sn_At p l e rmX9_askOf s m args below meth c Q D ct ad layM 7 σ 40 [(0, .ref (ad 0)), (1, .int x1), (2, .int x2), (3, .int x3), (4, .int x4), (5, .int z.1), (6, .int z.2)] [] :=
  sn_loop (f := LX9_askOf_40 σ x1 x2 x3 x4) (G := fun z => sn_At p l e rmX9_askOf s m args below meth c Q D ct ad layM 7 σ 40 [(0, .ref (ad 0)), (1, .int x1), (2, .int x2), (3, .int x3), (4, .int x4), (5, .int z.1), (6, .int z.2)] []) (E := fun t => (∀ v, t = v → sn_At p l e rmX9_askOf s m args below meth c Q D ct ad layM 7 σ 82 [(0, .ref (ad 0)), (1, .int x1), (2, .int x2), (3, .int x3), (4, .int x4), (5, .int v)] []) ∧ True) (fun z o hf k1 k2 => wX9_askOf_40 C  hf (fun v e => k1 v e) (fun v e => (k2 _ e).1 v rfl)) 5000 z t h ⟨kx, trivial⟩
theorem wX9_askOf_27 (C : sn_C p s m args meth c RX9 cX9_askOf 7 (some .int) D ct ad layM) {σ : sn_S} {x1 : Int32} {x2 : Int32} {x3 : Int32} {x4 : Int32}  {o : (Int32 × Int32) ⊕ (Int32)} (hf : BX9_askOf_27 σ x1 x2 x3 x4 = some o) (kc : ∀ v, o = .inl v → sn_At p l e rmX9_askOf s m args below meth c Q D ct ad layM 7 σ 27 [(0, .ref (ad 0)), (1, .int x1), (2, .int x2), (3, .int v.1), (4, .int v.2)] []) (kx : ∀ v, o = .inr v → sn_At p l e rmX9_askOf s m args below meth c Q D ct ad layM 7 σ 95 [(0, .ref (ad 0)), (1, .int x1), (2, .int x2), (3, .int v)] []) : sn_At p l e rmX9_askOf s m args below meth c Q D ct ad layM 7 σ 27 [(0, .ref (ad 0)), (1, .int x1), (2, .int x2), (3, .int x3), (4, .int x4)] [] := by
  intro H locs ls hw hl
  have hx := C.1
  have hb := C.2.1
  unfold BX9_askOf_27 at hf
  refine lv_iload hx hb dX9_askOf_27 (lv_at hl 4 rfl) ?_
  refine lv_bipush (v := 30) hx hb dX9_askOf_29 (by decide) ?_
  refine lv_icmp_gt (tgt := 95) hx hb dX9_askOf_31 (by decide) (fun c_1 => ?_) (fun c_1 => ?_)
  · have hf := sn_if c_1 hf
    cases hf
    exact kx _ rfl _ _ _ hw (lv_sub hl [0, 1, 2, 3] rfl)
  · have hf := sn_el c_1 hf
    refine lv_iconst (v := 0) hx hb dX9_askOf_34 rfl ?_
    refine lv_istore (lv' := [(5, .int (0 : Int32)), (0, .ref (ad 0)), (1, .int x1), (2, .int x2), (3, .int x3), (4, .int x4)]) hx hb dX9_askOf_35 hl (by decide) rfl (fun ls hl => ?_)
    refine lv_iconst (v := 0) hx hb dX9_askOf_37 rfl ?_
    refine lv_istore (lv' := [(6, .int (0 : Int32)), (5, .int (0 : Int32)), (0, .ref (ad 0)), (1, .int x1), (2, .int x2), (3, .int x3), (4, .int x4)]) hx hb dX9_askOf_38 hl (by decide) rfl (fun ls hl => ?_)
    obtain ⟨t_2, h_3, hf⟩ := sn_bd hf
    exact wX9_askOf_L40 C  h_3 (fun v e => by cases e; exact wX9_askOf_82 C  hf kc kx) _ _ _ hw (lv_sub hl [2, 3, 4, 5, 6, 1, 0] rfl)
theorem wX9_askOf_L27 (C : sn_C p s m args meth c RX9 cX9_askOf 7 (some .int) D ct ad layM) {σ : sn_S} {x1 : Int32} {x2 : Int32}   {z : Int32 × Int32} {t : Int32} (h : sn_it (LX9_askOf_27 σ x1 x2) 5000 z = some t) (kx : ∀ v, t = v → sn_At p l e rmX9_askOf s m args below meth c Q D ct ad layM 7 σ 95 [(0, .ref (ad 0)), (1, .int x1), (2, .int x2), (3, .int v)] []) : sn_At p l e rmX9_askOf s m args below meth c Q D ct ad layM 7 σ 27 [(0, .ref (ad 0)), (1, .int x1), (2, .int x2), (3, .int z.1), (4, .int z.2)] [] :=
  sn_loop (f := LX9_askOf_27 σ x1 x2) (G := fun z => sn_At p l e rmX9_askOf s m args below meth c Q D ct ad layM 7 σ 27 [(0, .ref (ad 0)), (1, .int x1), (2, .int x2), (3, .int z.1), (4, .int z.2)] []) (E := fun t => (∀ v, t = v → sn_At p l e rmX9_askOf s m args below meth c Q D ct ad layM 7 σ 95 [(0, .ref (ad 0)), (1, .int x1), (2, .int x2), (3, .int v)] []) ∧ True) (fun z o hf k1 k2 => wX9_askOf_27 C  hf (fun v e => k1 v e) (fun v e => (k2 _ e).1 v rfl)) 5000 z t h ⟨kx, trivial⟩
theorem wX9_askOf_12 (C : sn_C p s m args meth c RX9 cX9_askOf 7 (some .int) D ct ad layM) {σ : sn_S} {x1 : Int32} {x2 : Int32}  {o : (sn_S × Int32 × Int32) ⊕ (sn_S × Int32)} (hf : BX9_askOf_12 σ x1 x2 = some o) (kc : ∀ v, o = .inl v → sn_At p l e rmX9_askOf s m args below meth c Q D ct ad layM 7 v.1 12 [(0, .ref (ad 0)), (1, .int v.2.1), (2, .int v.2.2)] []) (kx : ∀ v, o = .inr v → sn_At p l e rmX9_askOf s m args below meth c Q D ct ad layM 7 v.1 119 [(1, .int v.2)] []) : sn_At p l e rmX9_askOf s m args below meth c Q D ct ad layM 7 σ 12 [(0, .ref (ad 0)), (1, .int x1), (2, .int x2)] [] := by
  intro H locs ls hw hl
  have hx := C.1
  have hb := C.2.1
  unfold BX9_askOf_12 at hf
  refine lv_iload_n hx hb dX9_askOf_12 rfl (lv_at hl 2 rfl) ?_
  refine lv_aload_n hx hb dX9_askOf_13 rfl (lv_at hl 0 rfl) ?_
  refine sn_getC (r := 1) C hw fd_RX9_9 layM_0 rfl dX9_askOf_14 ?_
  refine lv_iconst (v := 5) hx hb dX9_askOf_17 rfl ?_
  obtain ⟨g_1, hf⟩ := sn_gdE hf
  refine sn_iald C hw layM_1 g_1 dX9_askOf_18 ?_
  refine lv_icmp_ge (tgt := 119) hx hb dX9_askOf_19 (by decide) (fun c_2 => ?_) (fun c_2 => ?_)
  · have hf := sn_if c_2 hf
    cases hf
    exact kx _ rfl _ _ _ hw (lv_sub hl [1] rfl)
  · have hf := sn_el c_2 hf
    refine lv_iconst (v := 0) hx hb dX9_askOf_22 rfl ?_
    refine lv_istore_n (lv' := [(3, .int (0 : Int32)), (0, .ref (ad 0)), (1, .int x1), (2, .int x2)]) hx hb dX9_askOf_23 rfl hl (by decide) rfl (fun ls hl => ?_)
    refine lv_iconst (v := 0) hx hb dX9_askOf_24 rfl ?_
    refine lv_istore (lv' := [(4, .int (0 : Int32)), (3, .int (0 : Int32)), (0, .ref (ad 0)), (1, .int x1), (2, .int x2)]) hx hb dX9_askOf_25 hl (by decide) rfl (fun ls hl => ?_)
    obtain ⟨t_3, h_4, hf⟩ := sn_bd hf
    exact wX9_askOf_L27 C  h_4 (fun v e => by cases e; exact wX9_askOf_95 C  hf kc kx) _ _ _ hw (lv_sub hl [2, 3, 4, 1, 0] rfl)
theorem wX9_askOf_L12 (C : sn_C p s m args meth c RX9 cX9_askOf 7 (some .int) D ct ad layM)    {z : sn_S × Int32 × Int32} {t : sn_S × Int32} (h : sn_it (LX9_askOf_12 ) 5000 z = some t) (kx : ∀ v, t = v → sn_At p l e rmX9_askOf s m args below meth c Q D ct ad layM 7 v.1 119 [(1, .int v.2)] []) : sn_At p l e rmX9_askOf s m args below meth c Q D ct ad layM 7 z.1 12 [(0, .ref (ad 0)), (1, .int z.2.1), (2, .int z.2.2)] [] :=
  sn_loop (f := LX9_askOf_12 ) (G := fun z => sn_At p l e rmX9_askOf s m args below meth c Q D ct ad layM 7 z.1 12 [(0, .ref (ad 0)), (1, .int z.2.1), (2, .int z.2.2)] []) (E := fun t => (∀ v, t = v → sn_At p l e rmX9_askOf s m args below meth c Q D ct ad layM 7 v.1 119 [(1, .int v.2)] []) ∧ True) (fun z o hf k1 k2 => wX9_askOf_12 C  hf (fun v e => k1 v e) (fun v e => (k2 _ e).1 v rfl)) 5000 z t h ⟨kx, trivial⟩
theorem wX9_askOf_in (C : sn_C p s m args meth c RX9 cX9_askOf 7 (some .int) D ct ad layM) {σ : sn_S}  {o : (Int32 × sn_S)} (hf : fX9_askOf σ = some o) (kr : sn_Kr p l e rmX9_askOf s m args below meth c Q D ct ad layM cX9_askOf .ireturn (true) o.2 [.int o.1]) : sn_At p l e rmX9_askOf s m args below meth c Q D ct ad layM 7 σ 0 [(0, .ref (ad 0))] [] := by
  intro H locs ls hw hl
  have hx := C.1
  have hb := C.2.1
  unfold fX9_askOf at hf
  refine lv_aload_n hx hb dX9_askOf_0 rfl (lv_at hl 0 rfl) ?_
  refine lv_aload_n hx hb dX9_askOf_1 rfl (lv_at hl 0 rfl) ?_
  refine sn_getI C hw fd_RX9_372 layM_0 rfl dX9_askOf_2 ?_
  refine sn_putI C hw fp_RX9_378 layM_0 rfl dX9_askOf_5 (fun H locs hw => ?_)
  obtain ⟨σ_1, e_2, hf⟩ := sn_ltE hf
  rw [← e_2] at hw
  refine lv_iconst (v := (-1)) hx hb dX9_askOf_8 rfl ?_
  refine lv_istore_n (lv' := [(1, .int (-1 : Int32)), (0, .ref (ad 0))]) hx hb dX9_askOf_9 rfl hl (by decide) rfl (fun ls hl => ?_)
  refine lv_iconst (v := 0) hx hb dX9_askOf_10 rfl ?_
  refine lv_istore_n (lv' := [(2, .int (0 : Int32)), (1, .int (-1 : Int32)), (0, .ref (ad 0))]) hx hb dX9_askOf_11 rfl hl (by decide) rfl (fun ls hl => ?_)
  obtain ⟨t_3, h_4, hf⟩ := sn_bd hf
  exact wX9_askOf_L12 C  h_4 (fun v e => by cases e; exact wX9_askOf_119 C  hf kr) _ _ _ hw (lv_sub hl [2, 1, 0] rfl)
theorem ctX9_askOf (l : Launch) {σ : sn_S}  {o : (Int32 × sn_S)} (hf : fX9_askOf σ = some o) : sn_M l yX9_askOf cX9_askOf 7 (some .int) rmX9_askOf layM (fun ad => [.ref (ad 0)]) σ (some (fun _ => .int o.1)) o.2 :=
  sn_met (by decide) (fun _ => Nat.le_of_ble_eq_true rfl) (fun p e s m args below meth c ls D ct ad C hw hl => wX9_askOf_in C  hf (fun H locs ls pc hw ok hd => sn_iret C hw hd) _ _ _ hw hl)
-- X9_ask
abbrev rmX9_ask : Room := { frames := 5, cells := 0, slots := 0, locals := 120 }
def fX9_ask (σ : sn_S) (x1 : Int32) : Option (Int32 × sn_S) :=
  ((fX9_layPairs σ x1).bind fun t_1 => (if 0 ≤ t_1.1 then
  ((fX9_askOf t_1.2).bind fun t_4 => (some (t_4.1, t_4.2)))
  else
  (some (t_1.1, t_1.2))))
theorem wX9_ask_in (C : sn_C p s m args meth c RX9 cX9_ask 3 (some .int) D ct ad layM) {σ : sn_S} {x1 : Int32}  {o : (Int32 × sn_S)} (hf : fX9_ask σ x1 = some o) (kr : sn_Kr p l e rmX9_ask s m args below meth c Q D ct ad layM cX9_ask .ireturn (true) o.2 [.int o.1]) : sn_At p l e rmX9_ask s m args below meth c Q D ct ad layM 3 σ 0 [(0, .ref (ad 0)), (1, .int x1)] [] := by
  intro H locs ls hw hl
  have hx := C.1
  have hb := C.2.1
  unfold fX9_ask at hf
  refine lv_aload_n hx hb dX9_ask_0 rfl (lv_at hl 0 rfl) ?_
  refine lv_iload_n hx hb dX9_ask_1 rfl (lv_at hl 1 rfl) ?_
  obtain ⟨t_1, h_2, hf⟩ := sn_bd hf
  refine sn_callVi (rest := []) C hw (ctX9_layPairs l  h_2) kl_RX9_375 layM_0 rfl rfl rfl rfl (Nat.le_of_ble_eq_true rfl) dX9_ask_2 hl.1 (fun H locs hw => ?_)
  refine lv_istore_n (lv' := [(2, .int t_1.1), (0, .ref (ad 0)), (1, .int x1)]) hx hb dX9_ask_5 rfl hl (by decide) rfl (fun ls hl => ?_)
  refine lv_iload_n hx hb dX9_ask_6 rfl (lv_at hl 0 rfl) ?_
  refine lv_if_ge (tgt := 14) hx hb dX9_ask_7 (by decide) (fun c_3 => ?_) (fun c_3 => ?_)
  · have hf := sn_if c_3 hf
    refine lv_aload_n hx hb dX9_ask_14 rfl (lv_at hl 1 rfl) ?_
    obtain ⟨t_4, h_5, hf⟩ := sn_bd hf
    refine sn_callVi (rest := []) C hw (ctX9_askOf l  h_5) kl_RX9_381 layM_0 rfl rfl rfl rfl (Nat.le_of_ble_eq_true rfl) dX9_ask_15 hl.1 (fun H locs hw => ?_)
    cases hf
    exact kr _ _ _ _ hw rfl dX9_ask_18
  · have hf := sn_el c_3 hf
    refine lv_iload_n hx hb dX9_ask_10 rfl (lv_at hl 0 rfl) ?_
    refine lv_goto (tgt := 18) hx hb dX9_ask_11 (by decide) ?_
    cases hf
    exact kr _ _ _ _ hw rfl dX9_ask_18
theorem ctX9_ask (l : Launch) {σ : sn_S} {x1 : Int32}  {o : (Int32 × sn_S)} (hf : fX9_ask σ x1 = some o) : sn_M l yX9_ask cX9_ask 3 (some .int) rmX9_ask layM (fun ad => [.ref (ad 0), .int x1]) σ (some (fun _ => .int o.1)) o.2 :=
  sn_met (by decide) (fun _ => Nat.le_of_ble_eq_true rfl) (fun p e s m args below meth c ls D ct ad C hw hl => wX9_ask_in C  hf (fun H locs ls pc hw ok hd => sn_iret C hw hd) _ _ _ hw hl)
-- X9_leaves
abbrev rmX9_leaves : Room := { frames := 5, cells := 0, slots := 0, locals := 120 }
def fX9_leaves (σ : sn_S) (x1 : Int32) : Option (Int32 × sn_S) :=
  ((fX9_layPairs σ x1).bind fun t_1 => (if 0 ≤ t_1.1 then
  ((fX9_askOf t_1.2).bind fun t_4 => (some ((sn_I t_4.2 0 37), t_4.2)))
  else
  (some (t_1.1, t_1.2))))
theorem wX9_leaves_in (C : sn_C p s m args meth c RX9 cX9_leaves 3 (some .int) D ct ad layM) {σ : sn_S} {x1 : Int32}  {o : (Int32 × sn_S)} (hf : fX9_leaves σ x1 = some o) (kr : sn_Kr p l e rmX9_leaves s m args below meth c Q D ct ad layM cX9_leaves .ireturn (true) o.2 [.int o.1]) : sn_At p l e rmX9_leaves s m args below meth c Q D ct ad layM 3 σ 0 [(0, .ref (ad 0)), (1, .int x1)] [] := by
  intro H locs ls hw hl
  have hx := C.1
  have hb := C.2.1
  unfold fX9_leaves at hf
  refine lv_aload_n hx hb dX9_leaves_0 rfl (lv_at hl 0 rfl) ?_
  refine lv_iload_n hx hb dX9_leaves_1 rfl (lv_at hl 1 rfl) ?_
  obtain ⟨t_1, h_2, hf⟩ := sn_bd hf
  refine sn_callVi (rest := []) C hw (ctX9_layPairs l  h_2) kl_RX9_375 layM_0 rfl rfl rfl rfl (Nat.le_of_ble_eq_true rfl) dX9_leaves_2 hl.1 (fun H locs hw => ?_)
  refine lv_istore_n (lv' := [(2, .int t_1.1), (0, .ref (ad 0)), (1, .int x1)]) hx hb dX9_leaves_5 rfl hl (by decide) rfl (fun ls hl => ?_)
  refine lv_iload_n hx hb dX9_leaves_6 rfl (lv_at hl 0 rfl) ?_
  refine lv_if_ge (tgt := 12) hx hb dX9_leaves_7 (by decide) (fun c_3 => ?_) (fun c_3 => ?_)
  · have hf := sn_if c_3 hf
    refine lv_aload_n hx hb dX9_leaves_12 rfl (lv_at hl 1 rfl) ?_
    obtain ⟨t_4, h_5, hf⟩ := sn_bd hf
    refine sn_callVi (rest := []) C hw (ctX9_askOf l  h_5) kl_RX9_381 layM_0 rfl rfl rfl rfl (Nat.le_of_ble_eq_true rfl) dX9_leaves_13 hl.1 (fun H locs hw => ?_)
    refine lv_pop hx hb dX9_leaves_16 rfl ?_
    refine lv_aload_n hx hb dX9_leaves_17 rfl (lv_at hl 1 rfl) ?_
    refine sn_getI C hw fd_RX9_378 layM_0 rfl dX9_leaves_18 ?_
    cases hf
    exact kr _ _ _ _ hw rfl dX9_leaves_21
  · have hf := sn_el c_3 hf
    refine lv_iload_n hx hb dX9_leaves_10 rfl (lv_at hl 0 rfl) ?_
    cases hf
    exact kr _ _ _ _ hw rfl dX9_leaves_11
theorem ctX9_leaves (l : Launch) {σ : sn_S} {x1 : Int32}  {o : (Int32 × sn_S)} (hf : fX9_leaves σ x1 = some o) : sn_M l yX9_leaves cX9_leaves 3 (some .int) rmX9_leaves layM (fun ad => [.ref (ad 0), .int x1]) σ (some (fun _ => .int o.1)) o.2 :=
  sn_met (by decide) (fun _ => Nat.le_of_ble_eq_true rfl) (fun p e s m args below meth c ls D ct ad C hw hl => wX9_leaves_in C  hf (fun H locs ls pc hw ok hd => sn_iret C hw hd) _ _ _ hw hl)
-- X9_losesBy
abbrev rmX9_losesBy : Room := { frames := 4, cells := 0, slots := 0, locals := 95 }
def BX9_losesBy_94 (σ : sn_S) (t0 : Int32) (t1 : Int32) : Option ((Int32 × sn_S)) :=
  (some ((t0 + t1), σ))
def BX9_losesBy_80 (σ : sn_S) (t0 : Int32) (t1 : Int32) : Option ((Int32 × sn_S)) :=
  (if t1 = (1 : Int32) then
  ((fX9_minutes σ).bind fun t_2 => (BX9_losesBy_94 σ t0 (t_2 / (4 : Int32))))
  else
  (BX9_losesBy_94 σ t0 (0 : Int32)))
def BX9_losesBy_55 (σ : sn_S) (x3 : Int32) (x4 : Int32) (x5 : Int32) (t0 : Int32) : Option ((Int32 × sn_S)) :=
  (sn_gd (sn_in t0 6) ((fX9_bits (sn_I σ 10 t0.toNatClampNeg)).bind fun t_2 => (if x5 = 0 then
  (BX9_losesBy_80 σ ((3 : Int32) * t_2) x3)
  else
  (BX9_losesBy_80 σ ((3 : Int32) * t_2) x4))))
def BX9_losesBy_41 (σ : sn_S) (x1 : Int32) (x2 : Int32) (x3 : Int32) (x4 : Int32) (x5 : Int32) : Option ((Int32 × sn_S)) :=
  ((fX9_goAll σ).bind fun t_1 => (if x5 = 0 then
  (BX9_losesBy_55 t_1 x3 x4 x5 x1)
  else
  (BX9_losesBy_55 t_1 x3 x4 x5 x2)))
def BX9_losesBy_27 (σ : sn_S) (x1 : Int32) (x2 : Int32) (x3 : Int32) (x4 : Int32) (x5 : Int32) (x6 : Int32) : Option ((Int32 × sn_S)) :=
  (if x4 = (1 : Int32) then
  (sn_gd (sn_in x2 6) (sn_lt (sn_pI σ 8 x2.toNatClampNeg x6) fun σ_3 => (BX9_losesBy_41 σ_3 x1 x2 x3 x4 x5)))
  else
  (BX9_losesBy_41 σ x1 x2 x3 x4 x5))
def fX9_losesBy (σ : sn_S) (x1 : Int32) (x2 : Int32) (x3 : Int32) (x4 : Int32) (x5 : Int32) : Option (Int32 × sn_S) :=
  ((fX9_asItIs σ).bind fun t_1 => ((fX9_minutes t_1).bind fun t_3 => (sn_lt (((1 : Int32) <<< (t_3 &&& 31)) - (1 : Int32)) fun y_5 => (if x3 = (1 : Int32) then
  (sn_gd (sn_in x1 6) (sn_lt (sn_pI t_1 8 x1.toNatClampNeg y_5) fun σ_9 => (BX9_losesBy_27 σ_9 x1 x2 x3 x4 x5 y_5)))
  else
  (BX9_losesBy_27 t_1 x1 x2 x3 x4 x5 y_5)))))
theorem wX9_losesBy_94 (C : sn_C p s m args meth c RX9 cX9_losesBy 8 (some .int) D ct ad layM) {σ : sn_S} {t0 : Int32} {t1 : Int32}  {o : (Int32 × sn_S)} (hf : BX9_losesBy_94 σ t0 t1 = some o) (kr : sn_Kr p l e rmX9_losesBy s m args below meth c Q D ct ad layM cX9_losesBy .ireturn (true) o.2 [.int o.1]) : sn_At p l e rmX9_losesBy s m args below meth c Q D ct ad layM 8 σ 94 [] [.int t1, .int t0] := by
  intro H locs ls hw hl
  have hx := C.1
  have hb := C.2.1
  unfold BX9_losesBy_94 at hf
  refine lv_iadd hx hb dX9_losesBy_94 ?_
  cases hf
  exact kr _ _ _ _ hw rfl dX9_losesBy_95
theorem wX9_losesBy_80 (C : sn_C p s m args meth c RX9 cX9_losesBy 8 (some .int) D ct ad layM) {σ : sn_S} {t0 : Int32} {t1 : Int32}  {o : (Int32 × sn_S)} (hf : BX9_losesBy_80 σ t0 t1 = some o) (kr : sn_Kr p l e rmX9_losesBy s m args below meth c Q D ct ad layM cX9_losesBy .ireturn (true) o.2 [.int o.1]) : sn_At p l e rmX9_losesBy s m args below meth c Q D ct ad layM 8 σ 80 [(0, .ref (ad 0))] [.int t1, .int t0] := by
  intro H locs ls hw hl
  have hx := C.1
  have hb := C.2.1
  unfold BX9_losesBy_80 at hf
  refine lv_iconst (v := 1) hx hb dX9_losesBy_80 rfl ?_
  refine lv_icmp_ne (tgt := 93) hx hb dX9_losesBy_81 (by decide) (fun c_1 => ?_) (fun c_1 => ?_)
  · have hf := sn_el c_1 hf
    refine lv_iconst (v := 0) hx hb dX9_losesBy_93 rfl ?_
    exact wX9_losesBy_94 C  hf kr _ _ _ hw (lv_sub hl [] rfl)
  · have hf := sn_if c_1 hf
    refine lv_aload_n hx hb dX9_losesBy_84 rfl (lv_at hl 0 rfl) ?_
    obtain ⟨t_2, h_3, hf⟩ := sn_bd hf
    refine sn_callVi (rest := [.int t0]) C hw (ctX9_minutes l  h_3) kl_RX9_249 layM_0 rfl rfl rfl rfl (Nat.le_of_ble_eq_true rfl) dX9_losesBy_85 hl.1 (fun H locs hw => ?_)
    refine lv_iconst (v := 4) hx hb dX9_losesBy_88 rfl ?_
    refine lv_idiv hx hb dX9_losesBy_89 (by decide) ?_
    refine lv_goto (tgt := 94) hx hb dX9_losesBy_90 (by decide) ?_
    exact wX9_losesBy_94 C  hf kr _ _ _ hw (lv_sub hl [] rfl)
theorem wX9_losesBy_55 (C : sn_C p s m args meth c RX9 cX9_losesBy 8 (some .int) D ct ad layM) {σ : sn_S} {x3 : Int32} {x4 : Int32} {x5 : Int32} {t0 : Int32}  {o : (Int32 × sn_S)} (hf : BX9_losesBy_55 σ x3 x4 x5 t0 = some o) (kr : sn_Kr p l e rmX9_losesBy s m args below meth c Q D ct ad layM cX9_losesBy .ireturn (true) o.2 [.int o.1]) : sn_At p l e rmX9_losesBy s m args below meth c Q D ct ad layM 8 σ 55 [(0, .ref (ad 0)), (3, .int x3), (4, .int x4), (5, .int x5)] [.int t0] := by
  intro H locs ls hw hl
  have hx := C.1
  have hb := C.2.1
  unfold BX9_losesBy_55 at hf
  refine lv_istore (lv' := [(7, .int t0), (0, .ref (ad 0)), (3, .int x3), (4, .int x4), (5, .int x5)]) hx hb dX9_losesBy_55 hl (by decide) rfl (fun ls hl => ?_)
  refine lv_iconst (v := 3) hx hb dX9_losesBy_57 rfl ?_
  refine lv_aload_n hx hb dX9_losesBy_58 rfl (lv_at hl 1 rfl) ?_
  refine sn_getC (r := 10) C hw fd_RX9_43 layM_0 rfl dX9_losesBy_59 ?_
  refine lv_iload hx hb dX9_losesBy_62 (lv_at hl 0 rfl) ?_
  obtain ⟨g_1, hf⟩ := sn_gdE hf
  refine sn_iald C hw layM_10 g_1 dX9_losesBy_64 ?_
  obtain ⟨t_2, h_3, hf⟩ := sn_bd hf
  refine sn_callSi (rest := [.int (3 : Int32)]) C hw (ctX9_bits l  h_3) kl_RX9_278 rfl rfl rfl (Nat.le_of_ble_eq_true rfl) dX9_losesBy_65 hl.1 (fun H locs hw => ?_)
  refine lv_imul hx hb dX9_losesBy_68 ?_
  refine lv_iload hx hb dX9_losesBy_69 (lv_at hl 4 rfl) ?_
  refine lv_if_ne (tgt := 78) hx hb dX9_losesBy_71 (by decide) (fun c_4 => ?_) (fun c_4 => ?_)
  · have hf := sn_el c_4 hf
    refine lv_iload hx hb dX9_losesBy_78 (lv_at hl 3 rfl) ?_
    exact wX9_losesBy_80 C  hf kr _ _ _ hw (lv_sub hl [1] rfl)
  · have hf := sn_if c_4 hf
    refine lv_iload_n hx hb dX9_losesBy_74 rfl (lv_at hl 2 rfl) ?_
    refine lv_goto (tgt := 80) hx hb dX9_losesBy_75 (by decide) ?_
    exact wX9_losesBy_80 C  hf kr _ _ _ hw (lv_sub hl [1] rfl)
theorem wX9_losesBy_41 (C : sn_C p s m args meth c RX9 cX9_losesBy 8 (some .int) D ct ad layM) {σ : sn_S} {x1 : Int32} {x2 : Int32} {x3 : Int32} {x4 : Int32} {x5 : Int32}  {o : (Int32 × sn_S)} (hf : BX9_losesBy_41 σ x1 x2 x3 x4 x5 = some o) (kr : sn_Kr p l e rmX9_losesBy s m args below meth c Q D ct ad layM cX9_losesBy .ireturn (true) o.2 [.int o.1]) : sn_At p l e rmX9_losesBy s m args below meth c Q D ct ad layM 8 σ 41 [(0, .ref (ad 0)), (1, .int x1), (2, .int x2), (3, .int x3), (4, .int x4), (5, .int x5)] [] := by
  intro H locs ls hw hl
  have hx := C.1
  have hb := C.2.1
  unfold BX9_losesBy_41 at hf
  refine lv_aload_n hx hb dX9_losesBy_41 rfl (lv_at hl 0 rfl) ?_
  obtain ⟨t_1, h_2, hf⟩ := sn_bd hf
  refine sn_callVv (rest := []) C hw (ctX9_goAll l  h_2) kl_RX9_266 layM_0 rfl rfl rfl rfl (Nat.le_of_ble_eq_true rfl) dX9_losesBy_42 hl.1 (fun H locs hw => ?_)
  refine lv_iload hx hb dX9_losesBy_45 (lv_at hl 5 rfl) ?_
  refine lv_if_ne (tgt := 54) hx hb dX9_losesBy_47 (by decide) (fun c_3 => ?_) (fun c_3 => ?_)
  · have hf := sn_el c_3 hf
    refine lv_iload_n hx hb dX9_losesBy_54 rfl (lv_at hl 2 rfl) ?_
    exact wX9_losesBy_55 C  hf kr _ _ _ hw (lv_sub hl [0, 3, 4, 5] rfl)
  · have hf := sn_if c_3 hf
    refine lv_iload_n hx hb dX9_losesBy_50 rfl (lv_at hl 1 rfl) ?_
    refine lv_goto (tgt := 55) hx hb dX9_losesBy_51 (by decide) ?_
    exact wX9_losesBy_55 C  hf kr _ _ _ hw (lv_sub hl [0, 3, 4, 5] rfl)
theorem wX9_losesBy_27 (C : sn_C p s m args meth c RX9 cX9_losesBy 8 (some .int) D ct ad layM) {σ : sn_S} {x1 : Int32} {x2 : Int32} {x3 : Int32} {x4 : Int32} {x5 : Int32} {x6 : Int32}  {o : (Int32 × sn_S)} (hf : BX9_losesBy_27 σ x1 x2 x3 x4 x5 x6 = some o) (kr : sn_Kr p l e rmX9_losesBy s m args below meth c Q D ct ad layM cX9_losesBy .ireturn (true) o.2 [.int o.1]) : sn_At p l e rmX9_losesBy s m args below meth c Q D ct ad layM 8 σ 27 [(0, .ref (ad 0)), (1, .int x1), (2, .int x2), (3, .int x3), (4, .int x4), (5, .int x5), (6, .int x6)] [] := by
  intro H locs ls hw hl
  have hx := C.1
  have hb := C.2.1
  unfold BX9_losesBy_27 at hf
  refine lv_iload hx hb dX9_losesBy_27 (lv_at hl 4 rfl) ?_
  refine lv_iconst (v := 1) hx hb dX9_losesBy_29 rfl ?_
  refine lv_icmp_ne (tgt := 41) hx hb dX9_losesBy_30 (by decide) (fun c_1 => ?_) (fun c_1 => ?_)
  · have hf := sn_el c_1 hf
    exact wX9_losesBy_41 C  hf kr _ _ _ hw (lv_sub hl [0, 1, 2, 3, 4, 5] rfl)
  · have hf := sn_if c_1 hf
    refine lv_aload_n hx hb dX9_losesBy_33 rfl (lv_at hl 0 rfl) ?_
    refine sn_getC (r := 8) C hw fd_RX9_37 layM_0 rfl dX9_losesBy_34 ?_
    refine lv_iload_n hx hb dX9_losesBy_37 rfl (lv_at hl 2 rfl) ?_
    refine lv_iload hx hb dX9_losesBy_38 (lv_at hl 6 rfl) ?_
    obtain ⟨g_2, hf⟩ := sn_gdE hf
    refine sn_iast C hw layM_8 g_2 dX9_losesBy_40 (fun H locs hw => ?_)
    obtain ⟨σ_3, e_4, hf⟩ := sn_ltE hf
    rw [← e_4] at hw
    exact wX9_losesBy_41 C  hf kr _ _ _ hw (lv_sub hl [0, 1, 2, 3, 4, 5] rfl)
theorem wX9_losesBy_in (C : sn_C p s m args meth c RX9 cX9_losesBy 8 (some .int) D ct ad layM) {σ : sn_S} {x1 : Int32} {x2 : Int32} {x3 : Int32} {x4 : Int32} {x5 : Int32}  {o : (Int32 × sn_S)} (hf : fX9_losesBy σ x1 x2 x3 x4 x5 = some o) (kr : sn_Kr p l e rmX9_losesBy s m args below meth c Q D ct ad layM cX9_losesBy .ireturn (true) o.2 [.int o.1]) : sn_At p l e rmX9_losesBy s m args below meth c Q D ct ad layM 8 σ 0 [(0, .ref (ad 0)), (1, .int x1), (2, .int x2), (3, .int x3), (4, .int x4), (5, .int x5)] [] := by
  intro H locs ls hw hl
  have hx := C.1
  have hb := C.2.1
  unfold fX9_losesBy at hf
  refine lv_aload_n hx hb dX9_losesBy_0 rfl (lv_at hl 0 rfl) ?_
  obtain ⟨t_1, h_2, hf⟩ := sn_bd hf
  refine sn_callVv (rest := []) C hw (ctX9_asItIs l  h_2) kl_RX9_263 layM_0 rfl rfl rfl rfl (Nat.le_of_ble_eq_true rfl) dX9_losesBy_1 hl.1 (fun H locs hw => ?_)
  refine lv_iconst (v := 1) hx hb dX9_losesBy_4 rfl ?_
  refine lv_aload_n hx hb dX9_losesBy_5 rfl (lv_at hl 0 rfl) ?_
  obtain ⟨t_3, h_4, hf⟩ := sn_bd hf
  refine sn_callVi (rest := [.int (1 : Int32)]) C hw (ctX9_minutes l  h_4) kl_RX9_249 layM_0 rfl rfl rfl rfl (Nat.le_of_ble_eq_true rfl) dX9_losesBy_6 hl.1 (fun H locs hw => ?_)
  refine lv_ishl hx hb dX9_losesBy_9 ?_
  refine lv_iconst (v := 1) hx hb dX9_losesBy_10 rfl ?_
  refine lv_isub hx hb dX9_losesBy_11 ?_
  obtain ⟨y_5, e_6, hf⟩ := sn_ltE hf
  refine lv_topi (fun y_5_ e_6_ => ?_)
  obtain rfl : y_5 = y_5_ := e_6.trans e_6_.symm
  refine lv_istore (lv' := [(6, .int y_5), (0, .ref (ad 0)), (1, .int x1), (2, .int x2), (3, .int x3), (4, .int x4), (5, .int x5)]) hx hb dX9_losesBy_12 hl (by decide) rfl (fun ls hl => ?_)
  refine lv_iload_n hx hb dX9_losesBy_14 rfl (lv_at hl 4 rfl) ?_
  refine lv_iconst (v := 1) hx hb dX9_losesBy_15 rfl ?_
  refine lv_icmp_ne (tgt := 27) hx hb dX9_losesBy_16 (by decide) (fun c_7 => ?_) (fun c_7 => ?_)
  · have hf := sn_el c_7 hf
    exact wX9_losesBy_27 C  hf kr _ _ _ hw (lv_sub hl [1, 2, 3, 4, 5, 6, 0] rfl)
  · have hf := sn_if c_7 hf
    refine lv_aload_n hx hb dX9_losesBy_19 rfl (lv_at hl 1 rfl) ?_
    refine sn_getC (r := 8) C hw fd_RX9_37 layM_0 rfl dX9_losesBy_20 ?_
    refine lv_iload_n hx hb dX9_losesBy_23 rfl (lv_at hl 2 rfl) ?_
    refine lv_iload hx hb dX9_losesBy_24 (lv_at hl 0 rfl) ?_
    obtain ⟨g_8, hf⟩ := sn_gdE hf
    refine sn_iast C hw layM_8 g_8 dX9_losesBy_26 (fun H locs hw => ?_)
    obtain ⟨σ_9, e_10, hf⟩ := sn_ltE hf
    rw [← e_10] at hw
    exact wX9_losesBy_27 C  hf kr _ _ _ hw (lv_sub hl [1, 2, 3, 4, 5, 6, 0] rfl)
theorem ctX9_losesBy (l : Launch) {σ : sn_S} {x1 : Int32} {x2 : Int32} {x3 : Int32} {x4 : Int32} {x5 : Int32}  {o : (Int32 × sn_S)} (hf : fX9_losesBy σ x1 x2 x3 x4 x5 = some o) : sn_M l yX9_losesBy cX9_losesBy 8 (some .int) rmX9_losesBy layM (fun ad => [.ref (ad 0), .int x1, .int x2, .int x3, .int x4, .int x5]) σ (some (fun _ => .int o.1)) o.2 :=
  sn_met (by decide) (fun _ => Nat.le_of_ble_eq_true rfl) (fun p e s m args below meth c ls D ct ad C hw hl => wX9_losesBy_in C  hf (fun H locs ls pc hw ok hd => sn_iret C hw hd) _ _ _ hw hl)
-- X9_areTwo
abbrev rmX9_areTwo : Room := { frames := 2, cells := 0, slots := 0, locals := 47 }
def fX9_areTwo (σ : sn_S) (x1 : Int32) (x2 : Int32) : Option Int32 :=
  ((fX9_isPerson σ x1.toInt64).bind fun t_1 => (if t_1 = 0 then
  (sn_gd (sn_b01 (0 : Int32)) (some (0 : Int32)))
  else
  ((fX9_isPerson σ x2.toInt64).bind fun t_5 => (if t_5 = 0 then
  (sn_gd (sn_b01 (0 : Int32)) (some (0 : Int32)))
  else
  (if x1 = x2 then
  (sn_gd (sn_b01 (0 : Int32)) (some (0 : Int32)))
  else
  (sn_gd (sn_b01 (1 : Int32)) (some (1 : Int32))))))))
theorem wX9_areTwo_in (C : sn_C p s m args meth c RX9 cX9_areTwo 3 (some .boolean) D ct ad layM) {σ : sn_S} {x1 : Int32} {x2 : Int32}  {o : Int32} (hf : fX9_areTwo σ x1 x2 = some o) (kr : sn_Kr p l e rmX9_areTwo s m args below meth c Q D ct ad layM cX9_areTwo .ireturn (sn_b01 o) σ [.int o]) : sn_At p l e rmX9_areTwo s m args below meth c Q D ct ad layM 3 σ 0 [(0, .ref (ad 0)), (1, .int x1), (2, .int x2)] [] := by
  intro H locs ls hw hl
  have hx := C.1
  have hb := C.2.1
  unfold fX9_areTwo at hf
  refine lv_aload_n hx hb dX9_areTwo_0 rfl (lv_at hl 0 rfl) ?_
  refine lv_iload_n hx hb dX9_areTwo_1 rfl (lv_at hl 1 rfl) ?_
  refine lv_i2l hx hb dX9_areTwo_2 rfl ?_
  obtain ⟨t_1, h_2, hf⟩ := sn_bd hf
  refine sn_callVi (rest := []) C hw (ctX9_isPerson l  h_2) kl_RX9_224 layM_0 rfl rfl rfl rfl (Nat.le_of_ble_eq_true rfl) dX9_areTwo_3 hl.1 (fun H locs hw => ?_)
  refine lv_if_eq (tgt := 27) hx hb dX9_areTwo_6 (by decide) (fun c_3 => ?_) (fun c_3 => ?_)
  · have hf := sn_if c_3 hf
    refine lv_iconst (v := 0) hx hb dX9_areTwo_27 rfl ?_
    obtain ⟨g_4, hf⟩ := sn_gdE hf
    cases hf
    exact kr _ _ _ _ hw g_4 dX9_areTwo_28
  · have hf := sn_el c_3 hf
    refine lv_aload_n hx hb dX9_areTwo_9 rfl (lv_at hl 0 rfl) ?_
    refine lv_iload_n hx hb dX9_areTwo_10 rfl (lv_at hl 2 rfl) ?_
    refine lv_i2l hx hb dX9_areTwo_11 rfl ?_
    obtain ⟨t_5, h_6, hf⟩ := sn_bd hf
    refine sn_callVi (rest := []) C hw (ctX9_isPerson l  h_6) kl_RX9_224 layM_0 rfl rfl rfl rfl (Nat.le_of_ble_eq_true rfl) dX9_areTwo_12 hl.1 (fun H locs hw => ?_)
    refine lv_if_eq (tgt := 27) hx hb dX9_areTwo_15 (by decide) (fun c_7 => ?_) (fun c_7 => ?_)
    · have hf := sn_if c_7 hf
      refine lv_iconst (v := 0) hx hb dX9_areTwo_27 rfl ?_
      obtain ⟨g_8, hf⟩ := sn_gdE hf
      cases hf
      exact kr _ _ _ _ hw g_8 dX9_areTwo_28
    · have hf := sn_el c_7 hf
      refine lv_iload_n hx hb dX9_areTwo_18 rfl (lv_at hl 1 rfl) ?_
      refine lv_iload_n hx hb dX9_areTwo_19 rfl (lv_at hl 2 rfl) ?_
      refine lv_icmp_eq (tgt := 27) hx hb dX9_areTwo_20 (by decide) (fun c_9 => ?_) (fun c_9 => ?_)
      · have hf := sn_if c_9 hf
        refine lv_iconst (v := 0) hx hb dX9_areTwo_27 rfl ?_
        obtain ⟨g_10, hf⟩ := sn_gdE hf
        cases hf
        exact kr _ _ _ _ hw g_10 dX9_areTwo_28
      · have hf := sn_el c_9 hf
        refine lv_iconst (v := 1) hx hb dX9_areTwo_23 rfl ?_
        refine lv_goto (tgt := 28) hx hb dX9_areTwo_24 (by decide) ?_
        obtain ⟨g_11, hf⟩ := sn_gdE hf
        cases hf
        exact kr _ _ _ _ hw g_11 dX9_areTwo_28
theorem ctX9_areTwo (l : Launch) {σ : sn_S} {x1 : Int32} {x2 : Int32}  {o : Int32} (hf : fX9_areTwo σ x1 x2 = some o) : sn_M l yX9_areTwo cX9_areTwo 3 (some .boolean) rmX9_areTwo layM (fun ad => [.ref (ad 0), .int x1, .int x2]) σ (some (fun _ => .int o)) σ :=
  sn_met (by decide) (fun _ => Nat.le_of_ble_eq_true rfl) (fun p e s m args below meth c ls D ct ad C hw hl => wX9_areTwo_in C  hf (fun H locs ls pc hw ok hd => sn_zret C hw ok hd) _ _ _ hw hl)
-- X9_rests
abbrev rmX9_rests : Room := { frames := 5, cells := 0, slots := 0, locals := 122 }
def BX9_rests_118 (σ : sn_S) (x3 : Int32) : Option ((Int32 × sn_S)) :=
  (some (x3, σ))
def BX9_rests_110 (σ : sn_S) (x1 : Int32) (x2 : Int32) (x3 : Int32) (x4 : Int32) (t0 : Int32) (t1 : Int32) : Option ((sn_S × Int32 × Int32) ⊕ (sn_S × Int32)) :=
  (sn_lt (t0 ||| t1) fun y_1 => (sn_lt (x4 + 1) fun y_3 => (some (.inl (σ, y_1, y_3)))))
def BX9_rests_94 (σ : sn_S) (x1 : Int32) (x2 : Int32) (x3 : Int32) (x4 : Int32) (t0 : Int32) : Option ((sn_S × Int32 × Int32) ⊕ (sn_S × Int32)) :=
  (if t0 = 0 then
  (BX9_rests_110 σ x1 x2 x3 x4 x3 (0 : Int32))
  else
  (BX9_rests_110 σ x1 x2 x3 x4 x3 ((1 : Int32) <<< (x4 &&& 31))))
def BX9_rests_93 (σ : sn_S) (x1 : Int32) (x2 : Int32) (x3 : Int32) (x4 : Int32) : Option ((sn_S × Int32 × Int32) ⊕ (sn_S × Int32)) :=
  (BX9_rests_94 σ x1 x2 x3 x4 (0 : Int32))
def BX9_rests_17 (σ : sn_S) (x1 : Int32) (x2 : Int32) (x3 : Int32) (x4 : Int32) : Option ((sn_S × Int32 × Int32) ⊕ (sn_S × Int32)) :=
  (if (4 : Int32) ≤ x4 then
  (some (.inr (σ, x3)))
  else
  (sn_lt (x4 &&& (1 : Int32)) fun y_2 => (sn_lt (x4 >>> ((1 : Int32) &&& 31)) fun y_4 => ((fX9_losesBy σ x1 x2 y_2 y_4 (0 : Int32)).bind fun t_6 => ((fX9_losesBy t_6.2 x1 x2 ((1 : Int32) - y_2) y_4 (0 : Int32)).bind fun t_8 => (if t_8.1 < t_6.1 then
  (BX9_rests_93 t_8.2 x1 x2 x3 x4)
  else
  ((fX9_losesBy t_8.2 x1 x2 y_2 y_4 (1 : Int32)).bind fun t_11 => ((fX9_losesBy t_11.2 x1 x2 y_2 ((1 : Int32) - y_4) (1 : Int32)).bind fun t_13 => (if t_13.1 < t_11.1 then
  (BX9_rests_93 t_13.2 x1 x2 x3 x4)
  else
  (BX9_rests_94 t_13.2 x1 x2 x3 x4 (1 : Int32)))))))))))
def LX9_rests_17 (x1 : Int32) (x2 : Int32) (s : sn_S × Int32 × Int32) : Option ((sn_S × Int32 × Int32) ⊕ (sn_S × Int32)) := BX9_rests_17 s.1 x1 x2 s.2.1 s.2.2
def fX9_rests (σ : sn_S) (x1 : Int32) (x2 : Int32) : Option (Int32 × sn_S) :=
  ((fX9_areTwo σ x1 x2).bind fun t_1 => (if t_1 = 0 then
  (some ((-2 : Int32), σ))
  else
  ((sn_it (LX9_rests_17 x1 x2) 5000 (σ, (0 : Int32), (0 : Int32))).bind fun t_4 => (BX9_rests_118 t_4.1 t_4.2))))
theorem wX9_rests_118 (C : sn_C p s m args meth c RX9 cX9_rests 8 (some .int) D ct ad layM) {σ : sn_S} {x3 : Int32}  {o : (Int32 × sn_S)} (hf : BX9_rests_118 σ x3 = some o) (kr : sn_Kr p l e rmX9_rests s m args below meth c Q D ct ad layM cX9_rests .ireturn (true) o.2 [.int o.1]) : sn_At p l e rmX9_rests s m args below meth c Q D ct ad layM 8 σ 118 [(3, .int x3)] [] := by
  intro H locs ls hw hl
  have hx := C.1
  have hb := C.2.1
  unfold BX9_rests_118 at hf
  refine lv_iload_n hx hb dX9_rests_118 rfl (lv_at hl 0 rfl) ?_
  cases hf
  exact kr _ _ _ _ hw rfl dX9_rests_119
theorem wX9_rests_110 (C : sn_C p s m args meth c RX9 cX9_rests 8 (some .int) D ct ad layM) {σ : sn_S} {x1 : Int32} {x2 : Int32} {x3 : Int32} {x4 : Int32} {t0 : Int32} {t1 : Int32}  {o : (sn_S × Int32 × Int32) ⊕ (sn_S × Int32)} (hf : BX9_rests_110 σ x1 x2 x3 x4 t0 t1 = some o) (kc : ∀ v, o = .inl v → sn_At p l e rmX9_rests s m args below meth c Q D ct ad layM 8 v.1 17 [(0, .ref (ad 0)), (1, .int x1), (2, .int x2), (3, .int v.2.1), (4, .int v.2.2)] []) (kx : ∀ v, o = .inr v → sn_At p l e rmX9_rests s m args below meth c Q D ct ad layM 8 v.1 118 [(3, .int v.2)] []) : sn_At p l e rmX9_rests s m args below meth c Q D ct ad layM 8 σ 110 [(0, .ref (ad 0)), (1, .int x1), (2, .int x2), (3, .int x3), (4, .int x4)] [.int t1, .int t0] := by
  intro H locs ls hw hl
  have hx := C.1
  have hb := C.2.1
  unfold BX9_rests_110 at hf
  refine lv_ior hx hb dX9_rests_110 ?_
  obtain ⟨y_1, e_2, hf⟩ := sn_ltE hf
  refine lv_topi (fun y_1_ e_2_ => ?_)
  obtain rfl : y_1 = y_1_ := e_2.trans e_2_.symm
  refine lv_istore_n (lv' := [(3, .int y_1), (0, .ref (ad 0)), (1, .int x1), (2, .int x2), (4, .int x4)]) hx hb dX9_rests_111 rfl hl (by decide) rfl (fun ls hl => ?_)
  obtain ⟨y_3, e_4, hf⟩ := sn_ltE hf
  refine lv_iinc (v := y_3) (lv' := [(4, .int y_3), (3, .int y_1), (0, .ref (ad 0)), (1, .int x1), (2, .int x2)]) hx hb dX9_rests_112 hl (k := 4) rfl (by rw [e_4]; rfl) (by decide) rfl (fun ls hl => ?_)
  refine lv_goto (tgt := 17) hx hb dX9_rests_115 (by decide) ?_
  cases hf
  exact kc _ rfl _ _ _ hw (lv_sub hl [2, 3, 4, 1, 0] rfl)
theorem wX9_rests_94 (C : sn_C p s m args meth c RX9 cX9_rests 8 (some .int) D ct ad layM) {σ : sn_S} {x1 : Int32} {x2 : Int32} {x3 : Int32} {x4 : Int32} {t0 : Int32}  {o : (sn_S × Int32 × Int32) ⊕ (sn_S × Int32)} (hf : BX9_rests_94 σ x1 x2 x3 x4 t0 = some o) (kc : ∀ v, o = .inl v → sn_At p l e rmX9_rests s m args below meth c Q D ct ad layM 8 v.1 17 [(0, .ref (ad 0)), (1, .int x1), (2, .int x2), (3, .int v.2.1), (4, .int v.2.2)] []) (kx : ∀ v, o = .inr v → sn_At p l e rmX9_rests s m args below meth c Q D ct ad layM 8 v.1 118 [(3, .int v.2)] []) : sn_At p l e rmX9_rests s m args below meth c Q D ct ad layM 8 σ 94 [(0, .ref (ad 0)), (1, .int x1), (2, .int x2), (3, .int x3), (4, .int x4)] [.int t0] := by
  intro H locs ls hw hl
  have hx := C.1
  have hb := C.2.1
  unfold BX9_rests_94 at hf
  refine lv_istore (lv' := [(7, .int t0), (0, .ref (ad 0)), (1, .int x1), (2, .int x2), (3, .int x3), (4, .int x4)]) hx hb dX9_rests_94 hl (by decide) rfl (fun ls hl => ?_)
  refine lv_iload_n hx hb dX9_rests_96 rfl (lv_at hl 4 rfl) ?_
  refine lv_iload hx hb dX9_rests_97 (lv_at hl 0 rfl) ?_
  refine lv_if_eq (tgt := 109) hx hb dX9_rests_99 (by decide) (fun c_1 => ?_) (fun c_1 => ?_)
  · have hf := sn_if c_1 hf
    refine lv_iconst (v := 0) hx hb dX9_rests_109 rfl ?_
    exact wX9_rests_110 C  hf kc kx _ _ _ hw (lv_sub hl [1, 2, 3, 4, 5] rfl)
  · have hf := sn_el c_1 hf
    refine lv_iconst (v := 1) hx hb dX9_rests_102 rfl ?_
    refine lv_iload hx hb dX9_rests_103 (lv_at hl 5 rfl) ?_
    refine lv_ishl hx hb dX9_rests_105 ?_
    refine lv_goto (tgt := 110) hx hb dX9_rests_106 (by decide) ?_
    exact wX9_rests_110 C  hf kc kx _ _ _ hw (lv_sub hl [1, 2, 3, 4, 5] rfl)
theorem wX9_rests_93 (C : sn_C p s m args meth c RX9 cX9_rests 8 (some .int) D ct ad layM) {σ : sn_S} {x1 : Int32} {x2 : Int32} {x3 : Int32} {x4 : Int32}  {o : (sn_S × Int32 × Int32) ⊕ (sn_S × Int32)} (hf : BX9_rests_93 σ x1 x2 x3 x4 = some o) (kc : ∀ v, o = .inl v → sn_At p l e rmX9_rests s m args below meth c Q D ct ad layM 8 v.1 17 [(0, .ref (ad 0)), (1, .int x1), (2, .int x2), (3, .int v.2.1), (4, .int v.2.2)] []) (kx : ∀ v, o = .inr v → sn_At p l e rmX9_rests s m args below meth c Q D ct ad layM 8 v.1 118 [(3, .int v.2)] []) : sn_At p l e rmX9_rests s m args below meth c Q D ct ad layM 8 σ 93 [(0, .ref (ad 0)), (1, .int x1), (2, .int x2), (3, .int x3), (4, .int x4)] [] := by
  intro H locs ls hw hl
  have hx := C.1
  have hb := C.2.1
  unfold BX9_rests_93 at hf
  refine lv_iconst (v := 0) hx hb dX9_rests_93 rfl ?_
  exact wX9_rests_94 C  hf kc kx _ _ _ hw (lv_sub hl [0, 1, 2, 3, 4] rfl)
theorem wX9_rests_17 (C : sn_C p s m args meth c RX9 cX9_rests 8 (some .int) D ct ad layM) {σ : sn_S} {x1 : Int32} {x2 : Int32} {x3 : Int32} {x4 : Int32}  {o : (sn_S × Int32 × Int32) ⊕ (sn_S × Int32)} (hf : BX9_rests_17 σ x1 x2 x3 x4 = some o) (kc : ∀ v, o = .inl v → sn_At p l e rmX9_rests s m args below meth c Q D ct ad layM 8 v.1 17 [(0, .ref (ad 0)), (1, .int x1), (2, .int x2), (3, .int v.2.1), (4, .int v.2.2)] []) (kx : ∀ v, o = .inr v → sn_At p l e rmX9_rests s m args below meth c Q D ct ad layM 8 v.1 118 [(3, .int v.2)] []) : sn_At p l e rmX9_rests s m args below meth c Q D ct ad layM 8 σ 17 [(0, .ref (ad 0)), (1, .int x1), (2, .int x2), (3, .int x3), (4, .int x4)] [] := by
  intro H locs ls hw hl
  have hx := C.1
  have hb := C.2.1
  unfold BX9_rests_17 at hf
  refine lv_iload hx hb dX9_rests_17 (lv_at hl 4 rfl) ?_
  refine lv_iconst (v := 4) hx hb dX9_rests_19 rfl ?_
  refine lv_icmp_ge (tgt := 118) hx hb dX9_rests_20 (by decide) (fun c_1 => ?_) (fun c_1 => ?_)
  · have hf := sn_if c_1 hf
    cases hf
    exact kx _ rfl _ _ _ hw (lv_sub hl [3] rfl)
  · have hf := sn_el c_1 hf
    refine lv_iload hx hb dX9_rests_23 (lv_at hl 4 rfl) ?_
    refine lv_iconst (v := 1) hx hb dX9_rests_25 rfl ?_
    refine lv_iand hx hb dX9_rests_26 ?_
    obtain ⟨y_2, e_3, hf⟩ := sn_ltE hf
    refine lv_topi (fun y_2_ e_3_ => ?_)
    obtain rfl : y_2 = y_2_ := e_3.trans e_3_.symm
    refine lv_istore (lv' := [(5, .int y_2), (0, .ref (ad 0)), (1, .int x1), (2, .int x2), (3, .int x3), (4, .int x4)]) hx hb dX9_rests_27 hl (by decide) rfl (fun ls hl => ?_)
    refine lv_iload hx hb dX9_rests_29 (lv_at hl 5 rfl) ?_
    refine lv_iconst (v := 1) hx hb dX9_rests_31 rfl ?_
    refine lv_ishr hx hb dX9_rests_32 ?_
    obtain ⟨y_4, e_5, hf⟩ := sn_ltE hf
    refine lv_topi (fun y_4_ e_5_ => ?_)
    obtain rfl : y_4 = y_4_ := e_5.trans e_5_.symm
    refine lv_istore (lv' := [(6, .int y_4), (5, .int y_2), (0, .ref (ad 0)), (1, .int x1), (2, .int x2), (3, .int x3), (4, .int x4)]) hx hb dX9_rests_33 hl (by decide) rfl (fun ls hl => ?_)
    refine lv_aload_n hx hb dX9_rests_35 rfl (lv_at hl 2 rfl) ?_
    refine lv_iload_n hx hb dX9_rests_36 rfl (lv_at hl 3 rfl) ?_
    refine lv_iload_n hx hb dX9_rests_37 rfl (lv_at hl 4 rfl) ?_
    refine lv_iload hx hb dX9_rests_38 (lv_at hl 1 rfl) ?_
    refine lv_iload hx hb dX9_rests_40 (lv_at hl 0 rfl) ?_
    refine lv_iconst (v := 0) hx hb dX9_rests_42 rfl ?_
    obtain ⟨t_6, h_7, hf⟩ := sn_bd hf
    refine sn_callVi (rest := []) C hw (ctX9_losesBy l  h_7) kl_RX9_387 layM_0 rfl rfl rfl rfl (Nat.le_of_ble_eq_true rfl) dX9_rests_43 hl.1 (fun H locs hw => ?_)
    refine lv_aload_n hx hb dX9_rests_46 rfl (lv_at hl 2 rfl) ?_
    refine lv_iload_n hx hb dX9_rests_47 rfl (lv_at hl 3 rfl) ?_
    refine lv_iload_n hx hb dX9_rests_48 rfl (lv_at hl 4 rfl) ?_
    refine lv_iconst (v := 1) hx hb dX9_rests_49 rfl ?_
    refine lv_iload hx hb dX9_rests_50 (lv_at hl 1 rfl) ?_
    refine lv_isub hx hb dX9_rests_52 ?_
    refine lv_iload hx hb dX9_rests_53 (lv_at hl 0 rfl) ?_
    refine lv_iconst (v := 0) hx hb dX9_rests_55 rfl ?_
    obtain ⟨t_8, h_9, hf⟩ := sn_bd hf
    refine sn_callVi (rest := [.int t_6.1]) C hw (ctX9_losesBy l  h_9) kl_RX9_387 layM_0 rfl rfl rfl rfl (Nat.le_of_ble_eq_true rfl) dX9_rests_56 hl.1 (fun H locs hw => ?_)
    refine lv_icmp_gt (tgt := 93) hx hb dX9_rests_59 (by decide) (fun c_10 => ?_) (fun c_10 => ?_)
    · have hf := sn_if c_10 hf
      exact wX9_rests_93 C  hf kc kx _ _ _ hw (lv_sub hl [2, 3, 4, 5, 6] rfl)
    · have hf := sn_el c_10 hf
      refine lv_aload_n hx hb dX9_rests_62 rfl (lv_at hl 2 rfl) ?_
      refine lv_iload_n hx hb dX9_rests_63 rfl (lv_at hl 3 rfl) ?_
      refine lv_iload_n hx hb dX9_rests_64 rfl (lv_at hl 4 rfl) ?_
      refine lv_iload hx hb dX9_rests_65 (lv_at hl 1 rfl) ?_
      refine lv_iload hx hb dX9_rests_67 (lv_at hl 0 rfl) ?_
      refine lv_iconst (v := 1) hx hb dX9_rests_69 rfl ?_
      obtain ⟨t_11, h_12, hf⟩ := sn_bd hf
      refine sn_callVi (rest := []) C hw (ctX9_losesBy l  h_12) kl_RX9_387 layM_0 rfl rfl rfl rfl (Nat.le_of_ble_eq_true rfl) dX9_rests_70 hl.1 (fun H locs hw => ?_)
      refine lv_aload_n hx hb dX9_rests_73 rfl (lv_at hl 2 rfl) ?_
      refine lv_iload_n hx hb dX9_rests_74 rfl (lv_at hl 3 rfl) ?_
      refine lv_iload_n hx hb dX9_rests_75 rfl (lv_at hl 4 rfl) ?_
      refine lv_iload hx hb dX9_rests_76 (lv_at hl 1 rfl) ?_
      refine lv_iconst (v := 1) hx hb dX9_rests_78 rfl ?_
      refine lv_iload hx hb dX9_rests_79 (lv_at hl 0 rfl) ?_
      refine lv_isub hx hb dX9_rests_81 ?_
      refine lv_iconst (v := 1) hx hb dX9_rests_82 rfl ?_
      obtain ⟨t_13, h_14, hf⟩ := sn_bd hf
      refine sn_callVi (rest := [.int t_11.1]) C hw (ctX9_losesBy l  h_14) kl_RX9_387 layM_0 rfl rfl rfl rfl (Nat.le_of_ble_eq_true rfl) dX9_rests_83 hl.1 (fun H locs hw => ?_)
      refine lv_icmp_gt (tgt := 93) hx hb dX9_rests_86 (by decide) (fun c_15 => ?_) (fun c_15 => ?_)
      · have hf := sn_if c_15 hf
        exact wX9_rests_93 C  hf kc kx _ _ _ hw (lv_sub hl [2, 3, 4, 5, 6] rfl)
      · have hf := sn_el c_15 hf
        refine lv_iconst (v := 1) hx hb dX9_rests_89 rfl ?_
        refine lv_goto (tgt := 94) hx hb dX9_rests_90 (by decide) ?_
        exact wX9_rests_94 C  hf kc kx _ _ _ hw (lv_sub hl [2, 3, 4, 5, 6] rfl)
theorem wX9_rests_L17 (C : sn_C p s m args meth c RX9 cX9_rests 8 (some .int) D ct ad layM) {x1 : Int32} {x2 : Int32}   {z : sn_S × Int32 × Int32} {t : sn_S × Int32} (h : sn_it (LX9_rests_17 x1 x2) 5000 z = some t) (kx : ∀ v, t = v → sn_At p l e rmX9_rests s m args below meth c Q D ct ad layM 8 v.1 118 [(3, .int v.2)] []) : sn_At p l e rmX9_rests s m args below meth c Q D ct ad layM 8 z.1 17 [(0, .ref (ad 0)), (1, .int x1), (2, .int x2), (3, .int z.2.1), (4, .int z.2.2)] [] :=
  sn_loop (f := LX9_rests_17 x1 x2) (G := fun z => sn_At p l e rmX9_rests s m args below meth c Q D ct ad layM 8 z.1 17 [(0, .ref (ad 0)), (1, .int x1), (2, .int x2), (3, .int z.2.1), (4, .int z.2.2)] []) (E := fun t => (∀ v, t = v → sn_At p l e rmX9_rests s m args below meth c Q D ct ad layM 8 v.1 118 [(3, .int v.2)] []) ∧ True) (fun z o hf k1 k2 => wX9_rests_17 C  hf (fun v e => k1 v e) (fun v e => (k2 _ e).1 v rfl)) 5000 z t h ⟨kx, trivial⟩
theorem wX9_rests_in (C : sn_C p s m args meth c RX9 cX9_rests 8 (some .int) D ct ad layM) {σ : sn_S} {x1 : Int32} {x2 : Int32}  {o : (Int32 × sn_S)} (hf : fX9_rests σ x1 x2 = some o) (kr : sn_Kr p l e rmX9_rests s m args below meth c Q D ct ad layM cX9_rests .ireturn (true) o.2 [.int o.1]) : sn_At p l e rmX9_rests s m args below meth c Q D ct ad layM 8 σ 0 [(0, .ref (ad 0)), (1, .int x1), (2, .int x2)] [] := by
  intro H locs ls hw hl
  have hx := C.1
  have hb := C.2.1
  unfold fX9_rests at hf
  refine lv_aload_n hx hb dX9_rests_0 rfl (lv_at hl 0 rfl) ?_
  refine lv_iload_n hx hb dX9_rests_1 rfl (lv_at hl 1 rfl) ?_
  refine lv_iload_n hx hb dX9_rests_2 rfl (lv_at hl 2 rfl) ?_
  obtain ⟨t_1, h_2, hf⟩ := sn_bd hf
  refine sn_callVi (rest := []) C hw (ctX9_areTwo l  h_2) kl_RX9_384 layM_0 rfl rfl rfl rfl (Nat.le_of_ble_eq_true rfl) dX9_rests_3 hl.1 (fun H locs hw => ?_)
  refine lv_if_ne (tgt := 12) hx hb dX9_rests_6 (by decide) (fun c_3 => ?_) (fun c_3 => ?_)
  · have hf := sn_el c_3 hf
    refine lv_iconst (v := 0) hx hb dX9_rests_12 rfl ?_
    refine lv_istore_n (lv' := [(3, .int (0 : Int32)), (0, .ref (ad 0)), (1, .int x1), (2, .int x2)]) hx hb dX9_rests_13 rfl hl (by decide) rfl (fun ls hl => ?_)
    refine lv_iconst (v := 0) hx hb dX9_rests_14 rfl ?_
    refine lv_istore (lv' := [(4, .int (0 : Int32)), (3, .int (0 : Int32)), (0, .ref (ad 0)), (1, .int x1), (2, .int x2)]) hx hb dX9_rests_15 hl (by decide) rfl (fun ls hl => ?_)
    obtain ⟨t_4, h_5, hf⟩ := sn_bd hf
    exact wX9_rests_L17 C  h_5 (fun v e => by cases e; exact wX9_rests_118 C  hf kr) _ _ _ hw (lv_sub hl [2, 3, 4, 1, 0] rfl)
  · have hf := sn_if c_3 hf
    refine lv_bipush (v := (-2)) hx hb dX9_rests_9 (by decide) ?_
    cases hf
    exact kr _ _ _ _ hw rfl dX9_rests_11
theorem ctX9_rests (l : Launch) {σ : sn_S} {x1 : Int32} {x2 : Int32}  {o : (Int32 × sn_S)} (hf : fX9_rests σ x1 x2 = some o) : sn_M l yX9_rests cX9_rests 8 (some .int) rmX9_rests layM (fun ad => [.ref (ad 0), .int x1, .int x2]) σ (some (fun _ => .int o.1)) o.2 :=
  sn_met (by decide) (fun _ => Nat.le_of_ble_eq_true rfl) (fun p e s m args below meth c ls D ct ad C hw hl => wX9_rests_in C  hf (fun H locs ls pc hw ok hd => sn_iret C hw hd) _ _ _ hw hl)
-- X9_loses
abbrev rmX9_loses : Room := { frames := 5, cells := 0, slots := 0, locals := 122 }
def fX9_loses (σ : sn_S) (x1 : Int32) (x2 : Int32) (x3 : Int32) (x4 : Int32) : Option (Int32 × sn_S) :=
  ((fX9_areTwo σ x1 x2).bind fun t_1 => (if t_1 = 0 then
  (some ((-2 : Int32), σ))
  else
  ((fX9_in x3.toInt64 (0 : Int64) (1 : Int64)).bind fun t_4 => (if t_4 = 0 then
  (some ((-2 : Int32), σ))
  else
  ((fX9_in x4.toInt64 (0 : Int64) (1 : Int64)).bind fun t_7 => (if t_7 = 0 then
  (some ((-2 : Int32), σ))
  else
  ((fX9_losesBy σ x1 x2 x3 x4 (0 : Int32)).bind fun t_10 => (some (t_10.1, t_10.2)))))))))
theorem wX9_loses_in (C : sn_C p s m args meth c RX9 cX9_loses 5 (some .int) D ct ad layM) {σ : sn_S} {x1 : Int32} {x2 : Int32} {x3 : Int32} {x4 : Int32}  {o : (Int32 × sn_S)} (hf : fX9_loses σ x1 x2 x3 x4 = some o) (kr : sn_Kr p l e rmX9_loses s m args below meth c Q D ct ad layM cX9_loses .ireturn (true) o.2 [.int o.1]) : sn_At p l e rmX9_loses s m args below meth c Q D ct ad layM 5 σ 0 [(0, .ref (ad 0)), (1, .int x1), (2, .int x2), (3, .int x3), (4, .int x4)] [] := by
  intro H locs ls hw hl
  have hx := C.1
  have hb := C.2.1
  unfold fX9_loses at hf
  refine lv_aload_n hx hb dX9_loses_0 rfl (lv_at hl 0 rfl) ?_
  refine lv_iload_n hx hb dX9_loses_1 rfl (lv_at hl 1 rfl) ?_
  refine lv_iload_n hx hb dX9_loses_2 rfl (lv_at hl 2 rfl) ?_
  obtain ⟨t_1, h_2, hf⟩ := sn_bd hf
  refine sn_callVi (rest := []) C hw (ctX9_areTwo l  h_2) kl_RX9_384 layM_0 rfl rfl rfl rfl (Nat.le_of_ble_eq_true rfl) dX9_loses_3 hl.1 (fun H locs hw => ?_)
  refine lv_if_eq (tgt := 43) hx hb dX9_loses_6 (by decide) (fun c_3 => ?_) (fun c_3 => ?_)
  · have hf := sn_if c_3 hf
    refine lv_bipush (v := (-2)) hx hb dX9_loses_43 (by decide) ?_
    cases hf
    exact kr _ _ _ _ hw rfl dX9_loses_45
  · have hf := sn_el c_3 hf
    refine lv_iload_n hx hb dX9_loses_9 rfl (lv_at hl 3 rfl) ?_
    refine lv_i2l hx hb dX9_loses_10 rfl ?_
    refine lv_lconst (v := 0) hx hb dX9_loses_11 rfl ?_
    refine lv_lconst (v := 1) hx hb dX9_loses_12 rfl ?_
    obtain ⟨t_4, h_5, hf⟩ := sn_bd hf
    refine sn_callSi (rest := []) C hw (ctX9_in l  h_5) kl_RX9_94 rfl rfl rfl (Nat.le_of_ble_eq_true rfl) dX9_loses_13 hl.1 (fun H locs hw => ?_)
    refine lv_if_eq (tgt := 43) hx hb dX9_loses_16 (by decide) (fun c_6 => ?_) (fun c_6 => ?_)
    · have hf := sn_if c_6 hf
      refine lv_bipush (v := (-2)) hx hb dX9_loses_43 (by decide) ?_
      cases hf
      exact kr _ _ _ _ hw rfl dX9_loses_45
    · have hf := sn_el c_6 hf
      refine lv_iload hx hb dX9_loses_19 (lv_at hl 4 rfl) ?_
      refine lv_i2l hx hb dX9_loses_21 rfl ?_
      refine lv_lconst (v := 0) hx hb dX9_loses_22 rfl ?_
      refine lv_lconst (v := 1) hx hb dX9_loses_23 rfl ?_
      obtain ⟨t_7, h_8, hf⟩ := sn_bd hf
      refine sn_callSi (rest := []) C hw (ctX9_in l  h_8) kl_RX9_94 rfl rfl rfl (Nat.le_of_ble_eq_true rfl) dX9_loses_24 hl.1 (fun H locs hw => ?_)
      refine lv_if_eq (tgt := 43) hx hb dX9_loses_27 (by decide) (fun c_9 => ?_) (fun c_9 => ?_)
      · have hf := sn_if c_9 hf
        refine lv_bipush (v := (-2)) hx hb dX9_loses_43 (by decide) ?_
        cases hf
        exact kr _ _ _ _ hw rfl dX9_loses_45
      · have hf := sn_el c_9 hf
        refine lv_aload_n hx hb dX9_loses_30 rfl (lv_at hl 0 rfl) ?_
        refine lv_iload_n hx hb dX9_loses_31 rfl (lv_at hl 1 rfl) ?_
        refine lv_iload_n hx hb dX9_loses_32 rfl (lv_at hl 2 rfl) ?_
        refine lv_iload_n hx hb dX9_loses_33 rfl (lv_at hl 3 rfl) ?_
        refine lv_iload hx hb dX9_loses_34 (lv_at hl 4 rfl) ?_
        refine lv_iconst (v := 0) hx hb dX9_loses_36 rfl ?_
        obtain ⟨t_10, h_11, hf⟩ := sn_bd hf
        refine sn_callVi (rest := []) C hw (ctX9_losesBy l  h_11) kl_RX9_387 layM_0 rfl rfl rfl rfl (Nat.le_of_ble_eq_true rfl) dX9_loses_37 hl.1 (fun H locs hw => ?_)
        refine lv_goto (tgt := 45) hx hb dX9_loses_40 (by decide) ?_
        cases hf
        exact kr _ _ _ _ hw rfl dX9_loses_45
theorem ctX9_loses (l : Launch) {σ : sn_S} {x1 : Int32} {x2 : Int32} {x3 : Int32} {x4 : Int32}  {o : (Int32 × sn_S)} (hf : fX9_loses σ x1 x2 x3 x4 = some o) : sn_M l yX9_loses cX9_loses 5 (some .int) rmX9_loses layM (fun ad => [.ref (ad 0), .int x1, .int x2, .int x3, .int x4]) σ (some (fun _ => .int o.1)) o.2 :=
  sn_met (by decide) (fun _ => Nat.le_of_ble_eq_true rfl) (fun p e s m args below meth c ls D ct ad C hw hl => wX9_loses_in C  hf (fun H locs ls pc hw ok hd => sn_iret C hw hd) _ _ _ hw hl)
end
