section
variable {p : Program} {l : Launch} {e : Env} {s : State} {m : MethodId} {args : Array Value} {below : List Frame} {meth : Method} {c : Code} {Q : State → Prop} {D : va_G} {ct : Nat → ClassId} {ad : Nat → Nat} {A : Nat → Prop} {lay : List sn_E}
-- X9_which
abbrev rmX9_which : Room := { frames := 5, cells := 0, slots := 0, locals := 120 }
def fX9_which (σ : sn_S) (x1 : Int32) : Option (Int32 × sn_S) :=
  ((fX9_layPairs σ x1).bind fun t_1 => (if 0 ≤ t_1.1 then
  (some ((sn_I t_1.2 0 36), t_1.2))
  else
  (some (t_1.1, t_1.2))))
theorem wX9_which_in (C : sn_C p s m args meth c RX9 cX9_which 3 (some .int) D ct ad layM A) {σ : sn_S} {x1 : Int32}  {o : (Int32 × sn_S)} (hf : fX9_which σ x1 = some o) (kr : sn_Kr p l e rmX9_which s m args below meth c Q D ct ad layM A cX9_which .ireturn (true) o.2 [.int o.1]) : sn_At p l e rmX9_which s m args below meth c Q D ct ad layM A 3 σ 0 [(0, .ref (ad 0)), (1, .int x1)] [] := by
  intro H locs ls hw hl
  have hx := C.1
  have hb := C.2.1
  unfold fX9_which at hf
  refine lv_aload_n hx hb dX9_which_0 rfl (lv_at hl 0 rfl) ?_
  refine lv_iload_n hx hb dX9_which_1 rfl (lv_at hl 1 rfl) ?_
  obtain ⟨t_1, h_2, hf⟩ := sn_bd hf
  refine sn_callVi (rest := []) C hw (ctX9_layPairs l  h_2) kl_RX9_375 layM_0 rfl rfl rfl rfl (Nat.le_of_ble_eq_true rfl) dX9_which_2 hl.1 (fun H locs hw => ?_)
  refine lv_istore_n (lv' := [(2, .int t_1.1), (0, .ref (ad 0)), (1, .int x1)]) hx hb dX9_which_5 rfl hl (by decide) rfl (fun ls hl => ?_)
  refine lv_iload_n hx hb dX9_which_6 rfl (lv_at hl 0 rfl) ?_
  refine lv_if_ge (tgt := 14) hx hb dX9_which_7 (by decide) (fun c_3 => ?_) (fun c_3 => ?_)
  · have hf := sn_if c_3 hf
    refine lv_aload_n hx hb dX9_which_14 rfl (lv_at hl 1 rfl) ?_
    refine sn_getI C hw fd_RX9_372 layM_0 rfl dX9_which_15 ?_
    cases hf
    exact kr _ _ _ _ hw rfl dX9_which_18
  · have hf := sn_el c_3 hf
    refine lv_iload_n hx hb dX9_which_10 rfl (lv_at hl 0 rfl) ?_
    refine lv_goto (tgt := 18) hx hb dX9_which_11 (by decide) ?_
    cases hf
    exact kr _ _ _ _ hw rfl dX9_which_18
theorem ctX9_which (l : Launch) {σ : sn_S} {x1 : Int32}  {o : (Int32 × sn_S)} (hf : fX9_which σ x1 = some o) : sn_M l yX9_which cX9_which 3 (some .int) rmX9_which layM (fun ad => [.ref (ad 0), .int x1]) σ (some (fun _ => .int o.1)) o.2 :=
  sn_met (by decide) (fun _ => Nat.le_of_ble_eq_true rfl) (fun p e s m args below meth c ls D ct ad A C hw hl => wX9_which_in C  hf (fun H locs ls pc hw ok hd => sn_iret C hw hd) _ _ _ hw hl)
-- X9_when
abbrev rmX9_when : Room := { frames := 5, cells := 0, slots := 0, locals := 120 }
def BX9_when_47 (σ : sn_S) (x3 : Int32) : Option ((Int32 × sn_S)) :=
  (some (x3, σ))
def BX9_when_17 (σ : sn_S) (x3 : Int32) (x4 : Int32) : Option ((Int32 × Int32) ⊕ (Int32)) :=
  (if (sn_I σ 0 36) ≤ x4 then
  (some (.inr (x3)))
  else
  (sn_gd (sn_in x4 270) (sn_lt (x3 ||| ((1 : Int32) <<< (((sn_I σ 19 x4.toNatClampNeg) / (10 : Int32)) &&& 31))) fun y_3 => (sn_lt (x4 + 1) fun y_5 => (some (.inl (y_3, y_5)))))))
def LX9_when_17 (σ : sn_S) (s : Int32 × Int32) : Option ((Int32 × Int32) ⊕ (Int32)) := BX9_when_17 σ s.1 s.2
def fX9_when (σ : sn_S) (x1 : Int32) : Option (Int32 × sn_S) :=
  ((fX9_layPairs σ x1).bind fun t_1 => (if 0 ≤ t_1.1 then
  ((sn_it (LX9_when_17 t_1.2) 5000 ((0 : Int32), (0 : Int32))).bind fun t_4 => (BX9_when_47 t_1.2 t_4))
  else
  (some (t_1.1, t_1.2))))
theorem wX9_when_47 (C : sn_C p s m args meth c RX9 cX9_when 5 (some .int) D ct ad layM A) {σ : sn_S} {x3 : Int32}  {o : (Int32 × sn_S)} (hf : BX9_when_47 σ x3 = some o) (kr : sn_Kr p l e rmX9_when s m args below meth c Q D ct ad layM A cX9_when .ireturn (true) o.2 [.int o.1]) : sn_At p l e rmX9_when s m args below meth c Q D ct ad layM A 5 σ 47 [(3, .int x3)] [] := by
  intro H locs ls hw hl
  have hx := C.1
  have hb := C.2.1
  unfold BX9_when_47 at hf
  refine lv_iload_n hx hb dX9_when_47 rfl (lv_at hl 0 rfl) ?_
  cases hf
  exact kr _ _ _ _ hw rfl dX9_when_48
theorem wX9_when_17 (C : sn_C p s m args meth c RX9 cX9_when 5 (some .int) D ct ad layM A) {σ : sn_S} {x3 : Int32} {x4 : Int32}  {o : (Int32 × Int32) ⊕ (Int32)} (hf : BX9_when_17 σ x3 x4 = some o) (kc : ∀ v, o = .inl v → sn_At p l e rmX9_when s m args below meth c Q D ct ad layM A 5 σ 17 [(0, .ref (ad 0)), (3, .int v.1), (4, .int v.2)] []) (kx : ∀ v, o = .inr v → sn_At p l e rmX9_when s m args below meth c Q D ct ad layM A 5 σ 47 [(3, .int v)] []) : sn_At p l e rmX9_when s m args below meth c Q D ct ad layM A 5 σ 17 [(0, .ref (ad 0)), (3, .int x3), (4, .int x4)] [] := by
  intro H locs ls hw hl
  have hx := C.1
  have hb := C.2.1
  unfold BX9_when_17 at hf
  refine lv_iload hx hb dX9_when_17 (lv_at hl 2 rfl) ?_
  refine lv_aload_n hx hb dX9_when_19 rfl (lv_at hl 0 rfl) ?_
  refine sn_getI C hw fd_RX9_372 layM_0 rfl dX9_when_20 ?_
  refine lv_icmp_ge (tgt := 47) hx hb dX9_when_23 (by decide) (fun c_1 => ?_) (fun c_1 => ?_)
  · have hf := sn_if c_1 hf
    cases hf
    exact kx _ rfl _ _ _ hw (lv_sub hl [1] rfl)
  · have hf := sn_el c_1 hf
    refine lv_iload_n hx hb dX9_when_26 rfl (lv_at hl 1 rfl) ?_
    refine lv_iconst (v := 1) hx hb dX9_when_27 rfl ?_
    refine lv_aload_n hx hb dX9_when_28 rfl (lv_at hl 0 rfl) ?_
    refine sn_getC (r := 19) C hw fd_RX9_70 layM_0 rfl dX9_when_29 ?_
    refine lv_iload hx hb dX9_when_32 (lv_at hl 2 rfl) ?_
    obtain ⟨g_2, hf⟩ := sn_gdE hf
    refine sn_iald C hw layM_19 g_2 dX9_when_34 ?_
    refine lv_bipush (v := 10) hx hb dX9_when_35 (by decide) ?_
    refine lv_idiv hx hb dX9_when_37 (by decide) ?_
    refine lv_ishl hx hb dX9_when_38 ?_
    refine lv_ior hx hb dX9_when_39 ?_
    obtain ⟨y_3, e_4, hf⟩ := sn_ltE hf
    refine lv_topi (fun y_3_ e_4_ => ?_)
    obtain rfl : y_3 = y_3_ := e_4.trans e_4_.symm
    refine lv_istore_n (lv' := [(3, .int y_3), (0, .ref (ad 0)), (4, .int x4)]) hx hb dX9_when_40 rfl hl (by decide) rfl (fun ls hl => ?_)
    obtain ⟨y_5, e_6, hf⟩ := sn_ltE hf
    refine lv_iinc (v := y_5) (lv' := [(4, .int y_5), (3, .int y_3), (0, .ref (ad 0))]) hx hb dX9_when_41 hl (k := 2) rfl (by rw [e_6]; rfl) (by decide) rfl (fun ls hl => ?_)
    refine lv_goto (tgt := 17) hx hb dX9_when_44 (by decide) ?_
    cases hf
    exact kc _ rfl _ _ _ hw (lv_sub hl [2, 1, 0] rfl)
theorem wX9_when_L17 (C : sn_C p s m args meth c RX9 cX9_when 5 (some .int) D ct ad layM A) {σ : sn_S}   {z : Int32 × Int32} {t : Int32} (h : sn_it (LX9_when_17 σ) 5000 z = some t) (kx : ∀ v, t = v → sn_At p l e rmX9_when s m args below meth c Q D ct ad layM A 5 σ 47 [(3, .int v)] []) : sn_At p l e rmX9_when s m args below meth c Q D ct ad layM A 5 σ 17 [(0, .ref (ad 0)), (3, .int z.1), (4, .int z.2)] [] :=
  sn_loop (f := LX9_when_17 σ) (G := fun z => sn_At p l e rmX9_when s m args below meth c Q D ct ad layM A 5 σ 17 [(0, .ref (ad 0)), (3, .int z.1), (4, .int z.2)] []) (E := fun t => (∀ v, t = v → sn_At p l e rmX9_when s m args below meth c Q D ct ad layM A 5 σ 47 [(3, .int v)] []) ∧ True) (fun z o hf k1 k2 => wX9_when_17 C  hf (fun v e => k1 v e) (fun v e => (k2 _ e).1 v rfl)) 5000 z t h ⟨kx, trivial⟩
theorem wX9_when_in (C : sn_C p s m args meth c RX9 cX9_when 5 (some .int) D ct ad layM A) {σ : sn_S} {x1 : Int32}  {o : (Int32 × sn_S)} (hf : fX9_when σ x1 = some o) (kr : sn_Kr p l e rmX9_when s m args below meth c Q D ct ad layM A cX9_when .ireturn (true) o.2 [.int o.1]) : sn_At p l e rmX9_when s m args below meth c Q D ct ad layM A 5 σ 0 [(0, .ref (ad 0)), (1, .int x1)] [] := by
  intro H locs ls hw hl
  have hx := C.1
  have hb := C.2.1
  unfold fX9_when at hf
  refine lv_aload_n hx hb dX9_when_0 rfl (lv_at hl 0 rfl) ?_
  refine lv_iload_n hx hb dX9_when_1 rfl (lv_at hl 1 rfl) ?_
  obtain ⟨t_1, h_2, hf⟩ := sn_bd hf
  refine sn_callVi (rest := []) C hw (ctX9_layPairs l  h_2) kl_RX9_375 layM_0 rfl rfl rfl rfl (Nat.le_of_ble_eq_true rfl) dX9_when_2 hl.1 (fun H locs hw => ?_)
  refine lv_istore_n (lv' := [(2, .int t_1.1), (0, .ref (ad 0)), (1, .int x1)]) hx hb dX9_when_5 rfl hl (by decide) rfl (fun ls hl => ?_)
  refine lv_iload_n hx hb dX9_when_6 rfl (lv_at hl 0 rfl) ?_
  refine lv_if_ge (tgt := 12) hx hb dX9_when_7 (by decide) (fun c_3 => ?_) (fun c_3 => ?_)
  · have hf := sn_if c_3 hf
    refine lv_iconst (v := 0) hx hb dX9_when_12 rfl ?_
    refine lv_istore_n (lv' := [(3, .int (0 : Int32)), (2, .int t_1.1), (0, .ref (ad 0)), (1, .int x1)]) hx hb dX9_when_13 rfl hl (by decide) rfl (fun ls hl => ?_)
    refine lv_iconst (v := 0) hx hb dX9_when_14 rfl ?_
    refine lv_istore (lv' := [(4, .int (0 : Int32)), (3, .int (0 : Int32)), (2, .int t_1.1), (0, .ref (ad 0)), (1, .int x1)]) hx hb dX9_when_15 hl (by decide) rfl (fun ls hl => ?_)
    obtain ⟨t_4, h_5, hf⟩ := sn_bd hf
    exact wX9_when_L17 C  h_5 (fun v e => by cases e; exact wX9_when_47 C  hf kr) _ _ _ hw (lv_sub hl [3, 1, 0] rfl)
  · have hf := sn_el c_3 hf
    refine lv_iload_n hx hb dX9_when_10 rfl (lv_at hl 0 rfl) ?_
    cases hf
    exact kr _ _ _ _ hw rfl dX9_when_11
theorem ctX9_when (l : Launch) {σ : sn_S} {x1 : Int32}  {o : (Int32 × sn_S)} (hf : fX9_when σ x1 = some o) : sn_M l yX9_when cX9_when 5 (some .int) rmX9_when layM (fun ad => [.ref (ad 0), .int x1]) σ (some (fun _ => .int o.1)) o.2 :=
  sn_met (by decide) (fun _ => Nat.le_of_ble_eq_true rfl) (fun p e s m args below meth c ls D ct ad A C hw hl => wX9_when_in C  hf (fun H locs ls pc hw ok hd => sn_iret C hw hd) _ _ _ hw hl)
-- X9_gust
abbrev rmX9_gust : Room := { frames := 5, cells := 0, slots := 0, locals := 120 }
def fX9_gust (σ : sn_S) (x1 : Int32) : Option (Int32 × sn_S) :=
  ((fX9_layPairs σ x1).bind fun t_1 => (if 0 ≤ t_1.1 then
  (if (sn_I t_1.2 0 36) = 0 then
  (some ((-1 : Int32), t_1.2))
  else
  (sn_gd (sn_in (0 : Int32) 270) (some ((sn_I t_1.2 19 (0 : Int32).toNatClampNeg), t_1.2))))
  else
  (some (t_1.1, t_1.2))))
theorem wX9_gust_in (C : sn_C p s m args meth c RX9 cX9_gust 3 (some .int) D ct ad layM A) {σ : sn_S} {x1 : Int32}  {o : (Int32 × sn_S)} (hf : fX9_gust σ x1 = some o) (kr : sn_Kr p l e rmX9_gust s m args below meth c Q D ct ad layM A cX9_gust .ireturn (true) o.2 [.int o.1]) : sn_At p l e rmX9_gust s m args below meth c Q D ct ad layM A 3 σ 0 [(0, .ref (ad 0)), (1, .int x1)] [] := by
  intro H locs ls hw hl
  have hx := C.1
  have hb := C.2.1
  unfold fX9_gust at hf
  refine lv_aload_n hx hb dX9_gust_0 rfl (lv_at hl 0 rfl) ?_
  refine lv_iload_n hx hb dX9_gust_1 rfl (lv_at hl 1 rfl) ?_
  obtain ⟨t_1, h_2, hf⟩ := sn_bd hf
  refine sn_callVi (rest := []) C hw (ctX9_layPairs l  h_2) kl_RX9_375 layM_0 rfl rfl rfl rfl (Nat.le_of_ble_eq_true rfl) dX9_gust_2 hl.1 (fun H locs hw => ?_)
  refine lv_istore_n (lv' := [(2, .int t_1.1), (0, .ref (ad 0)), (1, .int x1)]) hx hb dX9_gust_5 rfl hl (by decide) rfl (fun ls hl => ?_)
  refine lv_iload_n hx hb dX9_gust_6 rfl (lv_at hl 0 rfl) ?_
  refine lv_if_ge (tgt := 12) hx hb dX9_gust_7 (by decide) (fun c_3 => ?_) (fun c_3 => ?_)
  · have hf := sn_if c_3 hf
    refine lv_aload_n hx hb dX9_gust_12 rfl (lv_at hl 1 rfl) ?_
    refine sn_getI C hw fd_RX9_372 layM_0 rfl dX9_gust_13 ?_
    refine lv_if_ne (tgt := 23) hx hb dX9_gust_16 (by decide) (fun c_4 => ?_) (fun c_4 => ?_)
    · have hf := sn_el c_4 hf
      refine lv_aload_n hx hb dX9_gust_23 rfl (lv_at hl 1 rfl) ?_
      refine sn_getC (r := 19) C hw fd_RX9_70 layM_0 rfl dX9_gust_24 ?_
      refine lv_iconst (v := 0) hx hb dX9_gust_27 rfl ?_
      obtain ⟨g_5, hf⟩ := sn_gdE hf
      refine sn_iald C hw layM_19 g_5 dX9_gust_28 ?_
      cases hf
      exact kr _ _ _ _ hw rfl dX9_gust_29
    · have hf := sn_if c_4 hf
      refine lv_iconst (v := (-1)) hx hb dX9_gust_19 rfl ?_
      refine lv_goto (tgt := 29) hx hb dX9_gust_20 (by decide) ?_
      cases hf
      exact kr _ _ _ _ hw rfl dX9_gust_29
  · have hf := sn_el c_3 hf
    refine lv_iload_n hx hb dX9_gust_10 rfl (lv_at hl 0 rfl) ?_
    cases hf
    exact kr _ _ _ _ hw rfl dX9_gust_11
theorem ctX9_gust (l : Launch) {σ : sn_S} {x1 : Int32}  {o : (Int32 × sn_S)} (hf : fX9_gust σ x1 = some o) : sn_M l yX9_gust cX9_gust 3 (some .int) rmX9_gust layM (fun ad => [.ref (ad 0), .int x1]) σ (some (fun _ => .int o.1)) o.2 :=
  sn_met (by decide) (fun _ => Nat.le_of_ble_eq_true rfl) (fun p e s m args below meth c ls D ct ad A C hw hl => wX9_gust_in C  hf (fun H locs ls pc hw ok hd => sn_iret C hw hd) _ _ _ hw hl)
-- X9_askOf
abbrev rmX9_askOf : Room := { frames := 1, cells := 0, slots := 0, locals := 32 }
def BX9_askOf_119 (σ : sn_S) (x1 : Int32) : Option ((Int32 × sn_S)) :=
  (some (x1, σ))
def BX9_askOf_113 (σ : sn_S) (x1 : Int32) (x2 : Int32) : Option ((sn_S × Int32 × Int32) ⊕ (sn_S × Int32)) :=
  (sn_lt (x2 + 1) fun y_1 => (some (.inl (σ, x1, y_1))))
def BX9_askOf_95 (σ : sn_S) (x1 : Int32) (x2 : Int32) (x3 : Int32) : Option ((sn_S × Int32 × Int32) ⊕ (sn_S × Int32)) :=
  (if x3 < (sn_I σ 0 37) then
  (sn_lt (sn_pI σ 0 37 x3) fun σ_2 => (BX9_askOf_113 σ_2 x2 x2))
  else
  (BX9_askOf_113 σ x1 x2))
def BX9_askOf_82 (σ : sn_S) (x1 : Int32) (x2 : Int32) (x3 : Int32) (x4 : Int32) (x5 : Int32) : Option ((Int32 × Int32) ⊕ (Int32)) :=
  (sn_lt (if x3 < x5 then x5 else x3) fun y_1 => (sn_lt (x4 + 1) fun y_3 => (some (.inl (y_1, y_3)))))
def BX9_askOf_73 (σ : sn_S) (x1 : Int32) (x2 : Int32) (x3 : Int32) (x4 : Int32) (x5 : Int32) (x6 : Int32) (t0 : Int32) (t1 : Int32) : Option ((Int32 × Int32) ⊕ (Int32)) :=
  (sn_lt (t0 + t1) fun y_1 => (sn_lt (x6 + 1) fun y_3 => (some (.inl (y_1, y_3)))))
def BX9_askOf_40 (σ : sn_S) (x1 : Int32) (x2 : Int32) (x3 : Int32) (x4 : Int32) (x5 : Int32) (x6 : Int32) : Option ((Int32 × Int32) ⊕ (Int32)) :=
  (if (sn_I σ 0 36) ≤ x6 then
  (some (.inr (x5)))
  else
  (sn_gd (sn_in (((6 : Int32) * x6) + x2) 1620) (if (sn_I σ 20 (((6 : Int32) * x6) + x2).toNatClampNeg) = x4 then
  (BX9_askOf_73 σ x1 x2 x3 x4 x5 x6 x5 (1 : Int32))
  else
  (BX9_askOf_73 σ x1 x2 x3 x4 x5 x6 x5 (0 : Int32)))))
def LX9_askOf_40 (σ : sn_S) (x1 : Int32) (x2 : Int32) (x3 : Int32) (x4 : Int32) (s : Int32 × Int32) : Option ((Int32 × Int32) ⊕ (Int32)) := BX9_askOf_40 σ x1 x2 x3 x4 s.1 s.2
def BX9_askOf_27 (σ : sn_S) (x1 : Int32) (x2 : Int32) (x3 : Int32) (x4 : Int32) : Option ((Int32 × Int32) ⊕ (Int32)) :=
  (if (30 : Int32) < x4 then
  (some (.inr (x3)))
  else
  ((sn_it (LX9_askOf_40 σ x1 x2 x3 x4) 5000 ((0 : Int32), (0 : Int32))).bind fun t_2 => (BX9_askOf_82 σ x1 x2 x3 x4 t_2)))
def LX9_askOf_27 (σ : sn_S) (x1 : Int32) (x2 : Int32) (s : Int32 × Int32) : Option ((Int32 × Int32) ⊕ (Int32)) := BX9_askOf_27 σ x1 x2 s.1 s.2
def BX9_askOf_12 (σ : sn_S) (x1 : Int32) (x2 : Int32) : Option ((sn_S × Int32 × Int32) ⊕ (sn_S × Int32)) :=
  (sn_gd (sn_in (5 : Int32) 119) (if (sn_I σ 1 (5 : Int32).toNatClampNeg) ≤ x2 then
  (some (.inr (σ, x1)))
  else
  ((sn_it (LX9_askOf_27 σ x1 x2) 5000 ((0 : Int32), (0 : Int32))).bind fun t_3 => (BX9_askOf_95 σ x1 x2 t_3))))
def LX9_askOf_12  (s : sn_S × Int32 × Int32) : Option ((sn_S × Int32 × Int32) ⊕ (sn_S × Int32)) := BX9_askOf_12 s.1 s.2.1 s.2.2
def fX9_askOf (σ : sn_S) : Option (Int32 × sn_S) :=
  (sn_lt (sn_pI σ 0 37 (sn_I σ 0 36)) fun σ_1 => ((sn_it (LX9_askOf_12 ) 5000 (σ_1, (-1 : Int32), (0 : Int32))).bind fun t_3 => (BX9_askOf_119 t_3.1 t_3.2)))
theorem wX9_askOf_119 (C : sn_C p s m args meth c RX9 cX9_askOf 7 (some .int) D ct ad layM A) {σ : sn_S} {x1 : Int32}  {o : (Int32 × sn_S)} (hf : BX9_askOf_119 σ x1 = some o) (kr : sn_Kr p l e rmX9_askOf s m args below meth c Q D ct ad layM A cX9_askOf .ireturn (true) o.2 [.int o.1]) : sn_At p l e rmX9_askOf s m args below meth c Q D ct ad layM A 7 σ 119 [(1, .int x1)] [] := by
  intro H locs ls hw hl
  have hx := C.1
  have hb := C.2.1
  unfold BX9_askOf_119 at hf
  refine lv_iload_n hx hb dX9_askOf_119 rfl (lv_at hl 0 rfl) ?_
  cases hf
  exact kr _ _ _ _ hw rfl dX9_askOf_120
theorem wX9_askOf_113 (C : sn_C p s m args meth c RX9 cX9_askOf 7 (some .int) D ct ad layM A) {σ : sn_S} {x1 : Int32} {x2 : Int32}  {o : (sn_S × Int32 × Int32) ⊕ (sn_S × Int32)} (hf : BX9_askOf_113 σ x1 x2 = some o) (kc : ∀ v, o = .inl v → sn_At p l e rmX9_askOf s m args below meth c Q D ct ad layM A 7 v.1 12 [(0, .ref (ad 0)), (1, .int v.2.1), (2, .int v.2.2)] []) (kx : ∀ v, o = .inr v → sn_At p l e rmX9_askOf s m args below meth c Q D ct ad layM A 7 v.1 119 [(1, .int v.2)] []) : sn_At p l e rmX9_askOf s m args below meth c Q D ct ad layM A 7 σ 113 [(0, .ref (ad 0)), (1, .int x1), (2, .int x2)] [] := by
  intro H locs ls hw hl
  have hx := C.1
  have hb := C.2.1
  unfold BX9_askOf_113 at hf
  obtain ⟨y_1, e_2, hf⟩ := sn_ltE hf
  refine lv_iinc (v := y_1) (lv' := [(2, .int y_1), (0, .ref (ad 0)), (1, .int x1)]) hx hb dX9_askOf_113 hl (k := 2) rfl (by rw [e_2]; rfl) (by decide) rfl (fun ls hl => ?_)
  refine lv_goto (tgt := 12) hx hb dX9_askOf_116 (by decide) ?_
  cases hf
  exact kc _ rfl _ _ _ hw (lv_sub hl [1, 2, 0] rfl)
theorem wX9_askOf_95 (C : sn_C p s m args meth c RX9 cX9_askOf 7 (some .int) D ct ad layM A) {σ : sn_S} {x1 : Int32} {x2 : Int32} {x3 : Int32}  {o : (sn_S × Int32 × Int32) ⊕ (sn_S × Int32)} (hf : BX9_askOf_95 σ x1 x2 x3 = some o) (kc : ∀ v, o = .inl v → sn_At p l e rmX9_askOf s m args below meth c Q D ct ad layM A 7 v.1 12 [(0, .ref (ad 0)), (1, .int v.2.1), (2, .int v.2.2)] []) (kx : ∀ v, o = .inr v → sn_At p l e rmX9_askOf s m args below meth c Q D ct ad layM A 7 v.1 119 [(1, .int v.2)] []) : sn_At p l e rmX9_askOf s m args below meth c Q D ct ad layM A 7 σ 95 [(0, .ref (ad 0)), (1, .int x1), (2, .int x2), (3, .int x3)] [] := by
  intro H locs ls hw hl
  have hx := C.1
  have hb := C.2.1
  unfold BX9_askOf_95 at hf
  refine lv_iload_n hx hb dX9_askOf_95 rfl (lv_at hl 3 rfl) ?_
  refine lv_aload_n hx hb dX9_askOf_96 rfl (lv_at hl 0 rfl) ?_
  refine sn_getI C hw fd_RX9_378 layM_0 rfl dX9_askOf_97 ?_
  refine lv_icmp_lt (tgt := 106) hx hb dX9_askOf_100 (by decide) (fun c_1 => ?_) (fun c_1 => ?_)
  · have hf := sn_if c_1 hf
    refine lv_aload_n hx hb dX9_askOf_106 rfl (lv_at hl 0 rfl) ?_
    refine lv_iload_n hx hb dX9_askOf_107 rfl (lv_at hl 3 rfl) ?_
    refine sn_putI C hw fp_RX9_378 layM_0 rfl dX9_askOf_108 (fun H locs hw => ?_)
    obtain ⟨σ_2, e_3, hf⟩ := sn_ltE hf
    rw [← e_3] at hw
    refine lv_iload_n hx hb dX9_askOf_111 rfl (lv_at hl 2 rfl) ?_
    refine lv_istore_n (lv' := [(1, .int x2), (0, .ref (ad 0)), (2, .int x2), (3, .int x3)]) hx hb dX9_askOf_112 rfl hl (by decide) rfl (fun ls hl => ?_)
    exact wX9_askOf_113 C  hf kc kx _ _ _ hw (lv_sub hl [1, 0, 2] rfl)
  · have hf := sn_el c_1 hf
    refine lv_goto (tgt := 113) hx hb dX9_askOf_103 (by decide) ?_
    exact wX9_askOf_113 C  hf kc kx _ _ _ hw (lv_sub hl [0, 1, 2] rfl)
theorem wX9_askOf_82 (C : sn_C p s m args meth c RX9 cX9_askOf 7 (some .int) D ct ad layM A) {σ : sn_S} {x1 : Int32} {x2 : Int32} {x3 : Int32} {x4 : Int32} {x5 : Int32}  {o : (Int32 × Int32) ⊕ (Int32)} (hf : BX9_askOf_82 σ x1 x2 x3 x4 x5 = some o) (kc : ∀ v, o = .inl v → sn_At p l e rmX9_askOf s m args below meth c Q D ct ad layM A 7 σ 27 [(0, .ref (ad 0)), (1, .int x1), (2, .int x2), (3, .int v.1), (4, .int v.2)] []) (kx : ∀ v, o = .inr v → sn_At p l e rmX9_askOf s m args below meth c Q D ct ad layM A 7 σ 95 [(0, .ref (ad 0)), (1, .int x1), (2, .int x2), (3, .int v)] []) : sn_At p l e rmX9_askOf s m args below meth c Q D ct ad layM A 7 σ 82 [(0, .ref (ad 0)), (1, .int x1), (2, .int x2), (3, .int x3), (4, .int x4), (5, .int x5)] [] := by
  intro H locs ls hw hl
  have hx := C.1
  have hb := C.2.1
  unfold BX9_askOf_82 at hf
  refine lv_iload_n hx hb dX9_askOf_82 rfl (lv_at hl 3 rfl) ?_
  refine lv_iload hx hb dX9_askOf_83 (lv_at hl 5 rfl) ?_
  refine va_mmax hx hb (C.2.2.1.trans hl.1.symm) C.2.2.2.1 (C.2.2.2.2.1 _ km_RX9_293) (C.2.2.2.2.1 _ kst_maxI) (C.2.2.2.2.1 _ ki_Math) (C.2.2.2.2.1 _ kc_maxI) (Nat.le_of_ble_eq_true rfl) (Nat.le_of_ble_eq_true rfl) (Nat.zero_le _) (Nat.zero_le _) dX9_askOf_85 ?_
  obtain ⟨y_1, e_2, hf⟩ := sn_ltE hf
  refine lv_topi (fun y_1_ e_2_ => ?_)
  obtain rfl : y_1 = y_1_ := e_2.trans e_2_.symm
  refine lv_istore_n (lv' := [(3, .int y_1), (0, .ref (ad 0)), (1, .int x1), (2, .int x2), (4, .int x4), (5, .int x5)]) hx hb dX9_askOf_88 rfl hl (by decide) rfl (fun ls hl => ?_)
  obtain ⟨y_3, e_4, hf⟩ := sn_ltE hf
  refine lv_iinc (v := y_3) (lv' := [(4, .int y_3), (3, .int y_1), (0, .ref (ad 0)), (1, .int x1), (2, .int x2), (5, .int x5)]) hx hb dX9_askOf_89 hl (k := 4) rfl (by rw [e_4]; rfl) (by decide) rfl (fun ls hl => ?_)
  refine lv_goto (tgt := 27) hx hb dX9_askOf_92 (by decide) ?_
  cases hf
  exact kc _ rfl _ _ _ hw (lv_sub hl [2, 3, 4, 1, 0] rfl)
theorem wX9_askOf_73 (C : sn_C p s m args meth c RX9 cX9_askOf 7 (some .int) D ct ad layM A) {σ : sn_S} {x1 : Int32} {x2 : Int32} {x3 : Int32} {x4 : Int32} {x5 : Int32} {x6 : Int32} {t0 : Int32} {t1 : Int32}  {o : (Int32 × Int32) ⊕ (Int32)} (hf : BX9_askOf_73 σ x1 x2 x3 x4 x5 x6 t0 t1 = some o) (kc : ∀ v, o = .inl v → sn_At p l e rmX9_askOf s m args below meth c Q D ct ad layM A 7 σ 40 [(0, .ref (ad 0)), (1, .int x1), (2, .int x2), (3, .int x3), (4, .int x4), (5, .int v.1), (6, .int v.2)] []) (kx : ∀ v, o = .inr v → sn_At p l e rmX9_askOf s m args below meth c Q D ct ad layM A 7 σ 82 [(0, .ref (ad 0)), (1, .int x1), (2, .int x2), (3, .int x3), (4, .int x4), (5, .int v)] []) : sn_At p l e rmX9_askOf s m args below meth c Q D ct ad layM A 7 σ 73 [(0, .ref (ad 0)), (1, .int x1), (2, .int x2), (3, .int x3), (4, .int x4), (5, .int x5), (6, .int x6)] [.int t1, .int t0] := by
  intro H locs ls hw hl
  have hx := C.1
  have hb := C.2.1
  unfold BX9_askOf_73 at hf
  refine lv_iadd hx hb dX9_askOf_73 ?_
  obtain ⟨y_1, e_2, hf⟩ := sn_ltE hf
  refine lv_topi (fun y_1_ e_2_ => ?_)
  obtain rfl : y_1 = y_1_ := e_2.trans e_2_.symm
  refine lv_istore (lv' := [(5, .int y_1), (0, .ref (ad 0)), (1, .int x1), (2, .int x2), (3, .int x3), (4, .int x4), (6, .int x6)]) hx hb dX9_askOf_74 hl (by decide) rfl (fun ls hl => ?_)
  obtain ⟨y_3, e_4, hf⟩ := sn_ltE hf
  refine lv_iinc (v := y_3) (lv' := [(6, .int y_3), (5, .int y_1), (0, .ref (ad 0)), (1, .int x1), (2, .int x2), (3, .int x3), (4, .int x4)]) hx hb dX9_askOf_76 hl (k := 6) rfl (by rw [e_4]; rfl) (by decide) rfl (fun ls hl => ?_)
  refine lv_goto (tgt := 40) hx hb dX9_askOf_79 (by decide) ?_
  cases hf
  exact kc _ rfl _ _ _ hw (lv_sub hl [2, 3, 4, 5, 6, 1, 0] rfl)
theorem wX9_askOf_40 (C : sn_C p s m args meth c RX9 cX9_askOf 7 (some .int) D ct ad layM A) {σ : sn_S} {x1 : Int32} {x2 : Int32} {x3 : Int32} {x4 : Int32} {x5 : Int32} {x6 : Int32}  {o : (Int32 × Int32) ⊕ (Int32)} (hf : BX9_askOf_40 σ x1 x2 x3 x4 x5 x6 = some o) (kc : ∀ v, o = .inl v → sn_At p l e rmX9_askOf s m args below meth c Q D ct ad layM A 7 σ 40 [(0, .ref (ad 0)), (1, .int x1), (2, .int x2), (3, .int x3), (4, .int x4), (5, .int v.1), (6, .int v.2)] []) (kx : ∀ v, o = .inr v → sn_At p l e rmX9_askOf s m args below meth c Q D ct ad layM A 7 σ 82 [(0, .ref (ad 0)), (1, .int x1), (2, .int x2), (3, .int x3), (4, .int x4), (5, .int v)] []) : sn_At p l e rmX9_askOf s m args below meth c Q D ct ad layM A 7 σ 40 [(0, .ref (ad 0)), (1, .int x1), (2, .int x2), (3, .int x3), (4, .int x4), (5, .int x5), (6, .int x6)] [] := by
  intro H locs ls hw hl
  have hx := C.1
  have hb := C.2.1
  unfold BX9_askOf_40 at hf
  refine lv_iload hx hb dX9_askOf_40 (lv_at hl 6 rfl) ?_
  refine lv_aload_n hx hb dX9_askOf_42 rfl (lv_at hl 0 rfl) ?_
  refine sn_getI C hw fd_RX9_372 layM_0 rfl dX9_askOf_43 ?_
  refine lv_icmp_ge (tgt := 82) hx hb dX9_askOf_46 (by decide) (fun c_1 => ?_) (fun c_1 => ?_)
  · have hf := sn_if c_1 hf
    cases hf
    exact kx _ rfl _ _ _ hw (lv_sub hl [0, 1, 2, 3, 4, 5] rfl)
  · have hf := sn_el c_1 hf
    refine lv_iload hx hb dX9_askOf_49 (lv_at hl 5 rfl) ?_
    refine lv_aload_n hx hb dX9_askOf_51 rfl (lv_at hl 0 rfl) ?_
    refine sn_getC (r := 20) C hw fd_RX9_73 layM_0 rfl dX9_askOf_52 ?_
    refine lv_bipush (v := 6) hx hb dX9_askOf_55 (by decide) ?_
    refine lv_iload hx hb dX9_askOf_57 (lv_at hl 6 rfl) ?_
    refine lv_imul hx hb dX9_askOf_59 ?_
    refine lv_iload_n hx hb dX9_askOf_60 rfl (lv_at hl 2 rfl) ?_
    refine lv_iadd hx hb dX9_askOf_61 ?_
    obtain ⟨g_2, hf⟩ := sn_gdE hf
    refine sn_iald C hw layM_20 g_2 dX9_askOf_62 ?_
    refine lv_iload hx hb dX9_askOf_63 (lv_at hl 4 rfl) ?_
    refine lv_icmp_ne (tgt := 72) hx hb dX9_askOf_65 (by decide) (fun c_3 => ?_) (fun c_3 => ?_)
    · have hf := sn_el c_3 hf
      refine lv_iconst (v := 0) hx hb dX9_askOf_72 rfl ?_
      exact wX9_askOf_73 C  hf kc kx _ _ _ hw (lv_sub hl [0, 1, 2, 3, 4, 5, 6] rfl)
    · have hf := sn_if c_3 hf
      refine lv_iconst (v := 1) hx hb dX9_askOf_68 rfl ?_
      refine lv_goto (tgt := 73) hx hb dX9_askOf_69 (by decide) ?_
      exact wX9_askOf_73 C  hf kc kx _ _ _ hw (lv_sub hl [0, 1, 2, 3, 4, 5, 6] rfl)
theorem wX9_askOf_L40 (C : sn_C p s m args meth c RX9 cX9_askOf 7 (some .int) D ct ad layM A) {σ : sn_S} {x1 : Int32} {x2 : Int32} {x3 : Int32} {x4 : Int32}   {z : Int32 × Int32} {t : Int32} (h : sn_it (LX9_askOf_40 σ x1 x2 x3 x4) 5000 z = some t) (kx : ∀ v, t = v → sn_At p l e rmX9_askOf s m args below meth c Q D ct ad layM A 7 σ 82 [(0, .ref (ad 0)), (1, .int x1), (2, .int x2), (3, .int x3), (4, .int x4), (5, .int v)] []) : sn_At p l e rmX9_askOf s m args below meth c Q D ct ad layM A 7 σ 40 [(0, .ref (ad 0)), (1, .int x1), (2, .int x2), (3, .int x3), (4, .int x4), (5, .int z.1), (6, .int z.2)] [] :=
  sn_loop (f := LX9_askOf_40 σ x1 x2 x3 x4) (G := fun z => sn_At p l e rmX9_askOf s m args below meth c Q D ct ad layM A 7 σ 40 [(0, .ref (ad 0)), (1, .int x1), (2, .int x2), (3, .int x3), (4, .int x4), (5, .int z.1), (6, .int z.2)] []) (E := fun t => (∀ v, t = v → sn_At p l e rmX9_askOf s m args below meth c Q D ct ad layM A 7 σ 82 [(0, .ref (ad 0)), (1, .int x1), (2, .int x2), (3, .int x3), (4, .int x4), (5, .int v)] []) ∧ True) (fun z o hf k1 k2 => wX9_askOf_40 C  hf (fun v e => k1 v e) (fun v e => (k2 _ e).1 v rfl)) 5000 z t h ⟨kx, trivial⟩
theorem wX9_askOf_27 (C : sn_C p s m args meth c RX9 cX9_askOf 7 (some .int) D ct ad layM A) {σ : sn_S} {x1 : Int32} {x2 : Int32} {x3 : Int32} {x4 : Int32}  {o : (Int32 × Int32) ⊕ (Int32)} (hf : BX9_askOf_27 σ x1 x2 x3 x4 = some o) (kc : ∀ v, o = .inl v → sn_At p l e rmX9_askOf s m args below meth c Q D ct ad layM A 7 σ 27 [(0, .ref (ad 0)), (1, .int x1), (2, .int x2), (3, .int v.1), (4, .int v.2)] []) (kx : ∀ v, o = .inr v → sn_At p l e rmX9_askOf s m args below meth c Q D ct ad layM A 7 σ 95 [(0, .ref (ad 0)), (1, .int x1), (2, .int x2), (3, .int v)] []) : sn_At p l e rmX9_askOf s m args below meth c Q D ct ad layM A 7 σ 27 [(0, .ref (ad 0)), (1, .int x1), (2, .int x2), (3, .int x3), (4, .int x4)] [] := by
  intro H locs ls hw hl
  have hx := C.1
  have hb := C.2.1
  unfold BX9_askOf_27 at hf
  refine lv_iload hx hb dX9_askOf_27 (lv_at hl 4 rfl) ?_
  refine lv_bipush (v := 30) hx hb dX9_askOf_29 (by decide) ?_
  refine lv_icmp_gt (tgt := 95) hx hb dX9_askOf_31 (by decide) (fun c_1 => ?_) (fun c_1 => ?_)
  · have hf := sn_if c_1 hf
    cases hf
    exact kx _ rfl _ _ _ hw (lv_sub hl [0, 1, 2, 3] rfl)
  · have hf := sn_el c_1 hf
    refine lv_iconst (v := 0) hx hb dX9_askOf_34 rfl ?_
    refine lv_istore (lv' := [(5, .int (0 : Int32)), (0, .ref (ad 0)), (1, .int x1), (2, .int x2), (3, .int x3), (4, .int x4)]) hx hb dX9_askOf_35 hl (by decide) rfl (fun ls hl => ?_)
    refine lv_iconst (v := 0) hx hb dX9_askOf_37 rfl ?_
    refine lv_istore (lv' := [(6, .int (0 : Int32)), (5, .int (0 : Int32)), (0, .ref (ad 0)), (1, .int x1), (2, .int x2), (3, .int x3), (4, .int x4)]) hx hb dX9_askOf_38 hl (by decide) rfl (fun ls hl => ?_)
    obtain ⟨t_2, h_3, hf⟩ := sn_bd hf
    exact wX9_askOf_L40 C  h_3 (fun v e => by cases e; exact wX9_askOf_82 C  hf kc kx) _ _ _ hw (lv_sub hl [2, 3, 4, 5, 6, 1, 0] rfl)
theorem wX9_askOf_L27 (C : sn_C p s m args meth c RX9 cX9_askOf 7 (some .int) D ct ad layM A) {σ : sn_S} {x1 : Int32} {x2 : Int32}   {z : Int32 × Int32} {t : Int32} (h : sn_it (LX9_askOf_27 σ x1 x2) 5000 z = some t) (kx : ∀ v, t = v → sn_At p l e rmX9_askOf s m args below meth c Q D ct ad layM A 7 σ 95 [(0, .ref (ad 0)), (1, .int x1), (2, .int x2), (3, .int v)] []) : sn_At p l e rmX9_askOf s m args below meth c Q D ct ad layM A 7 σ 27 [(0, .ref (ad 0)), (1, .int x1), (2, .int x2), (3, .int z.1), (4, .int z.2)] [] :=
  sn_loop (f := LX9_askOf_27 σ x1 x2) (G := fun z => sn_At p l e rmX9_askOf s m args below meth c Q D ct ad layM A 7 σ 27 [(0, .ref (ad 0)), (1, .int x1), (2, .int x2), (3, .int z.1), (4, .int z.2)] []) (E := fun t => (∀ v, t = v → sn_At p l e rmX9_askOf s m args below meth c Q D ct ad layM A 7 σ 95 [(0, .ref (ad 0)), (1, .int x1), (2, .int x2), (3, .int v)] []) ∧ True) (fun z o hf k1 k2 => wX9_askOf_27 C  hf (fun v e => k1 v e) (fun v e => (k2 _ e).1 v rfl)) 5000 z t h ⟨kx, trivial⟩
theorem wX9_askOf_12 (C : sn_C p s m args meth c RX9 cX9_askOf 7 (some .int) D ct ad layM A) {σ : sn_S} {x1 : Int32} {x2 : Int32}  {o : (sn_S × Int32 × Int32) ⊕ (sn_S × Int32)} (hf : BX9_askOf_12 σ x1 x2 = some o) (kc : ∀ v, o = .inl v → sn_At p l e rmX9_askOf s m args below meth c Q D ct ad layM A 7 v.1 12 [(0, .ref (ad 0)), (1, .int v.2.1), (2, .int v.2.2)] []) (kx : ∀ v, o = .inr v → sn_At p l e rmX9_askOf s m args below meth c Q D ct ad layM A 7 v.1 119 [(1, .int v.2)] []) : sn_At p l e rmX9_askOf s m args below meth c Q D ct ad layM A 7 σ 12 [(0, .ref (ad 0)), (1, .int x1), (2, .int x2)] [] := by
  intro H locs ls hw hl
  have hx := C.1
  have hb := C.2.1
  unfold BX9_askOf_12 at hf
  refine lv_iload_n hx hb dX9_askOf_12 rfl (lv_at hl 2 rfl) ?_
  refine lv_aload_n hx hb dX9_askOf_13 rfl (lv_at hl 0 rfl) ?_
  refine sn_getC (r := 1) C hw fd_RX9_9 layM_0 rfl dX9_askOf_14 ?_
  refine lv_iconst (v := 5) hx hb dX9_askOf_17 rfl ?_
  obtain ⟨g_1, hf⟩ := sn_gdE hf
  refine sn_iald C hw layM_1 g_1 dX9_askOf_18 ?_
  refine lv_icmp_ge (tgt := 119) hx hb dX9_askOf_19 (by decide) (fun c_2 => ?_) (fun c_2 => ?_)
  · have hf := sn_if c_2 hf
    cases hf
    exact kx _ rfl _ _ _ hw (lv_sub hl [1] rfl)
  · have hf := sn_el c_2 hf
    refine lv_iconst (v := 0) hx hb dX9_askOf_22 rfl ?_
    refine lv_istore_n (lv' := [(3, .int (0 : Int32)), (0, .ref (ad 0)), (1, .int x1), (2, .int x2)]) hx hb dX9_askOf_23 rfl hl (by decide) rfl (fun ls hl => ?_)
    refine lv_iconst (v := 0) hx hb dX9_askOf_24 rfl ?_
    refine lv_istore (lv' := [(4, .int (0 : Int32)), (3, .int (0 : Int32)), (0, .ref (ad 0)), (1, .int x1), (2, .int x2)]) hx hb dX9_askOf_25 hl (by decide) rfl (fun ls hl => ?_)
    obtain ⟨t_3, h_4, hf⟩ := sn_bd hf
    exact wX9_askOf_L27 C  h_4 (fun v e => by cases e; exact wX9_askOf_95 C  hf kc kx) _ _ _ hw (lv_sub hl [2, 3, 4, 1, 0] rfl)
theorem wX9_askOf_L12 (C : sn_C p s m args meth c RX9 cX9_askOf 7 (some .int) D ct ad layM A)    {z : sn_S × Int32 × Int32} {t : sn_S × Int32} (h : sn_it (LX9_askOf_12 ) 5000 z = some t) (kx : ∀ v, t = v → sn_At p l e rmX9_askOf s m args below meth c Q D ct ad layM A 7 v.1 119 [(1, .int v.2)] []) : sn_At p l e rmX9_askOf s m args below meth c Q D ct ad layM A 7 z.1 12 [(0, .ref (ad 0)), (1, .int z.2.1), (2, .int z.2.2)] [] :=
  sn_loop (f := LX9_askOf_12 ) (G := fun z => sn_At p l e rmX9_askOf s m args below meth c Q D ct ad layM A 7 z.1 12 [(0, .ref (ad 0)), (1, .int z.2.1), (2, .int z.2.2)] []) (E := fun t => (∀ v, t = v → sn_At p l e rmX9_askOf s m args below meth c Q D ct ad layM A 7 v.1 119 [(1, .int v.2)] []) ∧ True) (fun z o hf k1 k2 => wX9_askOf_12 C  hf (fun v e => k1 v e) (fun v e => (k2 _ e).1 v rfl)) 5000 z t h ⟨kx, trivial⟩
theorem wX9_askOf_in (C : sn_C p s m args meth c RX9 cX9_askOf 7 (some .int) D ct ad layM A) {σ : sn_S}  {o : (Int32 × sn_S)} (hf : fX9_askOf σ = some o) (kr : sn_Kr p l e rmX9_askOf s m args below meth c Q D ct ad layM A cX9_askOf .ireturn (true) o.2 [.int o.1]) : sn_At p l e rmX9_askOf s m args below meth c Q D ct ad layM A 7 σ 0 [(0, .ref (ad 0))] [] := by
  intro H locs ls hw hl
  have hx := C.1
  have hb := C.2.1
  unfold fX9_askOf at hf
  refine lv_aload_n hx hb dX9_askOf_0 rfl (lv_at hl 0 rfl) ?_
  refine lv_aload_n hx hb dX9_askOf_1 rfl (lv_at hl 0 rfl) ?_
  refine sn_getI C hw fd_RX9_372 layM_0 rfl dX9_askOf_2 ?_
  refine sn_putI C hw fp_RX9_378 layM_0 rfl dX9_askOf_5 (fun H locs hw => ?_)
  obtain ⟨σ_1, e_2, hf⟩ := sn_ltE hf
  rw [← e_2] at hw
  refine lv_iconst (v := (-1)) hx hb dX9_askOf_8 rfl ?_
  refine lv_istore_n (lv' := [(1, .int (-1 : Int32)), (0, .ref (ad 0))]) hx hb dX9_askOf_9 rfl hl (by decide) rfl (fun ls hl => ?_)
  refine lv_iconst (v := 0) hx hb dX9_askOf_10 rfl ?_
  refine lv_istore_n (lv' := [(2, .int (0 : Int32)), (1, .int (-1 : Int32)), (0, .ref (ad 0))]) hx hb dX9_askOf_11 rfl hl (by decide) rfl (fun ls hl => ?_)
  obtain ⟨t_3, h_4, hf⟩ := sn_bd hf
  exact wX9_askOf_L12 C  h_4 (fun v e => by cases e; exact wX9_askOf_119 C  hf kr) _ _ _ hw (lv_sub hl [2, 1, 0] rfl)
theorem ctX9_askOf (l : Launch) {σ : sn_S}  {o : (Int32 × sn_S)} (hf : fX9_askOf σ = some o) : sn_M l yX9_askOf cX9_askOf 7 (some .int) rmX9_askOf layM (fun ad => [.ref (ad 0)]) σ (some (fun _ => .int o.1)) o.2 :=
  sn_met (by decide) (fun _ => Nat.le_of_ble_eq_true rfl) (fun p e s m args below meth c ls D ct ad A C hw hl => wX9_askOf_in C  hf (fun H locs ls pc hw ok hd => sn_iret C hw hd) _ _ _ hw hl)
-- X9_ask
abbrev rmX9_ask : Room := { frames := 5, cells := 0, slots := 0, locals := 120 }
def fX9_ask (σ : sn_S) (x1 : Int32) : Option (Int32 × sn_S) :=
  ((fX9_layPairs σ x1).bind fun t_1 => (if 0 ≤ t_1.1 then
  ((fX9_askOf t_1.2).bind fun t_4 => (some (t_4.1, t_4.2)))
  else
  (some (t_1.1, t_1.2))))
theorem wX9_ask_in (C : sn_C p s m args meth c RX9 cX9_ask 3 (some .int) D ct ad layM A) {σ : sn_S} {x1 : Int32}  {o : (Int32 × sn_S)} (hf : fX9_ask σ x1 = some o) (kr : sn_Kr p l e rmX9_ask s m args below meth c Q D ct ad layM A cX9_ask .ireturn (true) o.2 [.int o.1]) : sn_At p l e rmX9_ask s m args below meth c Q D ct ad layM A 3 σ 0 [(0, .ref (ad 0)), (1, .int x1)] [] := by
  intro H locs ls hw hl
  have hx := C.1
  have hb := C.2.1
  unfold fX9_ask at hf
  refine lv_aload_n hx hb dX9_ask_0 rfl (lv_at hl 0 rfl) ?_
  refine lv_iload_n hx hb dX9_ask_1 rfl (lv_at hl 1 rfl) ?_
  obtain ⟨t_1, h_2, hf⟩ := sn_bd hf
  refine sn_callVi (rest := []) C hw (ctX9_layPairs l  h_2) kl_RX9_375 layM_0 rfl rfl rfl rfl (Nat.le_of_ble_eq_true rfl) dX9_ask_2 hl.1 (fun H locs hw => ?_)
  refine lv_istore_n (lv' := [(2, .int t_1.1), (0, .ref (ad 0)), (1, .int x1)]) hx hb dX9_ask_5 rfl hl (by decide) rfl (fun ls hl => ?_)
  refine lv_iload_n hx hb dX9_ask_6 rfl (lv_at hl 0 rfl) ?_
  refine lv_if_ge (tgt := 14) hx hb dX9_ask_7 (by decide) (fun c_3 => ?_) (fun c_3 => ?_)
  · have hf := sn_if c_3 hf
    refine lv_aload_n hx hb dX9_ask_14 rfl (lv_at hl 1 rfl) ?_
    obtain ⟨t_4, h_5, hf⟩ := sn_bd hf
    refine sn_callVi (rest := []) C hw (ctX9_askOf l  h_5) kl_RX9_381 layM_0 rfl rfl rfl rfl (Nat.le_of_ble_eq_true rfl) dX9_ask_15 hl.1 (fun H locs hw => ?_)
    cases hf
    exact kr _ _ _ _ hw rfl dX9_ask_18
  · have hf := sn_el c_3 hf
    refine lv_iload_n hx hb dX9_ask_10 rfl (lv_at hl 0 rfl) ?_
    refine lv_goto (tgt := 18) hx hb dX9_ask_11 (by decide) ?_
    cases hf
    exact kr _ _ _ _ hw rfl dX9_ask_18
theorem ctX9_ask (l : Launch) {σ : sn_S} {x1 : Int32}  {o : (Int32 × sn_S)} (hf : fX9_ask σ x1 = some o) : sn_M l yX9_ask cX9_ask 3 (some .int) rmX9_ask layM (fun ad => [.ref (ad 0), .int x1]) σ (some (fun _ => .int o.1)) o.2 :=
  sn_met (by decide) (fun _ => Nat.le_of_ble_eq_true rfl) (fun p e s m args below meth c ls D ct ad A C hw hl => wX9_ask_in C  hf (fun H locs ls pc hw ok hd => sn_iret C hw hd) _ _ _ hw hl)
-- X9_leaves
abbrev rmX9_leaves : Room := { frames := 5, cells := 0, slots := 0, locals := 120 }
def fX9_leaves (σ : sn_S) (x1 : Int32) : Option (Int32 × sn_S) :=
  ((fX9_layPairs σ x1).bind fun t_1 => (if 0 ≤ t_1.1 then
  ((fX9_askOf t_1.2).bind fun t_4 => (some ((sn_I t_4.2 0 37), t_4.2)))
  else
  (some (t_1.1, t_1.2))))
theorem wX9_leaves_in (C : sn_C p s m args meth c RX9 cX9_leaves 3 (some .int) D ct ad layM A) {σ : sn_S} {x1 : Int32}  {o : (Int32 × sn_S)} (hf : fX9_leaves σ x1 = some o) (kr : sn_Kr p l e rmX9_leaves s m args below meth c Q D ct ad layM A cX9_leaves .ireturn (true) o.2 [.int o.1]) : sn_At p l e rmX9_leaves s m args below meth c Q D ct ad layM A 3 σ 0 [(0, .ref (ad 0)), (1, .int x1)] [] := by
  intro H locs ls hw hl
  have hx := C.1
  have hb := C.2.1
  unfold fX9_leaves at hf
  refine lv_aload_n hx hb dX9_leaves_0 rfl (lv_at hl 0 rfl) ?_
  refine lv_iload_n hx hb dX9_leaves_1 rfl (lv_at hl 1 rfl) ?_
  obtain ⟨t_1, h_2, hf⟩ := sn_bd hf
  refine sn_callVi (rest := []) C hw (ctX9_layPairs l  h_2) kl_RX9_375 layM_0 rfl rfl rfl rfl (Nat.le_of_ble_eq_true rfl) dX9_leaves_2 hl.1 (fun H locs hw => ?_)
  refine lv_istore_n (lv' := [(2, .int t_1.1), (0, .ref (ad 0)), (1, .int x1)]) hx hb dX9_leaves_5 rfl hl (by decide) rfl (fun ls hl => ?_)
  refine lv_iload_n hx hb dX9_leaves_6 rfl (lv_at hl 0 rfl) ?_
  refine lv_if_ge (tgt := 12) hx hb dX9_leaves_7 (by decide) (fun c_3 => ?_) (fun c_3 => ?_)
  · have hf := sn_if c_3 hf
    refine lv_aload_n hx hb dX9_leaves_12 rfl (lv_at hl 1 rfl) ?_
    obtain ⟨t_4, h_5, hf⟩ := sn_bd hf
    refine sn_callVi (rest := []) C hw (ctX9_askOf l  h_5) kl_RX9_381 layM_0 rfl rfl rfl rfl (Nat.le_of_ble_eq_true rfl) dX9_leaves_13 hl.1 (fun H locs hw => ?_)
    refine lv_pop hx hb dX9_leaves_16 rfl ?_
    refine lv_aload_n hx hb dX9_leaves_17 rfl (lv_at hl 1 rfl) ?_
    refine sn_getI C hw fd_RX9_378 layM_0 rfl dX9_leaves_18 ?_
    cases hf
    exact kr _ _ _ _ hw rfl dX9_leaves_21
  · have hf := sn_el c_3 hf
    refine lv_iload_n hx hb dX9_leaves_10 rfl (lv_at hl 0 rfl) ?_
    cases hf
    exact kr _ _ _ _ hw rfl dX9_leaves_11
theorem ctX9_leaves (l : Launch) {σ : sn_S} {x1 : Int32}  {o : (Int32 × sn_S)} (hf : fX9_leaves σ x1 = some o) : sn_M l yX9_leaves cX9_leaves 3 (some .int) rmX9_leaves layM (fun ad => [.ref (ad 0), .int x1]) σ (some (fun _ => .int o.1)) o.2 :=
  sn_met (by decide) (fun _ => Nat.le_of_ble_eq_true rfl) (fun p e s m args below meth c ls D ct ad A C hw hl => wX9_leaves_in C  hf (fun H locs ls pc hw ok hd => sn_iret C hw hd) _ _ _ hw hl)
-- X9_losesBy
abbrev rmX9_losesBy : Room := { frames := 4, cells := 0, slots := 0, locals := 95 }
def BX9_losesBy_94 (σ : sn_S) (t0 : Int32) (t1 : Int32) : Option ((Int32 × sn_S)) :=
  (some ((t0 + t1), σ))
def BX9_losesBy_80 (σ : sn_S) (t0 : Int32) (t1 : Int32) : Option ((Int32 × sn_S)) :=
  (if t1 = (1 : Int32) then
  ((fX9_minutes σ).bind fun t_2 => (BX9_losesBy_94 σ t0 (t_2 / (4 : Int32))))
  else
  (BX9_losesBy_94 σ t0 (0 : Int32)))
def BX9_losesBy_55 (σ : sn_S) (x3 : Int32) (x4 : Int32) (x5 : Int32) (t0 : Int32) : Option ((Int32 × sn_S)) :=
  (sn_gd (sn_in t0 6) ((fX9_bits (sn_I σ 10 t0.toNatClampNeg)).bind fun t_2 => (if x5 = 0 then
  (BX9_losesBy_80 σ ((3 : Int32) * t_2) x3)
  else
  (BX9_losesBy_80 σ ((3 : Int32) * t_2) x4))))
def BX9_losesBy_41 (σ : sn_S) (x1 : Int32) (x2 : Int32) (x3 : Int32) (x4 : Int32) (x5 : Int32) : Option ((Int32 × sn_S)) :=
  ((fX9_goAll σ).bind fun t_1 => (if x5 = 0 then
  (BX9_losesBy_55 t_1 x3 x4 x5 x1)
  else
  (BX9_losesBy_55 t_1 x3 x4 x5 x2)))
def BX9_losesBy_27 (σ : sn_S) (x1 : Int32) (x2 : Int32) (x3 : Int32) (x4 : Int32) (x5 : Int32) (x6 : Int32) : Option ((Int32 × sn_S)) :=
  (if x4 = (1 : Int32) then
  (sn_gd (sn_in x2 6) (sn_lt (sn_pI σ 8 x2.toNatClampNeg x6) fun σ_3 => (BX9_losesBy_41 σ_3 x1 x2 x3 x4 x5)))
  else
  (BX9_losesBy_41 σ x1 x2 x3 x4 x5))
def fX9_losesBy (σ : sn_S) (x1 : Int32) (x2 : Int32) (x3 : Int32) (x4 : Int32) (x5 : Int32) : Option (Int32 × sn_S) :=
  ((fX9_asItIs σ).bind fun t_1 => ((fX9_minutes t_1).bind fun t_3 => (sn_lt (((1 : Int32) <<< (t_3 &&& 31)) - (1 : Int32)) fun y_5 => (if x3 = (1 : Int32) then
  (sn_gd (sn_in x1 6) (sn_lt (sn_pI t_1 8 x1.toNatClampNeg y_5) fun σ_9 => (BX9_losesBy_27 σ_9 x1 x2 x3 x4 x5 y_5)))
  else
  (BX9_losesBy_27 t_1 x1 x2 x3 x4 x5 y_5)))))
theorem wX9_losesBy_94 (C : sn_C p s m args meth c RX9 cX9_losesBy 8 (some .int) D ct ad layM A) {σ : sn_S} {t0 : Int32} {t1 : Int32}  {o : (Int32 × sn_S)} (hf : BX9_losesBy_94 σ t0 t1 = some o) (kr : sn_Kr p l e rmX9_losesBy s m args below meth c Q D ct ad layM A cX9_losesBy .ireturn (true) o.2 [.int o.1]) : sn_At p l e rmX9_losesBy s m args below meth c Q D ct ad layM A 8 σ 94 [] [.int t1, .int t0] := by
  intro H locs ls hw hl
  have hx := C.1
  have hb := C.2.1
  unfold BX9_losesBy_94 at hf
  refine lv_iadd hx hb dX9_losesBy_94 ?_
  cases hf
  exact kr _ _ _ _ hw rfl dX9_losesBy_95
theorem wX9_losesBy_80 (C : sn_C p s m args meth c RX9 cX9_losesBy 8 (some .int) D ct ad layM A) {σ : sn_S} {t0 : Int32} {t1 : Int32}  {o : (Int32 × sn_S)} (hf : BX9_losesBy_80 σ t0 t1 = some o) (kr : sn_Kr p l e rmX9_losesBy s m args below meth c Q D ct ad layM A cX9_losesBy .ireturn (true) o.2 [.int o.1]) : sn_At p l e rmX9_losesBy s m args below meth c Q D ct ad layM A 8 σ 80 [(0, .ref (ad 0))] [.int t1, .int t0] := by
  intro H locs ls hw hl
  have hx := C.1
  have hb := C.2.1
  unfold BX9_losesBy_80 at hf
  refine lv_iconst (v := 1) hx hb dX9_losesBy_80 rfl ?_
  refine lv_icmp_ne (tgt := 93) hx hb dX9_losesBy_81 (by decide) (fun c_1 => ?_) (fun c_1 => ?_)
  · have hf := sn_el c_1 hf
    refine lv_iconst (v := 0) hx hb dX9_losesBy_93 rfl ?_
    exact wX9_losesBy_94 C  hf kr _ _ _ hw (lv_sub hl [] rfl)
  · have hf := sn_if c_1 hf
    refine lv_aload_n hx hb dX9_losesBy_84 rfl (lv_at hl 0 rfl) ?_
    obtain ⟨t_2, h_3, hf⟩ := sn_bd hf
    refine sn_callVi (rest := [.int t0]) C hw (ctX9_minutes l  h_3) kl_RX9_249 layM_0 rfl rfl rfl rfl (Nat.le_of_ble_eq_true rfl) dX9_losesBy_85 hl.1 (fun H locs hw => ?_)
    refine lv_iconst (v := 4) hx hb dX9_losesBy_88 rfl ?_
    refine lv_idiv hx hb dX9_losesBy_89 (by decide) ?_
    refine lv_goto (tgt := 94) hx hb dX9_losesBy_90 (by decide) ?_
    exact wX9_losesBy_94 C  hf kr _ _ _ hw (lv_sub hl [] rfl)
theorem wX9_losesBy_55 (C : sn_C p s m args meth c RX9 cX9_losesBy 8 (some .int) D ct ad layM A) {σ : sn_S} {x3 : Int32} {x4 : Int32} {x5 : Int32} {t0 : Int32}  {o : (Int32 × sn_S)} (hf : BX9_losesBy_55 σ x3 x4 x5 t0 = some o) (kr : sn_Kr p l e rmX9_losesBy s m args below meth c Q D ct ad layM A cX9_losesBy .ireturn (true) o.2 [.int o.1]) : sn_At p l e rmX9_losesBy s m args below meth c Q D ct ad layM A 8 σ 55 [(0, .ref (ad 0)), (3, .int x3), (4, .int x4), (5, .int x5)] [.int t0] := by
  intro H locs ls hw hl
  have hx := C.1
  have hb := C.2.1
  unfold BX9_losesBy_55 at hf
  refine lv_istore (lv' := [(7, .int t0), (0, .ref (ad 0)), (3, .int x3), (4, .int x4), (5, .int x5)]) hx hb dX9_losesBy_55 hl (by decide) rfl (fun ls hl => ?_)
  refine lv_iconst (v := 3) hx hb dX9_losesBy_57 rfl ?_
  refine lv_aload_n hx hb dX9_losesBy_58 rfl (lv_at hl 1 rfl) ?_
  refine sn_getC (r := 10) C hw fd_RX9_43 layM_0 rfl dX9_losesBy_59 ?_
  refine lv_iload hx hb dX9_losesBy_62 (lv_at hl 0 rfl) ?_
  obtain ⟨g_1, hf⟩ := sn_gdE hf
  refine sn_iald C hw layM_10 g_1 dX9_losesBy_64 ?_
  obtain ⟨t_2, h_3, hf⟩ := sn_bd hf
  refine sn_callSi (rest := [.int (3 : Int32)]) C hw (ctX9_bits l  h_3) kl_RX9_278 rfl rfl rfl (Nat.le_of_ble_eq_true rfl) dX9_losesBy_65 hl.1 (fun H locs hw => ?_)
  refine lv_imul hx hb dX9_losesBy_68 ?_
  refine lv_iload hx hb dX9_losesBy_69 (lv_at hl 4 rfl) ?_
  refine lv_if_ne (tgt := 78) hx hb dX9_losesBy_71 (by decide) (fun c_4 => ?_) (fun c_4 => ?_)
  · have hf := sn_el c_4 hf
    refine lv_iload hx hb dX9_losesBy_78 (lv_at hl 3 rfl) ?_
    exact wX9_losesBy_80 C  hf kr _ _ _ hw (lv_sub hl [1] rfl)
  · have hf := sn_if c_4 hf
    refine lv_iload_n hx hb dX9_losesBy_74 rfl (lv_at hl 2 rfl) ?_
    refine lv_goto (tgt := 80) hx hb dX9_losesBy_75 (by decide) ?_
    exact wX9_losesBy_80 C  hf kr _ _ _ hw (lv_sub hl [1] rfl)
theorem wX9_losesBy_41 (C : sn_C p s m args meth c RX9 cX9_losesBy 8 (some .int) D ct ad layM A) {σ : sn_S} {x1 : Int32} {x2 : Int32} {x3 : Int32} {x4 : Int32} {x5 : Int32}  {o : (Int32 × sn_S)} (hf : BX9_losesBy_41 σ x1 x2 x3 x4 x5 = some o) (kr : sn_Kr p l e rmX9_losesBy s m args below meth c Q D ct ad layM A cX9_losesBy .ireturn (true) o.2 [.int o.1]) : sn_At p l e rmX9_losesBy s m args below meth c Q D ct ad layM A 8 σ 41 [(0, .ref (ad 0)), (1, .int x1), (2, .int x2), (3, .int x3), (4, .int x4), (5, .int x5)] [] := by
  intro H locs ls hw hl
  have hx := C.1
  have hb := C.2.1
  unfold BX9_losesBy_41 at hf
  refine lv_aload_n hx hb dX9_losesBy_41 rfl (lv_at hl 0 rfl) ?_
  obtain ⟨t_1, h_2, hf⟩ := sn_bd hf
  refine sn_callVv (rest := []) C hw (ctX9_goAll l  h_2) kl_RX9_266 layM_0 rfl rfl rfl rfl (Nat.le_of_ble_eq_true rfl) dX9_losesBy_42 hl.1 (fun H locs hw => ?_)
  refine lv_iload hx hb dX9_losesBy_45 (lv_at hl 5 rfl) ?_
  refine lv_if_ne (tgt := 54) hx hb dX9_losesBy_47 (by decide) (fun c_3 => ?_) (fun c_3 => ?_)
  · have hf := sn_el c_3 hf
    refine lv_iload_n hx hb dX9_losesBy_54 rfl (lv_at hl 2 rfl) ?_
    exact wX9_losesBy_55 C  hf kr _ _ _ hw (lv_sub hl [0, 3, 4, 5] rfl)
  · have hf := sn_if c_3 hf
    refine lv_iload_n hx hb dX9_losesBy_50 rfl (lv_at hl 1 rfl) ?_
    refine lv_goto (tgt := 55) hx hb dX9_losesBy_51 (by decide) ?_
    exact wX9_losesBy_55 C  hf kr _ _ _ hw (lv_sub hl [0, 3, 4, 5] rfl)
theorem wX9_losesBy_27 (C : sn_C p s m args meth c RX9 cX9_losesBy 8 (some .int) D ct ad layM A) {σ : sn_S} {x1 : Int32} {x2 : Int32} {x3 : Int32} {x4 : Int32} {x5 : Int32} {x6 : Int32}  {o : (Int32 × sn_S)} (hf : BX9_losesBy_27 σ x1 x2 x3 x4 x5 x6 = some o) (kr : sn_Kr p l e rmX9_losesBy s m args below meth c Q D ct ad layM A cX9_losesBy .ireturn (true) o.2 [.int o.1]) : sn_At p l e rmX9_losesBy s m args below meth c Q D ct ad layM A 8 σ 27 [(0, .ref (ad 0)), (1, .int x1), (2, .int x2), (3, .int x3), (4, .int x4), (5, .int x5), (6, .int x6)] [] := by
  intro H locs ls hw hl
  have hx := C.1
  have hb := C.2.1
  unfold BX9_losesBy_27 at hf
  refine lv_iload hx hb dX9_losesBy_27 (lv_at hl 4 rfl) ?_
  refine lv_iconst (v := 1) hx hb dX9_losesBy_29 rfl ?_
  refine lv_icmp_ne (tgt := 41) hx hb dX9_losesBy_30 (by decide) (fun c_1 => ?_) (fun c_1 => ?_)
  · have hf := sn_el c_1 hf
    exact wX9_losesBy_41 C  hf kr _ _ _ hw (lv_sub hl [0, 1, 2, 3, 4, 5] rfl)
  · have hf := sn_if c_1 hf
    refine lv_aload_n hx hb dX9_losesBy_33 rfl (lv_at hl 0 rfl) ?_
    refine sn_getC (r := 8) C hw fd_RX9_37 layM_0 rfl dX9_losesBy_34 ?_
    refine lv_iload_n hx hb dX9_losesBy_37 rfl (lv_at hl 2 rfl) ?_
    refine lv_iload hx hb dX9_losesBy_38 (lv_at hl 6 rfl) ?_
    obtain ⟨g_2, hf⟩ := sn_gdE hf
    refine sn_iast C hw layM_8 g_2 dX9_losesBy_40 (fun H locs hw => ?_)
    obtain ⟨σ_3, e_4, hf⟩ := sn_ltE hf
    rw [← e_4] at hw
    exact wX9_losesBy_41 C  hf kr _ _ _ hw (lv_sub hl [0, 1, 2, 3, 4, 5] rfl)
theorem wX9_losesBy_in (C : sn_C p s m args meth c RX9 cX9_losesBy 8 (some .int) D ct ad layM A) {σ : sn_S} {x1 : Int32} {x2 : Int32} {x3 : Int32} {x4 : Int32} {x5 : Int32}  {o : (Int32 × sn_S)} (hf : fX9_losesBy σ x1 x2 x3 x4 x5 = some o) (kr : sn_Kr p l e rmX9_losesBy s m args below meth c Q D ct ad layM A cX9_losesBy .ireturn (true) o.2 [.int o.1]) : sn_At p l e rmX9_losesBy s m args below meth c Q D ct ad layM A 8 σ 0 [(0, .ref (ad 0)), (1, .int x1), (2, .int x2), (3, .int x3), (4, .int x4), (5, .int x5)] [] := by
  intro H locs ls hw hl
  have hx := C.1
  have hb := C.2.1
  unfold fX9_losesBy at hf
  refine lv_aload_n hx hb dX9_losesBy_0 rfl (lv_at hl 0 rfl) ?_
  obtain ⟨t_1, h_2, hf⟩ := sn_bd hf
  refine sn_callVv (rest := []) C hw (ctX9_asItIs l  h_2) kl_RX9_263 layM_0 rfl rfl rfl rfl (Nat.le_of_ble_eq_true rfl) dX9_losesBy_1 hl.1 (fun H locs hw => ?_)
  refine lv_iconst (v := 1) hx hb dX9_losesBy_4 rfl ?_
  refine lv_aload_n hx hb dX9_losesBy_5 rfl (lv_at hl 0 rfl) ?_
  obtain ⟨t_3, h_4, hf⟩ := sn_bd hf
  refine sn_callVi (rest := [.int (1 : Int32)]) C hw (ctX9_minutes l  h_4) kl_RX9_249 layM_0 rfl rfl rfl rfl (Nat.le_of_ble_eq_true rfl) dX9_losesBy_6 hl.1 (fun H locs hw => ?_)
  refine lv_ishl hx hb dX9_losesBy_9 ?_
  refine lv_iconst (v := 1) hx hb dX9_losesBy_10 rfl ?_
  refine lv_isub hx hb dX9_losesBy_11 ?_
  obtain ⟨y_5, e_6, hf⟩ := sn_ltE hf
  refine lv_topi (fun y_5_ e_6_ => ?_)
  obtain rfl : y_5 = y_5_ := e_6.trans e_6_.symm
  refine lv_istore (lv' := [(6, .int y_5), (0, .ref (ad 0)), (1, .int x1), (2, .int x2), (3, .int x3), (4, .int x4), (5, .int x5)]) hx hb dX9_losesBy_12 hl (by decide) rfl (fun ls hl => ?_)
  refine lv_iload_n hx hb dX9_losesBy_14 rfl (lv_at hl 4 rfl) ?_
  refine lv_iconst (v := 1) hx hb dX9_losesBy_15 rfl ?_
  refine lv_icmp_ne (tgt := 27) hx hb dX9_losesBy_16 (by decide) (fun c_7 => ?_) (fun c_7 => ?_)
  · have hf := sn_el c_7 hf
    exact wX9_losesBy_27 C  hf kr _ _ _ hw (lv_sub hl [1, 2, 3, 4, 5, 6, 0] rfl)
  · have hf := sn_if c_7 hf
    refine lv_aload_n hx hb dX9_losesBy_19 rfl (lv_at hl 1 rfl) ?_
    refine sn_getC (r := 8) C hw fd_RX9_37 layM_0 rfl dX9_losesBy_20 ?_
    refine lv_iload_n hx hb dX9_losesBy_23 rfl (lv_at hl 2 rfl) ?_
    refine lv_iload hx hb dX9_losesBy_24 (lv_at hl 0 rfl) ?_
    obtain ⟨g_8, hf⟩ := sn_gdE hf
    refine sn_iast C hw layM_8 g_8 dX9_losesBy_26 (fun H locs hw => ?_)
    obtain ⟨σ_9, e_10, hf⟩ := sn_ltE hf
    rw [← e_10] at hw
    exact wX9_losesBy_27 C  hf kr _ _ _ hw (lv_sub hl [1, 2, 3, 4, 5, 6, 0] rfl)
theorem ctX9_losesBy (l : Launch) {σ : sn_S} {x1 : Int32} {x2 : Int32} {x3 : Int32} {x4 : Int32} {x5 : Int32}  {o : (Int32 × sn_S)} (hf : fX9_losesBy σ x1 x2 x3 x4 x5 = some o) : sn_M l yX9_losesBy cX9_losesBy 8 (some .int) rmX9_losesBy layM (fun ad => [.ref (ad 0), .int x1, .int x2, .int x3, .int x4, .int x5]) σ (some (fun _ => .int o.1)) o.2 :=
  sn_met (by decide) (fun _ => Nat.le_of_ble_eq_true rfl) (fun p e s m args below meth c ls D ct ad A C hw hl => wX9_losesBy_in C  hf (fun H locs ls pc hw ok hd => sn_iret C hw hd) _ _ _ hw hl)
-- X9_areTwo
abbrev rmX9_areTwo : Room := { frames := 2, cells := 0, slots := 0, locals := 47 }
def fX9_areTwo (σ : sn_S) (x1 : Int32) (x2 : Int32) : Option Int32 :=
  ((fX9_isPerson σ x1.toInt64).bind fun t_1 => (if t_1 = 0 then
  (sn_gd (sn_b01 (0 : Int32)) (some (0 : Int32)))
  else
  ((fX9_isPerson σ x2.toInt64).bind fun t_5 => (if t_5 = 0 then
  (sn_gd (sn_b01 (0 : Int32)) (some (0 : Int32)))
  else
  (if x1 = x2 then
  (sn_gd (sn_b01 (0 : Int32)) (some (0 : Int32)))
  else
  (sn_gd (sn_b01 (1 : Int32)) (some (1 : Int32))))))))
theorem wX9_areTwo_in (C : sn_C p s m args meth c RX9 cX9_areTwo 3 (some .boolean) D ct ad layM A) {σ : sn_S} {x1 : Int32} {x2 : Int32}  {o : Int32} (hf : fX9_areTwo σ x1 x2 = some o) (kr : sn_Kr p l e rmX9_areTwo s m args below meth c Q D ct ad layM A cX9_areTwo .ireturn (sn_b01 o) σ [.int o]) : sn_At p l e rmX9_areTwo s m args below meth c Q D ct ad layM A 3 σ 0 [(0, .ref (ad 0)), (1, .int x1), (2, .int x2)] [] := by
  intro H locs ls hw hl
  have hx := C.1
  have hb := C.2.1
  unfold fX9_areTwo at hf
  refine lv_aload_n hx hb dX9_areTwo_0 rfl (lv_at hl 0 rfl) ?_
  refine lv_iload_n hx hb dX9_areTwo_1 rfl (lv_at hl 1 rfl) ?_
  refine lv_i2l hx hb dX9_areTwo_2 rfl ?_
  obtain ⟨t_1, h_2, hf⟩ := sn_bd hf
  refine sn_callVi (rest := []) C hw (ctX9_isPerson l  h_2) kl_RX9_224 layM_0 rfl rfl rfl rfl (Nat.le_of_ble_eq_true rfl) dX9_areTwo_3 hl.1 (fun H locs hw => ?_)
  refine lv_if_eq (tgt := 27) hx hb dX9_areTwo_6 (by decide) (fun c_3 => ?_) (fun c_3 => ?_)
  · have hf := sn_if c_3 hf
    refine lv_iconst (v := 0) hx hb dX9_areTwo_27 rfl ?_
    obtain ⟨g_4, hf⟩ := sn_gdE hf
    cases hf
    exact kr _ _ _ _ hw g_4 dX9_areTwo_28
  · have hf := sn_el c_3 hf
    refine lv_aload_n hx hb dX9_areTwo_9 rfl (lv_at hl 0 rfl) ?_
    refine lv_iload_n hx hb dX9_areTwo_10 rfl (lv_at hl 2 rfl) ?_
    refine lv_i2l hx hb dX9_areTwo_11 rfl ?_
    obtain ⟨t_5, h_6, hf⟩ := sn_bd hf
    refine sn_callVi (rest := []) C hw (ctX9_isPerson l  h_6) kl_RX9_224 layM_0 rfl rfl rfl rfl (Nat.le_of_ble_eq_true rfl) dX9_areTwo_12 hl.1 (fun H locs hw => ?_)
    refine lv_if_eq (tgt := 27) hx hb dX9_areTwo_15 (by decide) (fun c_7 => ?_) (fun c_7 => ?_)
    · have hf := sn_if c_7 hf
      refine lv_iconst (v := 0) hx hb dX9_areTwo_27 rfl ?_
      obtain ⟨g_8, hf⟩ := sn_gdE hf
      cases hf
      exact kr _ _ _ _ hw g_8 dX9_areTwo_28
    · have hf := sn_el c_7 hf
      refine lv_iload_n hx hb dX9_areTwo_18 rfl (lv_at hl 1 rfl) ?_
      refine lv_iload_n hx hb dX9_areTwo_19 rfl (lv_at hl 2 rfl) ?_
      refine lv_icmp_eq (tgt := 27) hx hb dX9_areTwo_20 (by decide) (fun c_9 => ?_) (fun c_9 => ?_)
      · have hf := sn_if c_9 hf
        refine lv_iconst (v := 0) hx hb dX9_areTwo_27 rfl ?_
        obtain ⟨g_10, hf⟩ := sn_gdE hf
        cases hf
        exact kr _ _ _ _ hw g_10 dX9_areTwo_28
      · have hf := sn_el c_9 hf
        refine lv_iconst (v := 1) hx hb dX9_areTwo_23 rfl ?_
        refine lv_goto (tgt := 28) hx hb dX9_areTwo_24 (by decide) ?_
        obtain ⟨g_11, hf⟩ := sn_gdE hf
        cases hf
        exact kr _ _ _ _ hw g_11 dX9_areTwo_28
theorem ctX9_areTwo (l : Launch) {σ : sn_S} {x1 : Int32} {x2 : Int32}  {o : Int32} (hf : fX9_areTwo σ x1 x2 = some o) : sn_M l yX9_areTwo cX9_areTwo 3 (some .boolean) rmX9_areTwo layM (fun ad => [.ref (ad 0), .int x1, .int x2]) σ (some (fun _ => .int o)) σ :=
  sn_met (by decide) (fun _ => Nat.le_of_ble_eq_true rfl) (fun p e s m args below meth c ls D ct ad A C hw hl => wX9_areTwo_in C  hf (fun H locs ls pc hw ok hd => sn_zret C hw ok hd) _ _ _ hw hl)
-- X9_rests
abbrev rmX9_rests : Room := { frames := 5, cells := 0, slots := 0, locals := 122 }
def BX9_rests_118 (σ : sn_S) (x3 : Int32) : Option ((Int32 × sn_S)) :=
  (some (x3, σ))
def BX9_rests_110 (σ : sn_S) (x1 : Int32) (x2 : Int32) (x3 : Int32) (x4 : Int32) (t0 : Int32) (t1 : Int32) : Option ((sn_S × Int32 × Int32) ⊕ (sn_S × Int32)) :=
  (sn_lt (t0 ||| t1) fun y_1 => (sn_lt (x4 + 1) fun y_3 => (some (.inl (σ, y_1, y_3)))))
def BX9_rests_94 (σ : sn_S) (x1 : Int32) (x2 : Int32) (x3 : Int32) (x4 : Int32) (t0 : Int32) : Option ((sn_S × Int32 × Int32) ⊕ (sn_S × Int32)) :=
  (if t0 = 0 then
  (BX9_rests_110 σ x1 x2 x3 x4 x3 (0 : Int32))
  else
  (BX9_rests_110 σ x1 x2 x3 x4 x3 ((1 : Int32) <<< (x4 &&& 31))))
def BX9_rests_93 (σ : sn_S) (x1 : Int32) (x2 : Int32) (x3 : Int32) (x4 : Int32) : Option ((sn_S × Int32 × Int32) ⊕ (sn_S × Int32)) :=
  (BX9_rests_94 σ x1 x2 x3 x4 (0 : Int32))
def BX9_rests_17 (σ : sn_S) (x1 : Int32) (x2 : Int32) (x3 : Int32) (x4 : Int32) : Option ((sn_S × Int32 × Int32) ⊕ (sn_S × Int32)) :=
  (if (4 : Int32) ≤ x4 then
  (some (.inr (σ, x3)))
  else
  (sn_lt (x4 &&& (1 : Int32)) fun y_2 => (sn_lt (x4 >>> ((1 : Int32) &&& 31)) fun y_4 => ((fX9_losesBy σ x1 x2 y_2 y_4 (0 : Int32)).bind fun t_6 => ((fX9_losesBy t_6.2 x1 x2 ((1 : Int32) - y_2) y_4 (0 : Int32)).bind fun t_8 => (if t_8.1 < t_6.1 then
  (BX9_rests_93 t_8.2 x1 x2 x3 x4)
  else
  ((fX9_losesBy t_8.2 x1 x2 y_2 y_4 (1 : Int32)).bind fun t_11 => ((fX9_losesBy t_11.2 x1 x2 y_2 ((1 : Int32) - y_4) (1 : Int32)).bind fun t_13 => (if t_13.1 < t_11.1 then
  (BX9_rests_93 t_13.2 x1 x2 x3 x4)
  else
  (BX9_rests_94 t_13.2 x1 x2 x3 x4 (1 : Int32)))))))))))
def LX9_rests_17 (x1 : Int32) (x2 : Int32) (s : sn_S × Int32 × Int32) : Option ((sn_S × Int32 × Int32) ⊕ (sn_S × Int32)) := BX9_rests_17 s.1 x1 x2 s.2.1 s.2.2
def fX9_rests (σ : sn_S) (x1 : Int32) (x2 : Int32) : Option (Int32 × sn_S) :=
  ((fX9_areTwo σ x1 x2).bind fun t_1 => (if t_1 = 0 then
  (some ((-2 : Int32), σ))
  else
  ((sn_it (LX9_rests_17 x1 x2) 5000 (σ, (0 : Int32), (0 : Int32))).bind fun t_4 => (BX9_rests_118 t_4.1 t_4.2))))
theorem wX9_rests_118 (C : sn_C p s m args meth c RX9 cX9_rests 8 (some .int) D ct ad layM A) {σ : sn_S} {x3 : Int32}  {o : (Int32 × sn_S)} (hf : BX9_rests_118 σ x3 = some o) (kr : sn_Kr p l e rmX9_rests s m args below meth c Q D ct ad layM A cX9_rests .ireturn (true) o.2 [.int o.1]) : sn_At p l e rmX9_rests s m args below meth c Q D ct ad layM A 8 σ 118 [(3, .int x3)] [] := by
  intro H locs ls hw hl
  have hx := C.1
  have hb := C.2.1
  unfold BX9_rests_118 at hf
  refine lv_iload_n hx hb dX9_rests_118 rfl (lv_at hl 0 rfl) ?_
  cases hf
  exact kr _ _ _ _ hw rfl dX9_rests_119
theorem wX9_rests_110 (C : sn_C p s m args meth c RX9 cX9_rests 8 (some .int) D ct ad layM A) {σ : sn_S} {x1 : Int32} {x2 : Int32} {x3 : Int32} {x4 : Int32} {t0 : Int32} {t1 : Int32}  {o : (sn_S × Int32 × Int32) ⊕ (sn_S × Int32)} (hf : BX9_rests_110 σ x1 x2 x3 x4 t0 t1 = some o) (kc : ∀ v, o = .inl v → sn_At p l e rmX9_rests s m args below meth c Q D ct ad layM A 8 v.1 17 [(0, .ref (ad 0)), (1, .int x1), (2, .int x2), (3, .int v.2.1), (4, .int v.2.2)] []) (kx : ∀ v, o = .inr v → sn_At p l e rmX9_rests s m args below meth c Q D ct ad layM A 8 v.1 118 [(3, .int v.2)] []) : sn_At p l e rmX9_rests s m args below meth c Q D ct ad layM A 8 σ 110 [(0, .ref (ad 0)), (1, .int x1), (2, .int x2), (3, .int x3), (4, .int x4)] [.int t1, .int t0] := by
  intro H locs ls hw hl
  have hx := C.1
  have hb := C.2.1
  unfold BX9_rests_110 at hf
  refine lv_ior hx hb dX9_rests_110 ?_
  obtain ⟨y_1, e_2, hf⟩ := sn_ltE hf
  refine lv_topi (fun y_1_ e_2_ => ?_)
  obtain rfl : y_1 = y_1_ := e_2.trans e_2_.symm
  refine lv_istore_n (lv' := [(3, .int y_1), (0, .ref (ad 0)), (1, .int x1), (2, .int x2), (4, .int x4)]) hx hb dX9_rests_111 rfl hl (by decide) rfl (fun ls hl => ?_)
  obtain ⟨y_3, e_4, hf⟩ := sn_ltE hf
  refine lv_iinc (v := y_3) (lv' := [(4, .int y_3), (3, .int y_1), (0, .ref (ad 0)), (1, .int x1), (2, .int x2)]) hx hb dX9_rests_112 hl (k := 4) rfl (by rw [e_4]; rfl) (by decide) rfl (fun ls hl => ?_)
  refine lv_goto (tgt := 17) hx hb dX9_rests_115 (by decide) ?_
  cases hf
  exact kc _ rfl _ _ _ hw (lv_sub hl [2, 3, 4, 1, 0] rfl)
theorem wX9_rests_94 (C : sn_C p s m args meth c RX9 cX9_rests 8 (some .int) D ct ad layM A) {σ : sn_S} {x1 : Int32} {x2 : Int32} {x3 : Int32} {x4 : Int32} {t0 : Int32}  {o : (sn_S × Int32 × Int32) ⊕ (sn_S × Int32)} (hf : BX9_rests_94 σ x1 x2 x3 x4 t0 = some o) (kc : ∀ v, o = .inl v → sn_At p l e rmX9_rests s m args below meth c Q D ct ad layM A 8 v.1 17 [(0, .ref (ad 0)), (1, .int x1), (2, .int x2), (3, .int v.2.1), (4, .int v.2.2)] []) (kx : ∀ v, o = .inr v → sn_At p l e rmX9_rests s m args below meth c Q D ct ad layM A 8 v.1 118 [(3, .int v.2)] []) : sn_At p l e rmX9_rests s m args below meth c Q D ct ad layM A 8 σ 94 [(0, .ref (ad 0)), (1, .int x1), (2, .int x2), (3, .int x3), (4, .int x4)] [.int t0] := by
  intro H locs ls hw hl
  have hx := C.1
  have hb := C.2.1
  unfold BX9_rests_94 at hf
  refine lv_istore (lv' := [(7, .int t0), (0, .ref (ad 0)), (1, .int x1), (2, .int x2), (3, .int x3), (4, .int x4)]) hx hb dX9_rests_94 hl (by decide) rfl (fun ls hl => ?_)
  refine lv_iload_n hx hb dX9_rests_96 rfl (lv_at hl 4 rfl) ?_
  refine lv_iload hx hb dX9_rests_97 (lv_at hl 0 rfl) ?_
  refine lv_if_eq (tgt := 109) hx hb dX9_rests_99 (by decide) (fun c_1 => ?_) (fun c_1 => ?_)
  · have hf := sn_if c_1 hf
    refine lv_iconst (v := 0) hx hb dX9_rests_109 rfl ?_
    exact wX9_rests_110 C  hf kc kx _ _ _ hw (lv_sub hl [1, 2, 3, 4, 5] rfl)
  · have hf := sn_el c_1 hf
    refine lv_iconst (v := 1) hx hb dX9_rests_102 rfl ?_
    refine lv_iload hx hb dX9_rests_103 (lv_at hl 5 rfl) ?_
    refine lv_ishl hx hb dX9_rests_105 ?_
    refine lv_goto (tgt := 110) hx hb dX9_rests_106 (by decide) ?_
    exact wX9_rests_110 C  hf kc kx _ _ _ hw (lv_sub hl [1, 2, 3, 4, 5] rfl)
theorem wX9_rests_93 (C : sn_C p s m args meth c RX9 cX9_rests 8 (some .int) D ct ad layM A) {σ : sn_S} {x1 : Int32} {x2 : Int32} {x3 : Int32} {x4 : Int32}  {o : (sn_S × Int32 × Int32) ⊕ (sn_S × Int32)} (hf : BX9_rests_93 σ x1 x2 x3 x4 = some o) (kc : ∀ v, o = .inl v → sn_At p l e rmX9_rests s m args below meth c Q D ct ad layM A 8 v.1 17 [(0, .ref (ad 0)), (1, .int x1), (2, .int x2), (3, .int v.2.1), (4, .int v.2.2)] []) (kx : ∀ v, o = .inr v → sn_At p l e rmX9_rests s m args below meth c Q D ct ad layM A 8 v.1 118 [(3, .int v.2)] []) : sn_At p l e rmX9_rests s m args below meth c Q D ct ad layM A 8 σ 93 [(0, .ref (ad 0)), (1, .int x1), (2, .int x2), (3, .int x3), (4, .int x4)] [] := by
  intro H locs ls hw hl
  have hx := C.1
  have hb := C.2.1
  unfold BX9_rests_93 at hf
  refine lv_iconst (v := 0) hx hb dX9_rests_93 rfl ?_
  exact wX9_rests_94 C  hf kc kx _ _ _ hw (lv_sub hl [0, 1, 2, 3, 4] rfl)
theorem wX9_rests_17 (C : sn_C p s m args meth c RX9 cX9_rests 8 (some .int) D ct ad layM A) {σ : sn_S} {x1 : Int32} {x2 : Int32} {x3 : Int32} {x4 : Int32}  {o : (sn_S × Int32 × Int32) ⊕ (sn_S × Int32)} (hf : BX9_rests_17 σ x1 x2 x3 x4 = some o) (kc : ∀ v, o = .inl v → sn_At p l e rmX9_rests s m args below meth c Q D ct ad layM A 8 v.1 17 [(0, .ref (ad 0)), (1, .int x1), (2, .int x2), (3, .int v.2.1), (4, .int v.2.2)] []) (kx : ∀ v, o = .inr v → sn_At p l e rmX9_rests s m args below meth c Q D ct ad layM A 8 v.1 118 [(3, .int v.2)] []) : sn_At p l e rmX9_rests s m args below meth c Q D ct ad layM A 8 σ 17 [(0, .ref (ad 0)), (1, .int x1), (2, .int x2), (3, .int x3), (4, .int x4)] [] := by
  intro H locs ls hw hl
  have hx := C.1
  have hb := C.2.1
  unfold BX9_rests_17 at hf
  refine lv_iload hx hb dX9_rests_17 (lv_at hl 4 rfl) ?_
  refine lv_iconst (v := 4) hx hb dX9_rests_19 rfl ?_
  refine lv_icmp_ge (tgt := 118) hx hb dX9_rests_20 (by decide) (fun c_1 => ?_) (fun c_1 => ?_)
  · have hf := sn_if c_1 hf
    cases hf
    exact kx _ rfl _ _ _ hw (lv_sub hl [3] rfl)
  · have hf := sn_el c_1 hf
    refine lv_iload hx hb dX9_rests_23 (lv_at hl 4 rfl) ?_
    refine lv_iconst (v := 1) hx hb dX9_rests_25 rfl ?_
    refine lv_iand hx hb dX9_rests_26 ?_
    obtain ⟨y_2, e_3, hf⟩ := sn_ltE hf
    refine lv_topi (fun y_2_ e_3_ => ?_)
    obtain rfl : y_2 = y_2_ := e_3.trans e_3_.symm
    refine lv_istore (lv' := [(5, .int y_2), (0, .ref (ad 0)), (1, .int x1), (2, .int x2), (3, .int x3), (4, .int x4)]) hx hb dX9_rests_27 hl (by decide) rfl (fun ls hl => ?_)
    refine lv_iload hx hb dX9_rests_29 (lv_at hl 5 rfl) ?_
    refine lv_iconst (v := 1) hx hb dX9_rests_31 rfl ?_
    refine lv_ishr hx hb dX9_rests_32 ?_
    obtain ⟨y_4, e_5, hf⟩ := sn_ltE hf
    refine lv_topi (fun y_4_ e_5_ => ?_)
    obtain rfl : y_4 = y_4_ := e_5.trans e_5_.symm
    refine lv_istore (lv' := [(6, .int y_4), (5, .int y_2), (0, .ref (ad 0)), (1, .int x1), (2, .int x2), (3, .int x3), (4, .int x4)]) hx hb dX9_rests_33 hl (by decide) rfl (fun ls hl => ?_)
    refine lv_aload_n hx hb dX9_rests_35 rfl (lv_at hl 2 rfl) ?_
    refine lv_iload_n hx hb dX9_rests_36 rfl (lv_at hl 3 rfl) ?_
    refine lv_iload_n hx hb dX9_rests_37 rfl (lv_at hl 4 rfl) ?_
    refine lv_iload hx hb dX9_rests_38 (lv_at hl 1 rfl) ?_
    refine lv_iload hx hb dX9_rests_40 (lv_at hl 0 rfl) ?_
    refine lv_iconst (v := 0) hx hb dX9_rests_42 rfl ?_
    obtain ⟨t_6, h_7, hf⟩ := sn_bd hf
    refine sn_callVi (rest := []) C hw (ctX9_losesBy l  h_7) kl_RX9_387 layM_0 rfl rfl rfl rfl (Nat.le_of_ble_eq_true rfl) dX9_rests_43 hl.1 (fun H locs hw => ?_)
    refine lv_aload_n hx hb dX9_rests_46 rfl (lv_at hl 2 rfl) ?_
    refine lv_iload_n hx hb dX9_rests_47 rfl (lv_at hl 3 rfl) ?_
    refine lv_iload_n hx hb dX9_rests_48 rfl (lv_at hl 4 rfl) ?_
    refine lv_iconst (v := 1) hx hb dX9_rests_49 rfl ?_
    refine lv_iload hx hb dX9_rests_50 (lv_at hl 1 rfl) ?_
    refine lv_isub hx hb dX9_rests_52 ?_
    refine lv_iload hx hb dX9_rests_53 (lv_at hl 0 rfl) ?_
    refine lv_iconst (v := 0) hx hb dX9_rests_55 rfl ?_
    obtain ⟨t_8, h_9, hf⟩ := sn_bd hf
    refine sn_callVi (rest := [.int t_6.1]) C hw (ctX9_losesBy l  h_9) kl_RX9_387 layM_0 rfl rfl rfl rfl (Nat.le_of_ble_eq_true rfl) dX9_rests_56 hl.1 (fun H locs hw => ?_)
    refine lv_icmp_gt (tgt := 93) hx hb dX9_rests_59 (by decide) (fun c_10 => ?_) (fun c_10 => ?_)
    · have hf := sn_if c_10 hf
      exact wX9_rests_93 C  hf kc kx _ _ _ hw (lv_sub hl [2, 3, 4, 5, 6] rfl)
    · have hf := sn_el c_10 hf
      refine lv_aload_n hx hb dX9_rests_62 rfl (lv_at hl 2 rfl) ?_
      refine lv_iload_n hx hb dX9_rests_63 rfl (lv_at hl 3 rfl) ?_
      refine lv_iload_n hx hb dX9_rests_64 rfl (lv_at hl 4 rfl) ?_
      refine lv_iload hx hb dX9_rests_65 (lv_at hl 1 rfl) ?_
      refine lv_iload hx hb dX9_rests_67 (lv_at hl 0 rfl) ?_
      refine lv_iconst (v := 1) hx hb dX9_rests_69 rfl ?_
      obtain ⟨t_11, h_12, hf⟩ := sn_bd hf
      refine sn_callVi (rest := []) C hw (ctX9_losesBy l  h_12) kl_RX9_387 layM_0 rfl rfl rfl rfl (Nat.le_of_ble_eq_true rfl) dX9_rests_70 hl.1 (fun H locs hw => ?_)
      refine lv_aload_n hx hb dX9_rests_73 rfl (lv_at hl 2 rfl) ?_
      refine lv_iload_n hx hb dX9_rests_74 rfl (lv_at hl 3 rfl) ?_
      refine lv_iload_n hx hb dX9_rests_75 rfl (lv_at hl 4 rfl) ?_
      refine lv_iload hx hb dX9_rests_76 (lv_at hl 1 rfl) ?_
      refine lv_iconst (v := 1) hx hb dX9_rests_78 rfl ?_
      refine lv_iload hx hb dX9_rests_79 (lv_at hl 0 rfl) ?_
      refine lv_isub hx hb dX9_rests_81 ?_
      refine lv_iconst (v := 1) hx hb dX9_rests_82 rfl ?_
      obtain ⟨t_13, h_14, hf⟩ := sn_bd hf
      refine sn_callVi (rest := [.int t_11.1]) C hw (ctX9_losesBy l  h_14) kl_RX9_387 layM_0 rfl rfl rfl rfl (Nat.le_of_ble_eq_true rfl) dX9_rests_83 hl.1 (fun H locs hw => ?_)
      refine lv_icmp_gt (tgt := 93) hx hb dX9_rests_86 (by decide) (fun c_15 => ?_) (fun c_15 => ?_)
      · have hf := sn_if c_15 hf
        exact wX9_rests_93 C  hf kc kx _ _ _ hw (lv_sub hl [2, 3, 4, 5, 6] rfl)
      · have hf := sn_el c_15 hf
        refine lv_iconst (v := 1) hx hb dX9_rests_89 rfl ?_
        refine lv_goto (tgt := 94) hx hb dX9_rests_90 (by decide) ?_
        exact wX9_rests_94 C  hf kc kx _ _ _ hw (lv_sub hl [2, 3, 4, 5, 6] rfl)
theorem wX9_rests_L17 (C : sn_C p s m args meth c RX9 cX9_rests 8 (some .int) D ct ad layM A) {x1 : Int32} {x2 : Int32}   {z : sn_S × Int32 × Int32} {t : sn_S × Int32} (h : sn_it (LX9_rests_17 x1 x2) 5000 z = some t) (kx : ∀ v, t = v → sn_At p l e rmX9_rests s m args below meth c Q D ct ad layM A 8 v.1 118 [(3, .int v.2)] []) : sn_At p l e rmX9_rests s m args below meth c Q D ct ad layM A 8 z.1 17 [(0, .ref (ad 0)), (1, .int x1), (2, .int x2), (3, .int z.2.1), (4, .int z.2.2)] [] :=
  sn_loop (f := LX9_rests_17 x1 x2) (G := fun z => sn_At p l e rmX9_rests s m args below meth c Q D ct ad layM A 8 z.1 17 [(0, .ref (ad 0)), (1, .int x1), (2, .int x2), (3, .int z.2.1), (4, .int z.2.2)] []) (E := fun t => (∀ v, t = v → sn_At p l e rmX9_rests s m args below meth c Q D ct ad layM A 8 v.1 118 [(3, .int v.2)] []) ∧ True) (fun z o hf k1 k2 => wX9_rests_17 C  hf (fun v e => k1 v e) (fun v e => (k2 _ e).1 v rfl)) 5000 z t h ⟨kx, trivial⟩
theorem wX9_rests_in (C : sn_C p s m args meth c RX9 cX9_rests 8 (some .int) D ct ad layM A) {σ : sn_S} {x1 : Int32} {x2 : Int32}  {o : (Int32 × sn_S)} (hf : fX9_rests σ x1 x2 = some o) (kr : sn_Kr p l e rmX9_rests s m args below meth c Q D ct ad layM A cX9_rests .ireturn (true) o.2 [.int o.1]) : sn_At p l e rmX9_rests s m args below meth c Q D ct ad layM A 8 σ 0 [(0, .ref (ad 0)), (1, .int x1), (2, .int x2)] [] := by
  intro H locs ls hw hl
  have hx := C.1
  have hb := C.2.1
  unfold fX9_rests at hf
  refine lv_aload_n hx hb dX9_rests_0 rfl (lv_at hl 0 rfl) ?_
  refine lv_iload_n hx hb dX9_rests_1 rfl (lv_at hl 1 rfl) ?_
  refine lv_iload_n hx hb dX9_rests_2 rfl (lv_at hl 2 rfl) ?_
  obtain ⟨t_1, h_2, hf⟩ := sn_bd hf
  refine sn_callVi (rest := []) C hw (ctX9_areTwo l  h_2) kl_RX9_384 layM_0 rfl rfl rfl rfl (Nat.le_of_ble_eq_true rfl) dX9_rests_3 hl.1 (fun H locs hw => ?_)
  refine lv_if_ne (tgt := 12) hx hb dX9_rests_6 (by decide) (fun c_3 => ?_) (fun c_3 => ?_)
  · have hf := sn_el c_3 hf
    refine lv_iconst (v := 0) hx hb dX9_rests_12 rfl ?_
    refine lv_istore_n (lv' := [(3, .int (0 : Int32)), (0, .ref (ad 0)), (1, .int x1), (2, .int x2)]) hx hb dX9_rests_13 rfl hl (by decide) rfl (fun ls hl => ?_)
    refine lv_iconst (v := 0) hx hb dX9_rests_14 rfl ?_
    refine lv_istore (lv' := [(4, .int (0 : Int32)), (3, .int (0 : Int32)), (0, .ref (ad 0)), (1, .int x1), (2, .int x2)]) hx hb dX9_rests_15 hl (by decide) rfl (fun ls hl => ?_)
    obtain ⟨t_4, h_5, hf⟩ := sn_bd hf
    exact wX9_rests_L17 C  h_5 (fun v e => by cases e; exact wX9_rests_118 C  hf kr) _ _ _ hw (lv_sub hl [2, 3, 4, 1, 0] rfl)
  · have hf := sn_if c_3 hf
    refine lv_bipush (v := (-2)) hx hb dX9_rests_9 (by decide) ?_
    cases hf
    exact kr _ _ _ _ hw rfl dX9_rests_11
theorem ctX9_rests (l : Launch) {σ : sn_S} {x1 : Int32} {x2 : Int32}  {o : (Int32 × sn_S)} (hf : fX9_rests σ x1 x2 = some o) : sn_M l yX9_rests cX9_rests 8 (some .int) rmX9_rests layM (fun ad => [.ref (ad 0), .int x1, .int x2]) σ (some (fun _ => .int o.1)) o.2 :=
  sn_met (by decide) (fun _ => Nat.le_of_ble_eq_true rfl) (fun p e s m args below meth c ls D ct ad A C hw hl => wX9_rests_in C  hf (fun H locs ls pc hw ok hd => sn_iret C hw hd) _ _ _ hw hl)
-- X9_loses
abbrev rmX9_loses : Room := { frames := 5, cells := 0, slots := 0, locals := 122 }
def fX9_loses (σ : sn_S) (x1 : Int32) (x2 : Int32) (x3 : Int32) (x4 : Int32) : Option (Int32 × sn_S) :=
  ((fX9_areTwo σ x1 x2).bind fun t_1 => (if t_1 = 0 then
  (some ((-2 : Int32), σ))
  else
  ((fX9_in x3.toInt64 (0 : Int64) (1 : Int64)).bind fun t_4 => (if t_4 = 0 then
  (some ((-2 : Int32), σ))
  else
  ((fX9_in x4.toInt64 (0 : Int64) (1 : Int64)).bind fun t_7 => (if t_7 = 0 then
  (some ((-2 : Int32), σ))
  else
  ((fX9_losesBy σ x1 x2 x3 x4 (0 : Int32)).bind fun t_10 => (some (t_10.1, t_10.2)))))))))
theorem wX9_loses_in (C : sn_C p s m args meth c RX9 cX9_loses 5 (some .int) D ct ad layM A) {σ : sn_S} {x1 : Int32} {x2 : Int32} {x3 : Int32} {x4 : Int32}  {o : (Int32 × sn_S)} (hf : fX9_loses σ x1 x2 x3 x4 = some o) (kr : sn_Kr p l e rmX9_loses s m args below meth c Q D ct ad layM A cX9_loses .ireturn (true) o.2 [.int o.1]) : sn_At p l e rmX9_loses s m args below meth c Q D ct ad layM A 5 σ 0 [(0, .ref (ad 0)), (1, .int x1), (2, .int x2), (3, .int x3), (4, .int x4)] [] := by
  intro H locs ls hw hl
  have hx := C.1
  have hb := C.2.1
  unfold fX9_loses at hf
  refine lv_aload_n hx hb dX9_loses_0 rfl (lv_at hl 0 rfl) ?_
  refine lv_iload_n hx hb dX9_loses_1 rfl (lv_at hl 1 rfl) ?_
  refine lv_iload_n hx hb dX9_loses_2 rfl (lv_at hl 2 rfl) ?_
  obtain ⟨t_1, h_2, hf⟩ := sn_bd hf
  refine sn_callVi (rest := []) C hw (ctX9_areTwo l  h_2) kl_RX9_384 layM_0 rfl rfl rfl rfl (Nat.le_of_ble_eq_true rfl) dX9_loses_3 hl.1 (fun H locs hw => ?_)
  refine lv_if_eq (tgt := 43) hx hb dX9_loses_6 (by decide) (fun c_3 => ?_) (fun c_3 => ?_)
  · have hf := sn_if c_3 hf
    refine lv_bipush (v := (-2)) hx hb dX9_loses_43 (by decide) ?_
    cases hf
    exact kr _ _ _ _ hw rfl dX9_loses_45
  · have hf := sn_el c_3 hf
    refine lv_iload_n hx hb dX9_loses_9 rfl (lv_at hl 3 rfl) ?_
    refine lv_i2l hx hb dX9_loses_10 rfl ?_
    refine lv_lconst (v := 0) hx hb dX9_loses_11 rfl ?_
    refine lv_lconst (v := 1) hx hb dX9_loses_12 rfl ?_
    obtain ⟨t_4, h_5, hf⟩ := sn_bd hf
    refine sn_callSi (rest := []) C hw (ctX9_in l  h_5) kl_RX9_94 rfl rfl rfl (Nat.le_of_ble_eq_true rfl) dX9_loses_13 hl.1 (fun H locs hw => ?_)
    refine lv_if_eq (tgt := 43) hx hb dX9_loses_16 (by decide) (fun c_6 => ?_) (fun c_6 => ?_)
    · have hf := sn_if c_6 hf
      refine lv_bipush (v := (-2)) hx hb dX9_loses_43 (by decide) ?_
      cases hf
      exact kr _ _ _ _ hw rfl dX9_loses_45
    · have hf := sn_el c_6 hf
      refine lv_iload hx hb dX9_loses_19 (lv_at hl 4 rfl) ?_
      refine lv_i2l hx hb dX9_loses_21 rfl ?_
      refine lv_lconst (v := 0) hx hb dX9_loses_22 rfl ?_
      refine lv_lconst (v := 1) hx hb dX9_loses_23 rfl ?_
      obtain ⟨t_7, h_8, hf⟩ := sn_bd hf
      refine sn_callSi (rest := []) C hw (ctX9_in l  h_8) kl_RX9_94 rfl rfl rfl (Nat.le_of_ble_eq_true rfl) dX9_loses_24 hl.1 (fun H locs hw => ?_)
      refine lv_if_eq (tgt := 43) hx hb dX9_loses_27 (by decide) (fun c_9 => ?_) (fun c_9 => ?_)
      · have hf := sn_if c_9 hf
        refine lv_bipush (v := (-2)) hx hb dX9_loses_43 (by decide) ?_
        cases hf
        exact kr _ _ _ _ hw rfl dX9_loses_45
      · have hf := sn_el c_9 hf
        refine lv_aload_n hx hb dX9_loses_30 rfl (lv_at hl 0 rfl) ?_
        refine lv_iload_n hx hb dX9_loses_31 rfl (lv_at hl 1 rfl) ?_
        refine lv_iload_n hx hb dX9_loses_32 rfl (lv_at hl 2 rfl) ?_
        refine lv_iload_n hx hb dX9_loses_33 rfl (lv_at hl 3 rfl) ?_
        refine lv_iload hx hb dX9_loses_34 (lv_at hl 4 rfl) ?_
        refine lv_iconst (v := 0) hx hb dX9_loses_36 rfl ?_
        obtain ⟨t_10, h_11, hf⟩ := sn_bd hf
        refine sn_callVi (rest := []) C hw (ctX9_losesBy l  h_11) kl_RX9_387 layM_0 rfl rfl rfl rfl (Nat.le_of_ble_eq_true rfl) dX9_loses_37 hl.1 (fun H locs hw => ?_)
        refine lv_goto (tgt := 45) hx hb dX9_loses_40 (by decide) ?_
        cases hf
        exact kr _ _ _ _ hw rfl dX9_loses_45
theorem ctX9_loses (l : Launch) {σ : sn_S} {x1 : Int32} {x2 : Int32} {x3 : Int32} {x4 : Int32}  {o : (Int32 × sn_S)} (hf : fX9_loses σ x1 x2 x3 x4 = some o) : sn_M l yX9_loses cX9_loses 5 (some .int) rmX9_loses layM (fun ad => [.ref (ad 0), .int x1, .int x2, .int x3, .int x4]) σ (some (fun _ => .int o.1)) o.2 :=
  sn_met (by decide) (fun _ => Nat.le_of_ble_eq_true rfl) (fun p e s m args below meth c ls D ct ad A C hw hl => wX9_loses_in C  hf (fun H locs ls pc hw ok hd => sn_iret C hw hd) _ _ _ hw hl)
-- X9_allWithout
abbrev rmX9_allWithout : Room := { frames := 4, cells := 0, slots := 0, locals := 95 }
def fX9_allWithout (σ : sn_S) (x1 : Int32) : Option (Int32 × sn_S) :=
  (sn_lt (sn_pI σ 0 19 x1) fun σ_1 => ((fX9_goAll σ_1).bind fun t_3 => ((fX9_allSneezes t_3).bind fun t_5 => (some (t_5, t_3)))))
theorem wX9_allWithout_in (C : sn_C p s m args meth c RX9 cX9_allWithout 2 (some .int) D ct ad layM A) {σ : sn_S} {x1 : Int32}  {o : (Int32 × sn_S)} (hf : fX9_allWithout σ x1 = some o) (kr : sn_Kr p l e rmX9_allWithout s m args below meth c Q D ct ad layM A cX9_allWithout .ireturn (true) o.2 [.int o.1]) : sn_At p l e rmX9_allWithout s m args below meth c Q D ct ad layM A 2 σ 0 [(0, .ref (ad 0)), (1, .int x1)] [] := by
  intro H locs ls hw hl
  have hx := C.1
  have hb := C.2.1
  unfold fX9_allWithout at hf
  refine lv_aload_n hx hb dX9_allWithout_0 rfl (lv_at hl 0 rfl) ?_
  refine lv_iload_n hx hb dX9_allWithout_1 rfl (lv_at hl 1 rfl) ?_
  refine sn_putI C hw fp_RX9_240 layM_0 rfl dX9_allWithout_2 (fun H locs hw => ?_)
  obtain ⟨σ_1, e_2, hf⟩ := sn_ltE hf
  rw [← e_2] at hw
  refine lv_aload_n hx hb dX9_allWithout_5 rfl (lv_at hl 0 rfl) ?_
  obtain ⟨t_3, h_4, hf⟩ := sn_bd hf
  refine sn_callVv (rest := []) C hw (ctX9_goAll l  h_4) kl_RX9_266 layM_0 rfl rfl rfl rfl (Nat.le_of_ble_eq_true rfl) dX9_allWithout_6 hl.1 (fun H locs hw => ?_)
  refine lv_aload_n hx hb dX9_allWithout_9 rfl (lv_at hl 0 rfl) ?_
  obtain ⟨t_5, h_6, hf⟩ := sn_bd hf
  refine sn_callVi (rest := []) C hw (ctX9_allSneezes l  h_6) kl_RX9_290 layM_0 rfl rfl rfl rfl (Nat.le_of_ble_eq_true rfl) dX9_allWithout_10 hl.1 (fun H locs hw => ?_)
  cases hf
  exact kr _ _ _ _ hw rfl dX9_allWithout_13
theorem ctX9_allWithout (l : Launch) {σ : sn_S} {x1 : Int32}  {o : (Int32 × sn_S)} (hf : fX9_allWithout σ x1 = some o) : sn_M l yX9_allWithout cX9_allWithout 2 (some .int) rmX9_allWithout layM (fun ad => [.ref (ad 0), .int x1]) σ (some (fun _ => .int o.1)) o.2 :=
  sn_met (by decide) (fun _ => Nat.le_of_ble_eq_true rfl) (fun p e s m args below meth c ls D ct ad A C hw hl => wX9_allWithout_in C  hf (fun H locs ls pc hw ok hd => sn_iret C hw hd) _ _ _ hw hl)
-- X9_cut
abbrev rmX9_cut : Room := { frames := 5, cells := 0, slots := 0, locals := 116 }
def fX9_cut (σ : sn_S) (x1 : Int32) : Option (Int32 × sn_S) :=
  ((fX9_asItIs σ).bind fun t_1 => (sn_gd (sn_in (7 : Int32) 119) ((fX9_in x1.toInt64 (0 : Int64) (((sn_I t_1 1 (7 : Int32).toNatClampNeg) - (1 : Int32)).toInt64)).bind fun t_4 => (if t_4 = 0 then
  (some ((-2 : Int32), t_1))
  else
  ((fX9_allWithout t_1 x1).bind fun t_7 => (some (t_7.1, t_7.2)))))))
theorem wX9_cut_in (C : sn_C p s m args meth c RX9 cX9_cut 2 (some .int) D ct ad layM A) {σ : sn_S} {x1 : Int32}  {o : (Int32 × sn_S)} (hf : fX9_cut σ x1 = some o) (kr : sn_Kr p l e rmX9_cut s m args below meth c Q D ct ad layM A cX9_cut .ireturn (true) o.2 [.int o.1]) : sn_At p l e rmX9_cut s m args below meth c Q D ct ad layM A 2 σ 0 [(0, .ref (ad 0)), (1, .int x1)] [] := by
  intro H locs ls hw hl
  have hx := C.1
  have hb := C.2.1
  unfold fX9_cut at hf
  refine lv_aload_n hx hb dX9_cut_0 rfl (lv_at hl 0 rfl) ?_
  obtain ⟨t_1, h_2, hf⟩ := sn_bd hf
  refine sn_callVv (rest := []) C hw (ctX9_asItIs l  h_2) kl_RX9_263 layM_0 rfl rfl rfl rfl (Nat.le_of_ble_eq_true rfl) dX9_cut_1 hl.1 (fun H locs hw => ?_)
  refine lv_iload_n hx hb dX9_cut_4 rfl (lv_at hl 1 rfl) ?_
  refine lv_i2l hx hb dX9_cut_5 rfl ?_
  refine lv_lconst (v := 0) hx hb dX9_cut_6 rfl ?_
  refine lv_aload_n hx hb dX9_cut_7 rfl (lv_at hl 0 rfl) ?_
  refine sn_getC (r := 1) C hw fd_RX9_9 layM_0 rfl dX9_cut_8 ?_
  refine lv_bipush (v := 7) hx hb dX9_cut_11 (by decide) ?_
  obtain ⟨g_3, hf⟩ := sn_gdE hf
  refine sn_iald C hw layM_1 g_3 dX9_cut_13 ?_
  refine lv_iconst (v := 1) hx hb dX9_cut_14 rfl ?_
  refine lv_isub hx hb dX9_cut_15 ?_
  refine lv_i2l hx hb dX9_cut_16 rfl ?_
  obtain ⟨t_4, h_5, hf⟩ := sn_bd hf
  refine sn_callSi (rest := []) C hw (ctX9_in l  h_5) kl_RX9_94 rfl rfl rfl (Nat.le_of_ble_eq_true rfl) dX9_cut_17 hl.1 (fun H locs hw => ?_)
  refine lv_if_eq (tgt := 31) hx hb dX9_cut_20 (by decide) (fun c_6 => ?_) (fun c_6 => ?_)
  · have hf := sn_if c_6 hf
    refine lv_bipush (v := (-2)) hx hb dX9_cut_31 (by decide) ?_
    cases hf
    exact kr _ _ _ _ hw rfl dX9_cut_33
  · have hf := sn_el c_6 hf
    refine lv_aload_n hx hb dX9_cut_23 rfl (lv_at hl 0 rfl) ?_
    refine lv_iload_n hx hb dX9_cut_24 rfl (lv_at hl 1 rfl) ?_
    obtain ⟨t_7, h_8, hf⟩ := sn_bd hf
    refine sn_callVi (rest := []) C hw (ctX9_allWithout l  h_8) kl_RX9_391 layM_0 rfl rfl rfl rfl (Nat.le_of_ble_eq_true rfl) dX9_cut_25 hl.1 (fun H locs hw => ?_)
    refine lv_goto (tgt := 33) hx hb dX9_cut_28 (by decide) ?_
    cases hf
    exact kr _ _ _ _ hw rfl dX9_cut_33
theorem ctX9_cut (l : Launch) {σ : sn_S} {x1 : Int32}  {o : (Int32 × sn_S)} (hf : fX9_cut σ x1 = some o) : sn_M l yX9_cut cX9_cut 2 (some .int) rmX9_cut layM (fun ad => [.ref (ad 0), .int x1]) σ (some (fun _ => .int o.1)) o.2 :=
  sn_met (by decide) (fun _ => Nat.le_of_ble_eq_true rfl) (fun p e s m args below meth c ls D ct ad A C hw hl => wX9_cut_in C  hf (fun H locs ls pc hw ok hd => sn_iret C hw hd) _ _ _ hw hl)
-- X9_cuts
abbrev rmX9_cuts : Room := { frames := 5, cells := 0, slots := 0, locals := 116 }
def BX9_cuts_57 (σ : sn_S) (x1 : Int32) : Option ((Int32 × sn_S)) :=
  (some (x1, σ))
def BX9_cuts_51 (σ : sn_S) (x1 : Int32) (x2 : Int32) (x3 : Int32) : Option ((sn_S × Int32 × Int32 × Int32) ⊕ (sn_S × Int32)) :=
  (sn_lt (x3 + 1) fun y_1 => (some (.inl (σ, x1, x2, y_1))))
def BX9_cuts_19 (σ : sn_S) (x1 : Int32) (x2 : Int32) (x3 : Int32) : Option ((sn_S × Int32 × Int32 × Int32) ⊕ (sn_S × Int32)) :=
  (sn_gd (sn_in (7 : Int32) 119) (if (sn_I σ 1 (7 : Int32).toNatClampNeg) ≤ x3 then
  (some (.inr (σ, x1)))
  else
  ((fX9_allWithout σ x3).bind fun t_3 => (if t_3.1 < x2 then
  (BX9_cuts_51 t_3.2 x3 t_3.1 x3)
  else
  (BX9_cuts_51 t_3.2 x1 x2 x3)))))
def LX9_cuts_19  (s : sn_S × Int32 × Int32 × Int32) : Option ((sn_S × Int32 × Int32 × Int32) ⊕ (sn_S × Int32)) := BX9_cuts_19 s.1 s.2.1 s.2.2.1 s.2.2.2
def fX9_cuts (σ : sn_S) : Option (Int32 × sn_S) :=
  ((fX9_asksHouse σ).bind fun t_1 => (if t_1.1 = 0 then
  (some ((-2 : Int32), t_1.2))
  else
  ((fX9_allSneezes t_1.2).bind fun t_4 => ((sn_it (LX9_cuts_19 ) 5000 (t_1.2, (-1 : Int32), t_4, (0 : Int32))).bind fun t_6 => (BX9_cuts_57 t_6.1 t_6.2)))))
theorem wX9_cuts_57 (C : sn_C p s m args meth c RX9 cX9_cuts 5 (some .int) D ct ad layM A) {σ : sn_S} {x1 : Int32}  {o : (Int32 × sn_S)} (hf : BX9_cuts_57 σ x1 = some o) (kr : sn_Kr p l e rmX9_cuts s m args below meth c Q D ct ad layM A cX9_cuts .ireturn (true) o.2 [.int o.1]) : sn_At p l e rmX9_cuts s m args below meth c Q D ct ad layM A 5 σ 57 [(1, .int x1)] [] := by
  intro H locs ls hw hl
  have hx := C.1
  have hb := C.2.1
  unfold BX9_cuts_57 at hf
  refine lv_iload_n hx hb dX9_cuts_57 rfl (lv_at hl 0 rfl) ?_
  cases hf
  exact kr _ _ _ _ hw rfl dX9_cuts_58
theorem wX9_cuts_51 (C : sn_C p s m args meth c RX9 cX9_cuts 5 (some .int) D ct ad layM A) {σ : sn_S} {x1 : Int32} {x2 : Int32} {x3 : Int32}  {o : (sn_S × Int32 × Int32 × Int32) ⊕ (sn_S × Int32)} (hf : BX9_cuts_51 σ x1 x2 x3 = some o) (kc : ∀ v, o = .inl v → sn_At p l e rmX9_cuts s m args below meth c Q D ct ad layM A 5 v.1 19 [(0, .ref (ad 0)), (1, .int v.2.1), (2, .int v.2.2.1), (3, .int v.2.2.2)] []) (kx : ∀ v, o = .inr v → sn_At p l e rmX9_cuts s m args below meth c Q D ct ad layM A 5 v.1 57 [(1, .int v.2)] []) : sn_At p l e rmX9_cuts s m args below meth c Q D ct ad layM A 5 σ 51 [(0, .ref (ad 0)), (1, .int x1), (2, .int x2), (3, .int x3)] [] := by
  intro H locs ls hw hl
  have hx := C.1
  have hb := C.2.1
  unfold BX9_cuts_51 at hf
  obtain ⟨y_1, e_2, hf⟩ := sn_ltE hf
  refine lv_iinc (v := y_1) (lv' := [(3, .int y_1), (0, .ref (ad 0)), (1, .int x1), (2, .int x2)]) hx hb dX9_cuts_51 hl (k := 3) rfl (by rw [e_2]; rfl) (by decide) rfl (fun ls hl => ?_)
  refine lv_goto (tgt := 19) hx hb dX9_cuts_54 (by decide) ?_
  cases hf
  exact kc _ rfl _ _ _ hw (lv_sub hl [1, 2, 3, 0] rfl)
theorem wX9_cuts_19 (C : sn_C p s m args meth c RX9 cX9_cuts 5 (some .int) D ct ad layM A) {σ : sn_S} {x1 : Int32} {x2 : Int32} {x3 : Int32}  {o : (sn_S × Int32 × Int32 × Int32) ⊕ (sn_S × Int32)} (hf : BX9_cuts_19 σ x1 x2 x3 = some o) (kc : ∀ v, o = .inl v → sn_At p l e rmX9_cuts s m args below meth c Q D ct ad layM A 5 v.1 19 [(0, .ref (ad 0)), (1, .int v.2.1), (2, .int v.2.2.1), (3, .int v.2.2.2)] []) (kx : ∀ v, o = .inr v → sn_At p l e rmX9_cuts s m args below meth c Q D ct ad layM A 5 v.1 57 [(1, .int v.2)] []) : sn_At p l e rmX9_cuts s m args below meth c Q D ct ad layM A 5 σ 19 [(0, .ref (ad 0)), (1, .int x1), (2, .int x2), (3, .int x3)] [] := by
  intro H locs ls hw hl
  have hx := C.1
  have hb := C.2.1
  unfold BX9_cuts_19 at hf
  refine lv_iload_n hx hb dX9_cuts_19 rfl (lv_at hl 3 rfl) ?_
  refine lv_aload_n hx hb dX9_cuts_20 rfl (lv_at hl 0 rfl) ?_
  refine sn_getC (r := 1) C hw fd_RX9_9 layM_0 rfl dX9_cuts_21 ?_
  refine lv_bipush (v := 7) hx hb dX9_cuts_24 (by decide) ?_
  obtain ⟨g_1, hf⟩ := sn_gdE hf
  refine sn_iald C hw layM_1 g_1 dX9_cuts_26 ?_
  refine lv_icmp_ge (tgt := 57) hx hb dX9_cuts_27 (by decide) (fun c_2 => ?_) (fun c_2 => ?_)
  · have hf := sn_if c_2 hf
    cases hf
    exact kx _ rfl _ _ _ hw (lv_sub hl [1] rfl)
  · have hf := sn_el c_2 hf
    refine lv_aload_n hx hb dX9_cuts_30 rfl (lv_at hl 0 rfl) ?_
    refine lv_iload_n hx hb dX9_cuts_31 rfl (lv_at hl 3 rfl) ?_
    obtain ⟨t_3, h_4, hf⟩ := sn_bd hf
    refine sn_callVi (rest := []) C hw (ctX9_allWithout l  h_4) kl_RX9_391 layM_0 rfl rfl rfl rfl (Nat.le_of_ble_eq_true rfl) dX9_cuts_32 hl.1 (fun H locs hw => ?_)
    refine lv_istore (lv' := [(4, .int t_3.1), (0, .ref (ad 0)), (1, .int x1), (2, .int x2), (3, .int x3)]) hx hb dX9_cuts_35 hl (by decide) rfl (fun ls hl => ?_)
    refine lv_iload hx hb dX9_cuts_37 (lv_at hl 0 rfl) ?_
    refine lv_iload_n hx hb dX9_cuts_39 rfl (lv_at hl 3 rfl) ?_
    refine lv_icmp_lt (tgt := 46) hx hb dX9_cuts_40 (by decide) (fun c_5 => ?_) (fun c_5 => ?_)
    · have hf := sn_if c_5 hf
      refine lv_iload hx hb dX9_cuts_46 (lv_at hl 0 rfl) ?_
      refine lv_istore_n (lv' := [(2, .int t_3.1), (4, .int t_3.1), (0, .ref (ad 0)), (1, .int x1), (3, .int x3)]) hx hb dX9_cuts_48 rfl hl (by decide) rfl (fun ls hl => ?_)
      refine lv_iload_n hx hb dX9_cuts_49 rfl (lv_at hl 4 rfl) ?_
      refine lv_istore_n (lv' := [(1, .int x3), (2, .int t_3.1), (4, .int t_3.1), (0, .ref (ad 0)), (3, .int x3)]) hx hb dX9_cuts_50 rfl hl (by decide) rfl (fun ls hl => ?_)
      exact wX9_cuts_51 C  hf kc kx _ _ _ hw (lv_sub hl [3, 0, 1, 4] rfl)
    · have hf := sn_el c_5 hf
      refine lv_goto (tgt := 51) hx hb dX9_cuts_43 (by decide) ?_
      exact wX9_cuts_51 C  hf kc kx _ _ _ hw (lv_sub hl [1, 2, 3, 4] rfl)
theorem wX9_cuts_L19 (C : sn_C p s m args meth c RX9 cX9_cuts 5 (some .int) D ct ad layM A)    {z : sn_S × Int32 × Int32 × Int32} {t : sn_S × Int32} (h : sn_it (LX9_cuts_19 ) 5000 z = some t) (kx : ∀ v, t = v → sn_At p l e rmX9_cuts s m args below meth c Q D ct ad layM A 5 v.1 57 [(1, .int v.2)] []) : sn_At p l e rmX9_cuts s m args below meth c Q D ct ad layM A 5 z.1 19 [(0, .ref (ad 0)), (1, .int z.2.1), (2, .int z.2.2.1), (3, .int z.2.2.2)] [] :=
  sn_loop (f := LX9_cuts_19 ) (G := fun z => sn_At p l e rmX9_cuts s m args below meth c Q D ct ad layM A 5 z.1 19 [(0, .ref (ad 0)), (1, .int z.2.1), (2, .int z.2.2.1), (3, .int z.2.2.2)] []) (E := fun t => (∀ v, t = v → sn_At p l e rmX9_cuts s m args below meth c Q D ct ad layM A 5 v.1 57 [(1, .int v.2)] []) ∧ True) (fun z o hf k1 k2 => wX9_cuts_19 C  hf (fun v e => k1 v e) (fun v e => (k2 _ e).1 v rfl)) 5000 z t h ⟨kx, trivial⟩
theorem wX9_cuts_in (C : sn_C p s m args meth c RX9 cX9_cuts 5 (some .int) D ct ad layM A) {σ : sn_S}  {o : (Int32 × sn_S)} (hf : fX9_cuts σ = some o) (kr : sn_Kr p l e rmX9_cuts s m args below meth c Q D ct ad layM A cX9_cuts .ireturn (true) o.2 [.int o.1]) : sn_At p l e rmX9_cuts s m args below meth c Q D ct ad layM A 5 σ 0 [(0, .ref (ad 0))] [] := by
  intro H locs ls hw hl
  have hx := C.1
  have hb := C.2.1
  unfold fX9_cuts at hf
  refine lv_aload_n hx hb dX9_cuts_0 rfl (lv_at hl 0 rfl) ?_
  obtain ⟨t_1, h_2, hf⟩ := sn_bd hf
  refine sn_callVi (rest := []) C hw (ctX9_asksHouse l  h_2) kl_RX9_272 layM_0 rfl rfl rfl rfl (Nat.le_of_ble_eq_true rfl) dX9_cuts_1 hl.1 (fun H locs hw => ?_)
  refine lv_if_ne (tgt := 10) hx hb dX9_cuts_4 (by decide) (fun c_3 => ?_) (fun c_3 => ?_)
  · have hf := sn_el c_3 hf
    refine lv_iconst (v := (-1)) hx hb dX9_cuts_10 rfl ?_
    refine lv_istore_n (lv' := [(1, .int (-1 : Int32)), (0, .ref (ad 0))]) hx hb dX9_cuts_11 rfl hl (by decide) rfl (fun ls hl => ?_)
    refine lv_aload_n hx hb dX9_cuts_12 rfl (lv_at hl 1 rfl) ?_
    obtain ⟨t_4, h_5, hf⟩ := sn_bd hf
    refine sn_callVi (rest := []) C hw (ctX9_allSneezes l  h_5) kl_RX9_290 layM_0 rfl rfl rfl rfl (Nat.le_of_ble_eq_true rfl) dX9_cuts_13 hl.1 (fun H locs hw => ?_)
    refine lv_istore_n (lv' := [(2, .int t_4), (1, .int (-1 : Int32)), (0, .ref (ad 0))]) hx hb dX9_cuts_16 rfl hl (by decide) rfl (fun ls hl => ?_)
    refine lv_iconst (v := 0) hx hb dX9_cuts_17 rfl ?_
    refine lv_istore_n (lv' := [(3, .int (0 : Int32)), (2, .int t_4), (1, .int (-1 : Int32)), (0, .ref (ad 0))]) hx hb dX9_cuts_18 rfl hl (by decide) rfl (fun ls hl => ?_)
    obtain ⟨t_6, h_7, hf⟩ := sn_bd hf
    exact wX9_cuts_L19 C  h_7 (fun v e => by cases e; exact wX9_cuts_57 C  hf kr) _ _ _ hw (lv_sub hl [3, 2, 1, 0] rfl)
  · have hf := sn_if c_3 hf
    refine lv_bipush (v := (-2)) hx hb dX9_cuts_7 (by decide) ?_
    cases hf
    exact kr _ _ _ _ hw rfl dX9_cuts_9
theorem ctX9_cuts (l : Launch) {σ : sn_S}  {o : (Int32 × sn_S)} (hf : fX9_cuts σ = some o) : sn_M l yX9_cuts cX9_cuts 5 (some .int) rmX9_cuts layM (fun ad => [.ref (ad 0)]) σ (some (fun _ => .int o.1)) o.2 :=
  sn_met (by decide) (fun _ => Nat.le_of_ble_eq_true rfl) (fun p e s m args below meth c ls D ct ad A C hw hl => wX9_cuts_in C  hf (fun H locs ls pc hw ok hd => sn_iret C hw hd) _ _ _ hw hl)
-- X9_divisor
abbrev rmX9_divisor : Room := { frames := 0, cells := 0, slots := 0, locals := 0 }
def BX9_divisor_31 (x4 : Int64) : Option (Int64) :=
  (some x4)
def BX9_divisor_6 (x4 : Int64) (x6 : Int64) : Option ((Int64 × Int64) ⊕ (Int64)) :=
  (if (lg_cmp x6 (0 : Int64)) = 0 then
  (some (.inr (x4)))
  else
  (sn_gd (x6 != 0) (sn_lt (x4 - x4 / x6 * x6) fun y_3 => (some (.inl (x6, y_3))))))
def LX9_divisor_6  (s : Int64 × Int64) : Option ((Int64 × Int64) ⊕ (Int64)) := BX9_divisor_6 s.1 s.2
def fX9_divisor (x0 : Int64) (x2 : Int64) : Option Int64 :=
  ((sn_it (LX9_divisor_6 ) 5000 (x0, x2)).bind fun t_1 => (BX9_divisor_31 t_1))
theorem wX9_divisor_31 (C : sn_C p s m args meth c RX9 cX9_divisor 10 (some .long) D ct ad layM A) {σ : sn_S} {x4 : Int64}  {o : Int64} (hf : BX9_divisor_31 x4 = some o) (kr : sn_Kr p l e rmX9_divisor s m args below meth c Q D ct ad layM A cX9_divisor .lreturn (true) σ [.long o]) : sn_At p l e rmX9_divisor s m args below meth c Q D ct ad layM A 10 σ 31 [(4, .long x4)] [] := by
  intro H locs ls hw hl
  have hx := C.1
  have hb := C.2.1
  unfold BX9_divisor_31 at hf
  refine lv_lload hx hb dX9_divisor_31 (lv_at hl 0 rfl) ?_
  cases hf
  exact kr _ _ _ _ hw rfl dX9_divisor_33
theorem wX9_divisor_6 (C : sn_C p s m args meth c RX9 cX9_divisor 10 (some .long) D ct ad layM A) {σ : sn_S} {x4 : Int64} {x6 : Int64}  {o : (Int64 × Int64) ⊕ (Int64)} (hf : BX9_divisor_6 x4 x6 = some o) (kc : ∀ v, o = .inl v → sn_At p l e rmX9_divisor s m args below meth c Q D ct ad layM A 10 σ 6 [(4, .long v.1), (6, .long v.2)] []) (kx : ∀ v, o = .inr v → sn_At p l e rmX9_divisor s m args below meth c Q D ct ad layM A 10 σ 31 [(4, .long v)] []) : sn_At p l e rmX9_divisor s m args below meth c Q D ct ad layM A 10 σ 6 [(4, .long x4), (6, .long x6)] [] := by
  intro H locs ls hw hl
  have hx := C.1
  have hb := C.2.1
  unfold BX9_divisor_6 at hf
  refine lv_lload hx hb dX9_divisor_6 (lv_at hl 1 rfl) ?_
  refine lv_lconst (v := 0) hx hb dX9_divisor_8 rfl ?_
  refine W.lcmp hx hb dX9_divisor_9 ?_
  refine lv_if_eq (tgt := 31) hx hb dX9_divisor_10 (by decide) (fun c_1 => ?_) (fun c_1 => ?_)
  · have hf := sn_if c_1 hf
    cases hf
    exact kx _ rfl _ _ _ hw (lv_sub hl [0] rfl)
  · have hf := sn_el c_1 hf
    refine lv_lload hx hb dX9_divisor_13 (lv_at hl 0 rfl) ?_
    refine lv_lload hx hb dX9_divisor_15 (lv_at hl 1 rfl) ?_
    obtain ⟨g_2, hf⟩ := sn_gdE hf
    refine lv_lrem hx hb dX9_divisor_17 (sn_nzL g_2) ?_
    obtain ⟨y_3, e_4, hf⟩ := sn_ltE hf
    refine lv_topl (fun y_3_ e_4_ => ?_)
    obtain rfl : y_3 = y_3_ := e_4.trans e_4_.symm
    refine lv_lstore (lv' := [(8, .long y_3), (4, .long x4), (6, .long x6)]) hx hb dX9_divisor_18 hl (by decide) rfl (fun ls hl => ?_)
    refine lv_lload hx hb dX9_divisor_20 (lv_at hl 2 rfl) ?_
    refine lv_lstore (lv' := [(4, .long x6), (8, .long y_3), (6, .long x6)]) hx hb dX9_divisor_22 hl (by decide) rfl (fun ls hl => ?_)
    refine lv_lload hx hb dX9_divisor_24 (lv_at hl 1 rfl) ?_
    refine lv_lstore (lv' := [(6, .long y_3), (4, .long x6), (8, .long y_3)]) hx hb dX9_divisor_26 hl (by decide) rfl (fun ls hl => ?_)
    refine lv_goto (tgt := 6) hx hb dX9_divisor_28 (by decide) ?_
    cases hf
    exact kc _ rfl _ _ _ hw (lv_sub hl [1, 0] rfl)
theorem wX9_divisor_L6 (C : sn_C p s m args meth c RX9 cX9_divisor 10 (some .long) D ct ad layM A) {σ : sn_S}    {z : Int64 × Int64} {t : Int64} (h : sn_it (LX9_divisor_6 ) 5000 z = some t) (kx : ∀ v, t = v → sn_At p l e rmX9_divisor s m args below meth c Q D ct ad layM A 10 σ 31 [(4, .long v)] []) : sn_At p l e rmX9_divisor s m args below meth c Q D ct ad layM A 10 σ 6 [(4, .long z.1), (6, .long z.2)] [] :=
  sn_loop (f := LX9_divisor_6 ) (G := fun z => sn_At p l e rmX9_divisor s m args below meth c Q D ct ad layM A 10 σ 6 [(4, .long z.1), (6, .long z.2)] []) (E := fun t => (∀ v, t = v → sn_At p l e rmX9_divisor s m args below meth c Q D ct ad layM A 10 σ 31 [(4, .long v)] []) ∧ True) (fun z o hf k1 k2 => wX9_divisor_6 C  hf (fun v e => k1 v e) (fun v e => (k2 _ e).1 v rfl)) 5000 z t h ⟨kx, trivial⟩
theorem wX9_divisor_in (C : sn_C p s m args meth c RX9 cX9_divisor 10 (some .long) D ct ad layM A) {σ : sn_S} {x0 : Int64} {x2 : Int64}  {o : Int64} (hf : fX9_divisor x0 x2 = some o) (kr : sn_Kr p l e rmX9_divisor s m args below meth c Q D ct ad layM A cX9_divisor .lreturn (true) σ [.long o]) : sn_At p l e rmX9_divisor s m args below meth c Q D ct ad layM A 10 σ 0 [(0, .long x0), (2, .long x2)] [] := by
  intro H locs ls hw hl
  have hx := C.1
  have hb := C.2.1
  unfold fX9_divisor at hf
  refine lv_lload_n hx hb dX9_divisor_0 rfl (lv_at hl 0 rfl) ?_
  refine lv_lstore (lv' := [(4, .long x0), (0, .long x0), (2, .long x2)]) hx hb dX9_divisor_1 hl (by decide) rfl (fun ls hl => ?_)
  refine lv_lload_n hx hb dX9_divisor_3 rfl (lv_at hl 2 rfl) ?_
  refine lv_lstore (lv' := [(6, .long x2), (4, .long x0), (0, .long x0), (2, .long x2)]) hx hb dX9_divisor_4 hl (by decide) rfl (fun ls hl => ?_)
  obtain ⟨t_1, h_2, hf⟩ := sn_bd hf
  exact wX9_divisor_L6 C  h_2 (fun v e => by cases e; exact wX9_divisor_31 C  hf kr) _ _ _ hw (lv_sub hl [1, 0] rfl)
theorem ctX9_divisor (l : Launch) {σ : sn_S} {x0 : Int64} {x2 : Int64}  {o : Int64} (hf : fX9_divisor x0 x2 = some o) : sn_M l yX9_divisor cX9_divisor 10 (some .long) rmX9_divisor layM (fun ad => [.long x0, .long x2]) σ (some (fun _ => .long o)) σ :=
  sn_met (by decide) (fun _ => Nat.le_of_ble_eq_true rfl) (fun p e s m args below meth c ls D ct ad A C hw hl => wX9_divisor_in C  hf (fun H locs ls pc hw ok hd => sn_lret C hw hd) _ _ _ hw hl)
-- X9_part
abbrev rmX9_part : Room := { frames := 1, cells := 0, slots := 0, locals := 29 }
def BX9_part_10 (x0 : Int64) (x2 : Int64) (t0 : Int64) : Option (Int64) :=
  ((fX9_divisor x0 x2).bind fun t_1 => (sn_gd (t_1 != 0) (some (t0 / t_1))))
def fX9_part (x0 : Int64) (x2 : Int64) (x4 : Int32) : Option Int64 :=
  (if x4 = 0 then
  (BX9_part_10 x0 x2 x0)
  else
  (BX9_part_10 x0 x2 x2))
theorem wX9_part_10 (C : sn_C p s m args meth c RX9 cX9_part 5 (some .long) D ct ad layM A) {σ : sn_S} {x0 : Int64} {x2 : Int64} {t0 : Int64}  {o : Int64} (hf : BX9_part_10 x0 x2 t0 = some o) (kr : sn_Kr p l e rmX9_part s m args below meth c Q D ct ad layM A cX9_part .lreturn (true) σ [.long o]) : sn_At p l e rmX9_part s m args below meth c Q D ct ad layM A 5 σ 10 [(0, .long x0), (2, .long x2)] [.long t0] := by
  intro H locs ls hw hl
  have hx := C.1
  have hb := C.2.1
  unfold BX9_part_10 at hf
  refine lv_lload_n hx hb dX9_part_10 rfl (lv_at hl 0 rfl) ?_
  refine lv_lload_n hx hb dX9_part_11 rfl (lv_at hl 1 rfl) ?_
  obtain ⟨t_1, h_2, hf⟩ := sn_bd hf
  refine sn_callSl (rest := [.long t0]) C hw (ctX9_divisor l  h_2) kl_RX9_394 rfl rfl rfl (Nat.le_of_ble_eq_true rfl) dX9_part_12 hl.1 (fun H locs hw => ?_)
  obtain ⟨g_3, hf⟩ := sn_gdE hf
  refine lv_ldiv hx hb dX9_part_15 (sn_nzL g_3) ?_
  cases hf
  exact kr _ _ _ _ hw rfl dX9_part_16
theorem wX9_part_in (C : sn_C p s m args meth c RX9 cX9_part 5 (some .long) D ct ad layM A) {σ : sn_S} {x0 : Int64} {x2 : Int64} {x4 : Int32}  {o : Int64} (hf : fX9_part x0 x2 x4 = some o) (kr : sn_Kr p l e rmX9_part s m args below meth c Q D ct ad layM A cX9_part .lreturn (true) σ [.long o]) : sn_At p l e rmX9_part s m args below meth c Q D ct ad layM A 5 σ 0 [(0, .long x0), (2, .long x2), (4, .int x4)] [] := by
  intro H locs ls hw hl
  have hx := C.1
  have hb := C.2.1
  unfold fX9_part at hf
  refine lv_iload hx hb dX9_part_0 (lv_at hl 2 rfl) ?_
  refine lv_if_ne (tgt := 9) hx hb dX9_part_2 (by decide) (fun c_1 => ?_) (fun c_1 => ?_)
  · have hf := sn_el c_1 hf
    refine lv_lload_n hx hb dX9_part_9 rfl (lv_at hl 1 rfl) ?_
    exact wX9_part_10 C  hf kr _ _ _ hw (lv_sub hl [0, 1] rfl)
  · have hf := sn_if c_1 hf
    refine lv_lload_n hx hb dX9_part_5 rfl (lv_at hl 0 rfl) ?_
    refine lv_goto (tgt := 10) hx hb dX9_part_6 (by decide) ?_
    exact wX9_part_10 C  hf kr _ _ _ hw (lv_sub hl [0, 1] rfl)
theorem ctX9_part (l : Launch) {σ : sn_S} {x0 : Int64} {x2 : Int64} {x4 : Int32}  {o : Int64} (hf : fX9_part x0 x2 x4 = some o) : sn_M l yX9_part cX9_part 5 (some .long) rmX9_part layM (fun ad => [.long x0, .long x2, .int x4]) σ (some (fun _ => .long o)) σ :=
  sn_met (by decide) (fun _ => Nat.le_of_ble_eq_true rfl) (fun p e s m args below meth c ls D ct ad A C hw hl => wX9_part_in C  hf (fun H locs ls pc hw ok hd => sn_lret C hw hd) _ _ _ hw hl)
-- X9_layPuffs
abbrev rmX9_layPuffs : Room := { frames := 5, cells := 0, slots := 0, locals := 117 }
def BX9_layPuffs_223 (σ : sn_S) : Option (sn_S) :=
  (some σ)
def BX9_layPuffs_217 (σ : sn_S) (x1 : Int32) (x2 : Int32) (x3 : Int32) (x4 : Int32) : Option ((sn_S × Int32) ⊕ (sn_S)) :=
  (sn_lt (x4 + 1) fun y_1 => (some (.inl (σ, y_1))))
def BX9_layPuffs_213 (σ : sn_S) (x1 : Int32) (x2 : Int32) (x3 : Int32) (x4 : Int32) (t1 : Int64) (t2 : Int64) : Option ((sn_S × Int32) ⊕ (sn_S)) :=
  (sn_lt (sn_pL σ 0 41 (t1 + t2)) fun σ_1 => (BX9_layPuffs_217 σ_1 x1 x2 x3 x4))
def BX9_layPuffs_190 (σ : sn_S) (x1 : Int32) (x2 : Int32) (x3 : Int32) (x4 : Int32) (x5 : Int64) (t1 : Int64) (t2 : Int64) : Option ((sn_S × Int32) ⊕ (sn_S)) :=
  (sn_lt (sn_pL σ 0 40 (t1 + t2)) fun σ_1 => ((fX9_ruinOf σ_1).bind fun t_3 => (if t_3.1 = (-1 : Int32) then
  (BX9_layPuffs_213 t_3.2 x1 x2 x3 x4 (sn_L σ_1 0 41) (0 : Int64))
  else
  (BX9_layPuffs_213 t_3.2 x1 x2 x3 x4 (sn_L σ_1 0 41) x5))))
def BX9_layPuffs_158 (σ : sn_S) (x1 : Int32) (x2 : Int32) (x3 : Int32) (x4 : Int32) (x5 : Int64) (t1 : Int64) (t2 : Int64) : Option ((sn_S × Int32) ⊕ (sn_S)) :=
  (sn_lt (sn_pL σ 0 39 (t1 + t2)) fun σ_1 => (sn_gd (sn_in (8 : Int32) 119) (if (sn_I σ_1 1 (8 : Int32).toNatClampNeg) ≤ 0 then
  (BX9_layPuffs_190 σ_1 x1 x2 x3 x4 x5 (sn_L σ_1 0 40) (0 : Int64))
  else
  ((fX9_claimOf_ σ_1 x3).bind fun t_5 => (BX9_layPuffs_190 t_5.2 x1 x2 x3 x4 x5 (sn_L σ_1 0 40) (x5 * t_5.1.toInt64))))))
def BX9_layPuffs_113 (σ : sn_S) (x1 : Int32) (x2 : Int32) (x3 : Int32) (x4 : Int32) (x5 : Int64) : Option ((sn_S × Int32) ⊕ (sn_S)) :=
  (if (lg_cmp x5 (0 : Int64)) = 0 then
  (BX9_layPuffs_217 σ x1 x2 x3 x4)
  else
  ((fX9_goAll σ).bind fun t_2 => (sn_lt (sn_pL t_2 0 38 ((sn_L t_2 0 38) + x5)) fun σ_4 => (sn_gd (sn_in x2 6) (if (sn_I σ_4 10 x2.toNatClampNeg) = 0 then
  (BX9_layPuffs_158 σ_4 x1 x2 x3 x4 x5 (sn_L σ_4 0 39) (0 : Int64))
  else
  (BX9_layPuffs_158 σ_4 x1 x2 x3 x4 x5 (sn_L σ_4 0 39) x5))))))
def BX9_layPuffs_104 (σ : sn_S) (x1 : Int32) (x2 : Int32) (x3 : Int32) (x4 : Int32) (x5 : Int64) (x7 : Int32) (t0 : Int64) (t1 : Int64) : Option ((sn_S × Int64 × Int32) ⊕ (sn_S × Int64)) :=
  (sn_lt (t0 * t1) fun y_1 => (sn_lt (x7 + 1) fun y_3 => (some (.inl (σ, y_1, y_3)))))
def BX9_layPuffs_46 (σ : sn_S) (x1 : Int32) (x2 : Int32) (x3 : Int32) (x4 : Int32) (x5 : Int64) (x7 : Int32) : Option ((sn_S × Int64 × Int32) ⊕ (sn_S × Int64)) :=
  (if x1 < x7 then
  (some (.inr (σ, x5)))
  else
  (sn_gd (sn_in x7 30) ((fX9_bit x4 x7).bind fun t_3 => (sn_gd (sn_in x7 30) (sn_lt (sn_pI σ 7 x7.toNatClampNeg ((sn_I σ 7 x7.toNatClampNeg) + ((3 : Int32) * t_3))) fun σ_6 => ((fX9_bit x4 x7).bind fun t_8 => (if t_8 = (1 : Int32) then
  (sn_gd (sn_in (4 : Int32) 119) (BX9_layPuffs_104 σ_6 x1 x2 x3 x4 x5 x7 x5 ((sn_I σ_6 1 (4 : Int32).toNatClampNeg).toInt64)))
  else
  (sn_gd (sn_in (4 : Int32) 119) (BX9_layPuffs_104 σ_6 x1 x2 x3 x4 x5 x7 x5 (((10 : Int32) - (sn_I σ_6 1 (4 : Int32).toNatClampNeg)).toInt64))))))))))
def LX9_layPuffs_46 (x1 : Int32) (x2 : Int32) (x3 : Int32) (x4 : Int32) (s : sn_S × Int64 × Int32) : Option ((sn_S × Int64 × Int32) ⊕ (sn_S × Int64)) := BX9_layPuffs_46 s.1 x1 x2 x3 x4 s.2.1 s.2.2
def BX9_layPuffs_23 (σ : sn_S) (x1 : Int32) (x2 : Int32) (x3 : Int32) (x4 : Int32) : Option ((sn_S × Int32) ⊕ (sn_S)) :=
  (if ((2 : Int32) <<< (x1 &&& 31)) ≤ x4 then
  (some (.inr (σ)))
  else
  ((fX9_asItIs σ).bind fun t_2 => (sn_lt (sn_pI t_2 0 22 x1) fun σ_4 => ((sn_it (LX9_layPuffs_46 x1 x2 x3 x4) 5000 (σ_4, (1 : Int64), (0 : Int32))).bind fun t_6 => (BX9_layPuffs_113 t_6.1 x1 x2 x3 x4 t_6.2)))))
def LX9_layPuffs_23 (x1 : Int32) (x2 : Int32) (x3 : Int32) (s : sn_S × Int32) : Option ((sn_S × Int32) ⊕ (sn_S)) := BX9_layPuffs_23 s.1 x1 x2 x3 s.2
def fX9_layPuffs (σ : sn_S) (x1 : Int32) (x2 : Int32) (x3 : Int32) : Option sn_S :=
  (sn_lt (sn_pL σ 0 38 (0 : Int64)) fun σ_1 => (sn_lt (sn_pL σ_1 0 39 (0 : Int64)) fun σ_3 => (sn_lt (sn_pL σ_3 0 40 (0 : Int64)) fun σ_5 => (sn_lt (sn_pL σ_5 0 41 (0 : Int64)) fun σ_7 => ((sn_it (LX9_layPuffs_23 x1 x2 x3) 5000 (σ_7, (0 : Int32))).bind fun t_9 => (BX9_layPuffs_223 t_9))))))
theorem wX9_layPuffs_223 (C : sn_C p s m args meth c RX9 cX9_layPuffs 8 none D ct ad layM A) {σ : sn_S}  {o : sn_S} (hf : BX9_layPuffs_223 σ = some o) (kr : sn_Kr p l e rmX9_layPuffs s m args below meth c Q D ct ad layM A cX9_layPuffs .return_ (true) o []) : sn_At p l e rmX9_layPuffs s m args below meth c Q D ct ad layM A 8 σ 223 [] [] := by
  intro H locs ls hw hl
  have hx := C.1
  have hb := C.2.1
  unfold BX9_layPuffs_223 at hf
  cases hf
  exact kr _ _ _ _ hw rfl dX9_layPuffs_223
theorem wX9_layPuffs_217 (C : sn_C p s m args meth c RX9 cX9_layPuffs 8 none D ct ad layM A) {σ : sn_S} {x1 : Int32} {x2 : Int32} {x3 : Int32} {x4 : Int32}  {o : (sn_S × Int32) ⊕ (sn_S)} (hf : BX9_layPuffs_217 σ x1 x2 x3 x4 = some o) (kc : ∀ v, o = .inl v → sn_At p l e rmX9_layPuffs s m args below meth c Q D ct ad layM A 8 v.1 23 [(0, .ref (ad 0)), (1, .int x1), (2, .int x2), (3, .int x3), (4, .int v.2)] []) (kx : ∀ v, o = .inr v → sn_At p l e rmX9_layPuffs s m args below meth c Q D ct ad layM A 8 v 223 [] []) : sn_At p l e rmX9_layPuffs s m args below meth c Q D ct ad layM A 8 σ 217 [(0, .ref (ad 0)), (1, .int x1), (2, .int x2), (3, .int x3), (4, .int x4)] [] := by
  intro H locs ls hw hl
  have hx := C.1
  have hb := C.2.1
  unfold BX9_layPuffs_217 at hf
  obtain ⟨y_1, e_2, hf⟩ := sn_ltE hf
  refine lv_iinc (v := y_1) (lv' := [(4, .int y_1), (0, .ref (ad 0)), (1, .int x1), (2, .int x2), (3, .int x3)]) hx hb dX9_layPuffs_217 hl (k := 4) rfl (by rw [e_2]; rfl) (by decide) rfl (fun ls hl => ?_)
  refine lv_goto (tgt := 23) hx hb dX9_layPuffs_220 (by decide) ?_
  cases hf
  exact kc _ rfl _ _ _ hw (lv_sub hl [1, 2, 3, 4, 0] rfl)
theorem wX9_layPuffs_213 (C : sn_C p s m args meth c RX9 cX9_layPuffs 8 none D ct ad layM A) {σ : sn_S} {x1 : Int32} {x2 : Int32} {x3 : Int32} {x4 : Int32} {t1 : Int64} {t2 : Int64}  {o : (sn_S × Int32) ⊕ (sn_S)} (hf : BX9_layPuffs_213 σ x1 x2 x3 x4 t1 t2 = some o) (kc : ∀ v, o = .inl v → sn_At p l e rmX9_layPuffs s m args below meth c Q D ct ad layM A 8 v.1 23 [(0, .ref (ad 0)), (1, .int x1), (2, .int x2), (3, .int x3), (4, .int v.2)] []) (kx : ∀ v, o = .inr v → sn_At p l e rmX9_layPuffs s m args below meth c Q D ct ad layM A 8 v 223 [] []) : sn_At p l e rmX9_layPuffs s m args below meth c Q D ct ad layM A 8 σ 213 [(0, .ref (ad 0)), (1, .int x1), (2, .int x2), (3, .int x3), (4, .int x4)] [.long t2, .long t1, .ref (ad 0)] := by
  intro H locs ls hw hl
  have hx := C.1
  have hb := C.2.1
  unfold BX9_layPuffs_213 at hf
  refine lv_ladd hx hb dX9_layPuffs_213 ?_
  refine sn_putL C hw fp_RX9_408 layM_0 rfl dX9_layPuffs_214 (fun H locs hw => ?_)
  obtain ⟨σ_1, e_2, hf⟩ := sn_ltE hf
  rw [← e_2] at hw
  exact wX9_layPuffs_217 C  hf kc kx _ _ _ hw (lv_sub hl [0, 1, 2, 3, 4] rfl)
theorem wX9_layPuffs_190 (C : sn_C p s m args meth c RX9 cX9_layPuffs 8 none D ct ad layM A) {σ : sn_S} {x1 : Int32} {x2 : Int32} {x3 : Int32} {x4 : Int32} {x5 : Int64} {t1 : Int64} {t2 : Int64}  {o : (sn_S × Int32) ⊕ (sn_S)} (hf : BX9_layPuffs_190 σ x1 x2 x3 x4 x5 t1 t2 = some o) (kc : ∀ v, o = .inl v → sn_At p l e rmX9_layPuffs s m args below meth c Q D ct ad layM A 8 v.1 23 [(0, .ref (ad 0)), (1, .int x1), (2, .int x2), (3, .int x3), (4, .int v.2)] []) (kx : ∀ v, o = .inr v → sn_At p l e rmX9_layPuffs s m args below meth c Q D ct ad layM A 8 v 223 [] []) : sn_At p l e rmX9_layPuffs s m args below meth c Q D ct ad layM A 8 σ 190 [(0, .ref (ad 0)), (1, .int x1), (2, .int x2), (3, .int x3), (4, .int x4), (5, .long x5)] [.long t2, .long t1, .ref (ad 0)] := by
  intro H locs ls hw hl
  have hx := C.1
  have hb := C.2.1
  unfold BX9_layPuffs_190 at hf
  refine lv_ladd hx hb dX9_layPuffs_190 ?_
  refine sn_putL C hw fp_RX9_405 layM_0 rfl dX9_layPuffs_191 (fun H locs hw => ?_)
  obtain ⟨σ_1, e_2, hf⟩ := sn_ltE hf
  rw [← e_2] at hw
  refine lv_aload_n hx hb dX9_layPuffs_194 rfl (lv_at hl 0 rfl) ?_
  refine lv_dup hx hb dX9_layPuffs_195 rfl ?_
  refine sn_getL C hw fd_RX9_408 layM_0 rfl dX9_layPuffs_196 ?_
  refine lv_aload_n hx hb dX9_layPuffs_199 rfl (lv_at hl 0 rfl) ?_
  obtain ⟨t_3, h_4, hf⟩ := sn_bd hf
  refine sn_callVi (rest := [.long (sn_L σ_1 0 41), .ref (ad 0)]) C hw (ctX9_ruinOf l  h_4) kl_RX9_329 layM_0 rfl rfl rfl rfl (Nat.le_of_ble_eq_true rfl) dX9_layPuffs_200 hl.1 (fun H locs hw => ?_)
  refine lv_iconst (v := (-1)) hx hb dX9_layPuffs_203 rfl ?_
  refine lv_icmp_eq (tgt := 212) hx hb dX9_layPuffs_204 (by decide) (fun c_5 => ?_) (fun c_5 => ?_)
  · have hf := sn_if c_5 hf
    refine lv_lconst (v := 0) hx hb dX9_layPuffs_212 rfl ?_
    exact wX9_layPuffs_213 C  hf kc kx _ _ _ hw (lv_sub hl [0, 1, 2, 3, 4] rfl)
  · have hf := sn_el c_5 hf
    refine lv_lload hx hb dX9_layPuffs_207 (lv_at hl 5 rfl) ?_
    refine lv_goto (tgt := 213) hx hb dX9_layPuffs_209 (by decide) ?_
    exact wX9_layPuffs_213 C  hf kc kx _ _ _ hw (lv_sub hl [0, 1, 2, 3, 4] rfl)
theorem wX9_layPuffs_158 (C : sn_C p s m args meth c RX9 cX9_layPuffs 8 none D ct ad layM A) {σ : sn_S} {x1 : Int32} {x2 : Int32} {x3 : Int32} {x4 : Int32} {x5 : Int64} {t1 : Int64} {t2 : Int64}  {o : (sn_S × Int32) ⊕ (sn_S)} (hf : BX9_layPuffs_158 σ x1 x2 x3 x4 x5 t1 t2 = some o) (kc : ∀ v, o = .inl v → sn_At p l e rmX9_layPuffs s m args below meth c Q D ct ad layM A 8 v.1 23 [(0, .ref (ad 0)), (1, .int x1), (2, .int x2), (3, .int x3), (4, .int v.2)] []) (kx : ∀ v, o = .inr v → sn_At p l e rmX9_layPuffs s m args below meth c Q D ct ad layM A 8 v 223 [] []) : sn_At p l e rmX9_layPuffs s m args below meth c Q D ct ad layM A 8 σ 158 [(0, .ref (ad 0)), (1, .int x1), (2, .int x2), (3, .int x3), (4, .int x4), (5, .long x5)] [.long t2, .long t1, .ref (ad 0)] := by
  intro H locs ls hw hl
  have hx := C.1
  have hb := C.2.1
  unfold BX9_layPuffs_158 at hf
  refine lv_ladd hx hb dX9_layPuffs_158 ?_
  refine sn_putL C hw fp_RX9_402 layM_0 rfl dX9_layPuffs_159 (fun H locs hw => ?_)
  obtain ⟨σ_1, e_2, hf⟩ := sn_ltE hf
  rw [← e_2] at hw
  refine lv_aload_n hx hb dX9_layPuffs_162 rfl (lv_at hl 0 rfl) ?_
  refine lv_dup hx hb dX9_layPuffs_163 rfl ?_
  refine sn_getL C hw fd_RX9_405 layM_0 rfl dX9_layPuffs_164 ?_
  refine lv_aload_n hx hb dX9_layPuffs_167 rfl (lv_at hl 0 rfl) ?_
  refine sn_getC (r := 1) C hw fd_RX9_9 layM_0 rfl dX9_layPuffs_168 ?_
  refine lv_bipush (v := 8) hx hb dX9_layPuffs_171 (by decide) ?_
  obtain ⟨g_3, hf⟩ := sn_gdE hf
  refine sn_iald C hw layM_1 g_3 dX9_layPuffs_173 ?_
  refine lv_if_le (tgt := 189) hx hb dX9_layPuffs_174 (by decide) (fun c_4 => ?_) (fun c_4 => ?_)
  · have hf := sn_if c_4 hf
    refine lv_lconst (v := 0) hx hb dX9_layPuffs_189 rfl ?_
    exact wX9_layPuffs_190 C  hf kc kx _ _ _ hw (lv_sub hl [0, 1, 2, 3, 4, 5] rfl)
  · have hf := sn_el c_4 hf
    refine lv_lload hx hb dX9_layPuffs_177 (lv_at hl 5 rfl) ?_
    refine lv_aload_n hx hb dX9_layPuffs_179 rfl (lv_at hl 0 rfl) ?_
    refine lv_iload_n hx hb dX9_layPuffs_180 rfl (lv_at hl 3 rfl) ?_
    obtain ⟨t_5, h_6, hf⟩ := sn_bd hf
    refine sn_callVi (rest := [.long x5, .long (sn_L σ_1 0 40), .ref (ad 0)]) C hw (ctX9_claimOf_ l  h_6) kl_RX9_326 layM_0 rfl rfl rfl rfl (Nat.le_of_ble_eq_true rfl) dX9_layPuffs_181 hl.1 (fun H locs hw => ?_)
    refine lv_i2l hx hb dX9_layPuffs_184 rfl ?_
    refine lv_lmul hx hb dX9_layPuffs_185 ?_
    refine lv_goto (tgt := 190) hx hb dX9_layPuffs_186 (by decide) ?_
    exact wX9_layPuffs_190 C  hf kc kx _ _ _ hw (lv_sub hl [0, 1, 2, 3, 4, 5] rfl)
theorem wX9_layPuffs_113 (C : sn_C p s m args meth c RX9 cX9_layPuffs 8 none D ct ad layM A) {σ : sn_S} {x1 : Int32} {x2 : Int32} {x3 : Int32} {x4 : Int32} {x5 : Int64}  {o : (sn_S × Int32) ⊕ (sn_S)} (hf : BX9_layPuffs_113 σ x1 x2 x3 x4 x5 = some o) (kc : ∀ v, o = .inl v → sn_At p l e rmX9_layPuffs s m args below meth c Q D ct ad layM A 8 v.1 23 [(0, .ref (ad 0)), (1, .int x1), (2, .int x2), (3, .int x3), (4, .int v.2)] []) (kx : ∀ v, o = .inr v → sn_At p l e rmX9_layPuffs s m args below meth c Q D ct ad layM A 8 v 223 [] []) : sn_At p l e rmX9_layPuffs s m args below meth c Q D ct ad layM A 8 σ 113 [(0, .ref (ad 0)), (1, .int x1), (2, .int x2), (3, .int x3), (4, .int x4), (5, .long x5)] [] := by
  intro H locs ls hw hl
  have hx := C.1
  have hb := C.2.1
  unfold BX9_layPuffs_113 at hf
  refine lv_lload hx hb dX9_layPuffs_113 (lv_at hl 5 rfl) ?_
  refine lv_lconst (v := 0) hx hb dX9_layPuffs_115 rfl ?_
  refine W.lcmp hx hb dX9_layPuffs_116 ?_
  refine lv_if_ne (tgt := 123) hx hb dX9_layPuffs_117 (by decide) (fun c_1 => ?_) (fun c_1 => ?_)
  · have hf := sn_el c_1 hf
    refine lv_aload_n hx hb dX9_layPuffs_123 rfl (lv_at hl 0 rfl) ?_
    obtain ⟨t_2, h_3, hf⟩ := sn_bd hf
    refine sn_callVv (rest := []) C hw (ctX9_goAll l  h_3) kl_RX9_266 layM_0 rfl rfl rfl rfl (Nat.le_of_ble_eq_true rfl) dX9_layPuffs_124 hl.1 (fun H locs hw => ?_)
    refine lv_aload_n hx hb dX9_layPuffs_127 rfl (lv_at hl 0 rfl) ?_
    refine lv_dup hx hb dX9_layPuffs_128 rfl ?_
    refine sn_getL C hw fd_RX9_398 layM_0 rfl dX9_layPuffs_129 ?_
    refine lv_lload hx hb dX9_layPuffs_132 (lv_at hl 5 rfl) ?_
    refine lv_ladd hx hb dX9_layPuffs_134 ?_
    refine sn_putL C hw fp_RX9_398 layM_0 rfl dX9_layPuffs_135 (fun H locs hw => ?_)
    obtain ⟨σ_4, e_5, hf⟩ := sn_ltE hf
    rw [← e_5] at hw
    refine lv_aload_n hx hb dX9_layPuffs_138 rfl (lv_at hl 0 rfl) ?_
    refine lv_dup hx hb dX9_layPuffs_139 rfl ?_
    refine sn_getL C hw fd_RX9_402 layM_0 rfl dX9_layPuffs_140 ?_
    refine lv_aload_n hx hb dX9_layPuffs_143 rfl (lv_at hl 0 rfl) ?_
    refine sn_getC (r := 10) C hw fd_RX9_43 layM_0 rfl dX9_layPuffs_144 ?_
    refine lv_iload_n hx hb dX9_layPuffs_147 rfl (lv_at hl 2 rfl) ?_
    obtain ⟨g_6, hf⟩ := sn_gdE hf
    refine sn_iald C hw layM_10 g_6 dX9_layPuffs_148 ?_
    refine lv_if_eq (tgt := 157) hx hb dX9_layPuffs_149 (by decide) (fun c_7 => ?_) (fun c_7 => ?_)
    · have hf := sn_if c_7 hf
      refine lv_lconst (v := 0) hx hb dX9_layPuffs_157 rfl ?_
      exact wX9_layPuffs_158 C  hf kc kx _ _ _ hw (lv_sub hl [0, 1, 2, 3, 4, 5] rfl)
    · have hf := sn_el c_7 hf
      refine lv_lload hx hb dX9_layPuffs_152 (lv_at hl 5 rfl) ?_
      refine lv_goto (tgt := 158) hx hb dX9_layPuffs_154 (by decide) ?_
      exact wX9_layPuffs_158 C  hf kc kx _ _ _ hw (lv_sub hl [0, 1, 2, 3, 4, 5] rfl)
  · have hf := sn_if c_1 hf
    refine lv_goto (tgt := 217) hx hb dX9_layPuffs_120 (by decide) ?_
    exact wX9_layPuffs_217 C  hf kc kx _ _ _ hw (lv_sub hl [0, 1, 2, 3, 4] rfl)
theorem wX9_layPuffs_104 (C : sn_C p s m args meth c RX9 cX9_layPuffs 8 none D ct ad layM A) {σ : sn_S} {x1 : Int32} {x2 : Int32} {x3 : Int32} {x4 : Int32} {x5 : Int64} {x7 : Int32} {t0 : Int64} {t1 : Int64}  {o : (sn_S × Int64 × Int32) ⊕ (sn_S × Int64)} (hf : BX9_layPuffs_104 σ x1 x2 x3 x4 x5 x7 t0 t1 = some o) (kc : ∀ v, o = .inl v → sn_At p l e rmX9_layPuffs s m args below meth c Q D ct ad layM A 8 v.1 46 [(0, .ref (ad 0)), (1, .int x1), (2, .int x2), (3, .int x3), (4, .int x4), (5, .long v.2.1), (7, .int v.2.2)] []) (kx : ∀ v, o = .inr v → sn_At p l e rmX9_layPuffs s m args below meth c Q D ct ad layM A 8 v.1 113 [(0, .ref (ad 0)), (1, .int x1), (2, .int x2), (3, .int x3), (4, .int x4), (5, .long v.2)] []) : sn_At p l e rmX9_layPuffs s m args below meth c Q D ct ad layM A 8 σ 104 [(0, .ref (ad 0)), (1, .int x1), (2, .int x2), (3, .int x3), (4, .int x4), (5, .long x5), (7, .int x7)] [.long t1, .long t0] := by
  intro H locs ls hw hl
  have hx := C.1
  have hb := C.2.1
  unfold BX9_layPuffs_104 at hf
  refine lv_lmul hx hb dX9_layPuffs_104 ?_
  obtain ⟨y_1, e_2, hf⟩ := sn_ltE hf
  refine lv_topl (fun y_1_ e_2_ => ?_)
  obtain rfl : y_1 = y_1_ := e_2.trans e_2_.symm
  refine lv_lstore (lv' := [(5, .long y_1), (0, .ref (ad 0)), (1, .int x1), (2, .int x2), (3, .int x3), (4, .int x4), (7, .int x7)]) hx hb dX9_layPuffs_105 hl (by decide) rfl (fun ls hl => ?_)
  obtain ⟨y_3, e_4, hf⟩ := sn_ltE hf
  refine lv_iinc (v := y_3) (lv' := [(7, .int y_3), (5, .long y_1), (0, .ref (ad 0)), (1, .int x1), (2, .int x2), (3, .int x3), (4, .int x4)]) hx hb dX9_layPuffs_107 hl (k := 6) rfl (by rw [e_4]; rfl) (by decide) rfl (fun ls hl => ?_)
  refine lv_goto (tgt := 46) hx hb dX9_layPuffs_110 (by decide) ?_
  cases hf
  exact kc _ rfl _ _ _ hw (lv_sub hl [2, 3, 4, 5, 6, 1, 0] rfl)
theorem wX9_layPuffs_46 (C : sn_C p s m args meth c RX9 cX9_layPuffs 8 none D ct ad layM A) {σ : sn_S} {x1 : Int32} {x2 : Int32} {x3 : Int32} {x4 : Int32} {x5 : Int64} {x7 : Int32}  {o : (sn_S × Int64 × Int32) ⊕ (sn_S × Int64)} (hf : BX9_layPuffs_46 σ x1 x2 x3 x4 x5 x7 = some o) (kc : ∀ v, o = .inl v → sn_At p l e rmX9_layPuffs s m args below meth c Q D ct ad layM A 8 v.1 46 [(0, .ref (ad 0)), (1, .int x1), (2, .int x2), (3, .int x3), (4, .int x4), (5, .long v.2.1), (7, .int v.2.2)] []) (kx : ∀ v, o = .inr v → sn_At p l e rmX9_layPuffs s m args below meth c Q D ct ad layM A 8 v.1 113 [(0, .ref (ad 0)), (1, .int x1), (2, .int x2), (3, .int x3), (4, .int x4), (5, .long v.2)] []) : sn_At p l e rmX9_layPuffs s m args below meth c Q D ct ad layM A 8 σ 46 [(0, .ref (ad 0)), (1, .int x1), (2, .int x2), (3, .int x3), (4, .int x4), (5, .long x5), (7, .int x7)] [] := by
  intro H locs ls hw hl
  have hx := C.1
  have hb := C.2.1
  unfold BX9_layPuffs_46 at hf
  refine lv_iload hx hb dX9_layPuffs_46 (lv_at hl 6 rfl) ?_
  refine lv_iload_n hx hb dX9_layPuffs_48 rfl (lv_at hl 1 rfl) ?_
  refine lv_icmp_gt (tgt := 113) hx hb dX9_layPuffs_49 (by decide) (fun c_1 => ?_) (fun c_1 => ?_)
  · have hf := sn_if c_1 hf
    cases hf
    exact kx _ rfl _ _ _ hw (lv_sub hl [0, 1, 2, 3, 4, 5] rfl)
  · have hf := sn_el c_1 hf
    refine lv_aload_n hx hb dX9_layPuffs_52 rfl (lv_at hl 0 rfl) ?_
    refine sn_getC (r := 7) C hw fd_RX9_34 layM_0 rfl dX9_layPuffs_53 ?_
    refine lv_iload hx hb dX9_layPuffs_56 (lv_at hl 6 rfl) ?_
    refine lv_dup2_11 hx hb dX9_layPuffs_58 rfl rfl ?_
    obtain ⟨g_2, hf⟩ := sn_gdE hf
    refine sn_iald C hw layM_7 g_2 dX9_layPuffs_59 ?_
    refine lv_iconst (v := 3) hx hb dX9_layPuffs_60 rfl ?_
    refine lv_iload hx hb dX9_layPuffs_61 (lv_at hl 4 rfl) ?_
    refine lv_iload hx hb dX9_layPuffs_63 (lv_at hl 6 rfl) ?_
    obtain ⟨t_3, h_4, hf⟩ := sn_bd hf
    refine sn_callSi (rest := [.int (3 : Int32), .int (sn_I σ 7 x7.toNatClampNeg), .int x7, .ref (ad 7)]) C hw (ctX9_bit l  h_4) kl_RX9_254 rfl rfl rfl (Nat.le_of_ble_eq_true rfl) dX9_layPuffs_65 hl.1 (fun H locs hw => ?_)
    refine lv_imul hx hb dX9_layPuffs_68 ?_
    refine lv_iadd hx hb dX9_layPuffs_69 ?_
    obtain ⟨g_5, hf⟩ := sn_gdE hf
    refine sn_iast C hw layM_7 g_5 dX9_layPuffs_70 (fun H locs hw => ?_)
    obtain ⟨σ_6, e_7, hf⟩ := sn_ltE hf
    rw [← e_7] at hw
    refine lv_lload hx hb dX9_layPuffs_71 (lv_at hl 5 rfl) ?_
    refine lv_iload hx hb dX9_layPuffs_73 (lv_at hl 4 rfl) ?_
    refine lv_iload hx hb dX9_layPuffs_75 (lv_at hl 6 rfl) ?_
    obtain ⟨t_8, h_9, hf⟩ := sn_bd hf
    refine sn_callSi (rest := [.long x5]) C hw (ctX9_bit l  h_9) kl_RX9_254 rfl rfl rfl (Nat.le_of_ble_eq_true rfl) dX9_layPuffs_77 hl.1 (fun H locs hw => ?_)
    refine lv_iconst (v := 1) hx hb dX9_layPuffs_80 rfl ?_
    refine lv_icmp_ne (tgt := 94) hx hb dX9_layPuffs_81 (by decide) (fun c_10 => ?_) (fun c_10 => ?_)
    · have hf := sn_el c_10 hf
      refine lv_bipush (v := 10) hx hb dX9_layPuffs_94 (by decide) ?_
      refine lv_aload_n hx hb dX9_layPuffs_96 rfl (lv_at hl 0 rfl) ?_
      refine sn_getC (r := 1) C hw fd_RX9_9 layM_0 rfl dX9_layPuffs_97 ?_
      refine lv_iconst (v := 4) hx hb dX9_layPuffs_100 rfl ?_
      obtain ⟨g_11, hf⟩ := sn_gdE hf
      refine sn_iald C hw layM_1 g_11 dX9_layPuffs_101 ?_
      refine lv_isub hx hb dX9_layPuffs_102 ?_
      refine lv_i2l hx hb dX9_layPuffs_103 rfl ?_
      exact wX9_layPuffs_104 C  hf kc kx _ _ _ hw (lv_sub hl [0, 1, 2, 3, 4, 5, 6] rfl)
    · have hf := sn_if c_10 hf
      refine lv_aload_n hx hb dX9_layPuffs_84 rfl (lv_at hl 0 rfl) ?_
      refine sn_getC (r := 1) C hw fd_RX9_9 layM_0 rfl dX9_layPuffs_85 ?_
      refine lv_iconst (v := 4) hx hb dX9_layPuffs_88 rfl ?_
      obtain ⟨g_12, hf⟩ := sn_gdE hf
      refine sn_iald C hw layM_1 g_12 dX9_layPuffs_89 ?_
      refine lv_i2l hx hb dX9_layPuffs_90 rfl ?_
      refine lv_goto (tgt := 104) hx hb dX9_layPuffs_91 (by decide) ?_
      exact wX9_layPuffs_104 C  hf kc kx _ _ _ hw (lv_sub hl [0, 1, 2, 3, 4, 5, 6] rfl)
theorem wX9_layPuffs_L46 (C : sn_C p s m args meth c RX9 cX9_layPuffs 8 none D ct ad layM A) {x1 : Int32} {x2 : Int32} {x3 : Int32} {x4 : Int32}   {z : sn_S × Int64 × Int32} {t : sn_S × Int64} (h : sn_it (LX9_layPuffs_46 x1 x2 x3 x4) 5000 z = some t) (kx : ∀ v, t = v → sn_At p l e rmX9_layPuffs s m args below meth c Q D ct ad layM A 8 v.1 113 [(0, .ref (ad 0)), (1, .int x1), (2, .int x2), (3, .int x3), (4, .int x4), (5, .long v.2)] []) : sn_At p l e rmX9_layPuffs s m args below meth c Q D ct ad layM A 8 z.1 46 [(0, .ref (ad 0)), (1, .int x1), (2, .int x2), (3, .int x3), (4, .int x4), (5, .long z.2.1), (7, .int z.2.2)] [] :=
  sn_loop (f := LX9_layPuffs_46 x1 x2 x3 x4) (G := fun z => sn_At p l e rmX9_layPuffs s m args below meth c Q D ct ad layM A 8 z.1 46 [(0, .ref (ad 0)), (1, .int x1), (2, .int x2), (3, .int x3), (4, .int x4), (5, .long z.2.1), (7, .int z.2.2)] []) (E := fun t => (∀ v, t = v → sn_At p l e rmX9_layPuffs s m args below meth c Q D ct ad layM A 8 v.1 113 [(0, .ref (ad 0)), (1, .int x1), (2, .int x2), (3, .int x3), (4, .int x4), (5, .long v.2)] []) ∧ True) (fun z o hf k1 k2 => wX9_layPuffs_46 C  hf (fun v e => k1 v e) (fun v e => (k2 _ e).1 v rfl)) 5000 z t h ⟨kx, trivial⟩
theorem wX9_layPuffs_23 (C : sn_C p s m args meth c RX9 cX9_layPuffs 8 none D ct ad layM A) {σ : sn_S} {x1 : Int32} {x2 : Int32} {x3 : Int32} {x4 : Int32}  {o : (sn_S × Int32) ⊕ (sn_S)} (hf : BX9_layPuffs_23 σ x1 x2 x3 x4 = some o) (kc : ∀ v, o = .inl v → sn_At p l e rmX9_layPuffs s m args below meth c Q D ct ad layM A 8 v.1 23 [(0, .ref (ad 0)), (1, .int x1), (2, .int x2), (3, .int x3), (4, .int v.2)] []) (kx : ∀ v, o = .inr v → sn_At p l e rmX9_layPuffs s m args below meth c Q D ct ad layM A 8 v 223 [] []) : sn_At p l e rmX9_layPuffs s m args below meth c Q D ct ad layM A 8 σ 23 [(0, .ref (ad 0)), (1, .int x1), (2, .int x2), (3, .int x3), (4, .int x4)] [] := by
  intro H locs ls hw hl
  have hx := C.1
  have hb := C.2.1
  unfold BX9_layPuffs_23 at hf
  refine lv_iload hx hb dX9_layPuffs_23 (lv_at hl 4 rfl) ?_
  refine lv_iconst (v := 2) hx hb dX9_layPuffs_25 rfl ?_
  refine lv_iload_n hx hb dX9_layPuffs_26 rfl (lv_at hl 1 rfl) ?_
  refine lv_ishl hx hb dX9_layPuffs_27 ?_
  refine lv_icmp_ge (tgt := 223) hx hb dX9_layPuffs_28 (by decide) (fun c_1 => ?_) (fun c_1 => ?_)
  · have hf := sn_if c_1 hf
    cases hf
    exact kx _ rfl _ _ _ hw (lv_sub hl [] rfl)
  · have hf := sn_el c_1 hf
    refine lv_lconst (v := 1) hx hb dX9_layPuffs_31 rfl ?_
    refine lv_lstore (lv' := [(5, .long (1 : Int64)), (0, .ref (ad 0)), (1, .int x1), (2, .int x2), (3, .int x3), (4, .int x4)]) hx hb dX9_layPuffs_32 hl (by decide) rfl (fun ls hl => ?_)
    refine lv_aload_n hx hb dX9_layPuffs_34 rfl (lv_at hl 1 rfl) ?_
    obtain ⟨t_2, h_3, hf⟩ := sn_bd hf
    refine sn_callVv (rest := []) C hw (ctX9_asItIs l  h_3) kl_RX9_263 layM_0 rfl rfl rfl rfl (Nat.le_of_ble_eq_true rfl) dX9_layPuffs_35 hl.1 (fun H locs hw => ?_)
    refine lv_aload_n hx hb dX9_layPuffs_38 rfl (lv_at hl 1 rfl) ?_
    refine lv_iload_n hx hb dX9_layPuffs_39 rfl (lv_at hl 2 rfl) ?_
    refine sn_putI C hw fp_RX9_251 layM_0 rfl dX9_layPuffs_40 (fun H locs hw => ?_)
    obtain ⟨σ_4, e_5, hf⟩ := sn_ltE hf
    rw [← e_5] at hw
    refine lv_iconst (v := 0) hx hb dX9_layPuffs_43 rfl ?_
    refine lv_istore (lv' := [(7, .int (0 : Int32)), (5, .long (1 : Int64)), (0, .ref (ad 0)), (1, .int x1), (2, .int x2), (3, .int x3), (4, .int x4)]) hx hb dX9_layPuffs_44 hl (by decide) rfl (fun ls hl => ?_)
    obtain ⟨t_6, h_7, hf⟩ := sn_bd hf
    exact wX9_layPuffs_L46 C  h_7 (fun v e => by cases e; exact wX9_layPuffs_113 C  hf kc kx) _ _ _ hw (lv_sub hl [2, 3, 4, 5, 6, 1, 0] rfl)
theorem wX9_layPuffs_L23 (C : sn_C p s m args meth c RX9 cX9_layPuffs 8 none D ct ad layM A) {x1 : Int32} {x2 : Int32} {x3 : Int32}   {z : sn_S × Int32} {t : sn_S} (h : sn_it (LX9_layPuffs_23 x1 x2 x3) 5000 z = some t) (kx : ∀ v, t = v → sn_At p l e rmX9_layPuffs s m args below meth c Q D ct ad layM A 8 v 223 [] []) : sn_At p l e rmX9_layPuffs s m args below meth c Q D ct ad layM A 8 z.1 23 [(0, .ref (ad 0)), (1, .int x1), (2, .int x2), (3, .int x3), (4, .int z.2)] [] :=
  sn_loop (f := LX9_layPuffs_23 x1 x2 x3) (G := fun z => sn_At p l e rmX9_layPuffs s m args below meth c Q D ct ad layM A 8 z.1 23 [(0, .ref (ad 0)), (1, .int x1), (2, .int x2), (3, .int x3), (4, .int z.2)] []) (E := fun t => (∀ v, t = v → sn_At p l e rmX9_layPuffs s m args below meth c Q D ct ad layM A 8 v 223 [] []) ∧ True) (fun z o hf k1 k2 => wX9_layPuffs_23 C  hf (fun v e => k1 v e) (fun v e => (k2 _ e).1 v rfl)) 5000 z t h ⟨kx, trivial⟩
theorem wX9_layPuffs_in (C : sn_C p s m args meth c RX9 cX9_layPuffs 8 none D ct ad layM A) {σ : sn_S} {x1 : Int32} {x2 : Int32} {x3 : Int32}  {o : sn_S} (hf : fX9_layPuffs σ x1 x2 x3 = some o) (kr : sn_Kr p l e rmX9_layPuffs s m args below meth c Q D ct ad layM A cX9_layPuffs .return_ (true) o []) : sn_At p l e rmX9_layPuffs s m args below meth c Q D ct ad layM A 8 σ 0 [(0, .ref (ad 0)), (1, .int x1), (2, .int x2), (3, .int x3)] [] := by
  intro H locs ls hw hl
  have hx := C.1
  have hb := C.2.1
  unfold fX9_layPuffs at hf
  refine lv_aload_n hx hb dX9_layPuffs_0 rfl (lv_at hl 0 rfl) ?_
  refine lv_lconst (v := 0) hx hb dX9_layPuffs_1 rfl ?_
  refine sn_putL C hw fp_RX9_398 layM_0 rfl dX9_layPuffs_2 (fun H locs hw => ?_)
  obtain ⟨σ_1, e_2, hf⟩ := sn_ltE hf
  rw [← e_2] at hw
  refine lv_aload_n hx hb dX9_layPuffs_5 rfl (lv_at hl 0 rfl) ?_
  refine lv_lconst (v := 0) hx hb dX9_layPuffs_6 rfl ?_
  refine sn_putL C hw fp_RX9_402 layM_0 rfl dX9_layPuffs_7 (fun H locs hw => ?_)
  obtain ⟨σ_3, e_4, hf⟩ := sn_ltE hf
  rw [← e_4] at hw
  refine lv_aload_n hx hb dX9_layPuffs_10 rfl (lv_at hl 0 rfl) ?_
  refine lv_lconst (v := 0) hx hb dX9_layPuffs_11 rfl ?_
  refine sn_putL C hw fp_RX9_405 layM_0 rfl dX9_layPuffs_12 (fun H locs hw => ?_)
  obtain ⟨σ_5, e_6, hf⟩ := sn_ltE hf
  rw [← e_6] at hw
  refine lv_aload_n hx hb dX9_layPuffs_15 rfl (lv_at hl 0 rfl) ?_
  refine lv_lconst (v := 0) hx hb dX9_layPuffs_16 rfl ?_
  refine sn_putL C hw fp_RX9_408 layM_0 rfl dX9_layPuffs_17 (fun H locs hw => ?_)
  obtain ⟨σ_7, e_8, hf⟩ := sn_ltE hf
  rw [← e_8] at hw
  refine lv_iconst (v := 0) hx hb dX9_layPuffs_20 rfl ?_
  refine lv_istore (lv' := [(4, .int (0 : Int32)), (0, .ref (ad 0)), (1, .int x1), (2, .int x2), (3, .int x3)]) hx hb dX9_layPuffs_21 hl (by decide) rfl (fun ls hl => ?_)
  obtain ⟨t_9, h_10, hf⟩ := sn_bd hf
  exact wX9_layPuffs_L23 C  h_10 (fun v e => by cases e; exact wX9_layPuffs_223 C  hf kr) _ _ _ hw (lv_sub hl [1, 2, 3, 4, 0] rfl)
theorem ctX9_layPuffs (l : Launch) {σ : sn_S} {x1 : Int32} {x2 : Int32} {x3 : Int32}  {o : sn_S} (hf : fX9_layPuffs σ x1 x2 x3 = some o) : sn_M l yX9_layPuffs cX9_layPuffs 8 none rmX9_layPuffs layM (fun ad => [.ref (ad 0), .int x1, .int x2, .int x3]) σ none o :=
  sn_met (by decide) (fun _ => Nat.le_of_ble_eq_true rfl) (fun p e s m args below meth c ls D ct ad A C hw hl => wX9_layPuffs_in C  hf (fun H locs ls pc hw ok hd => sn_vret C hw hd) _ _ _ hw hl)
end
