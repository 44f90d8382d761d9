section
variable {p : Program} {l : Launch} {e : Env} {s : State} {m : MethodId} {args : Array Value} {below : List Frame} {meth : Method} {c : Code} {Q : State → Prop} {D : va_G} {ct : Nat → ClassId} {ad : Nat → Nat} {A : Nat → Prop} {lay : List sn_E}
-- X9_chorus
abbrev rmX9_chorus : Room := { frames := 5, cells := 0, slots := 0, locals := 115 }
def BX9_chorus_42 (σ : sn_S) (x1 : Int32) : Option ((Int32 × sn_S)) :=
  (some (x1, σ))
def BX9_chorus_14 (σ : sn_S) (x1 : Int32) (x2 : Int32) : Option ((Int32 × Int32) ⊕ (Int32)) :=
  ((fX9_minutes σ).bind fun t_1 => (if t_1 ≤ x2 then
  (some (.inr (x1)))
  else
  (sn_gd (sn_in x2 30) ((fX9_bits (sn_I σ 11 x2.toNatClampNeg)).bind fun t_5 => (sn_lt (if x1 < t_5 then t_5 else x1) fun y_7 => (sn_lt (x2 + 1) fun y_9 => (some (.inl (y_7, y_9)))))))))
def LX9_chorus_14 (σ : sn_S) (s : Int32 × Int32) : Option ((Int32 × Int32) ⊕ (Int32)) := BX9_chorus_14 σ s.1 s.2
def fX9_chorus (σ : sn_S) : Option (Int32 × sn_S) :=
  ((fX9_asksHouse σ).bind fun t_1 => (if t_1.1 = 0 then
  (some ((-2 : Int32), t_1.2))
  else
  ((sn_it (LX9_chorus_14 t_1.2) 5000 ((0 : Int32), (0 : Int32))).bind fun t_4 => (BX9_chorus_42 t_1.2 t_4))))
theorem wX9_chorus_42 (C : sn_C p s m args meth c RX9 cX9_chorus 3 (some .int) D ct ad layM A) {σ : sn_S} {x1 : Int32}  {o : (Int32 × sn_S)} (hf : BX9_chorus_42 σ x1 = some o) (kr : sn_Kr p l e rmX9_chorus s m args below meth c Q D ct ad layM A cX9_chorus .ireturn (true) o.2 [.int o.1]) : sn_At p l e rmX9_chorus s m args below meth c Q D ct ad layM A 3 σ 42 [(1, .int x1)] [] := by
  intro H locs ls hw hl
  have hx := C.1
  have hb := C.2.1
  unfold BX9_chorus_42 at hf
  refine lv_iload_n hx hb dX9_chorus_42 rfl (lv_at hl 0 rfl) ?_
  cases hf
  exact kr _ _ _ _ hw rfl dX9_chorus_43
theorem wX9_chorus_14 (C : sn_C p s m args meth c RX9 cX9_chorus 3 (some .int) D ct ad layM A) {σ : sn_S} {x1 : Int32} {x2 : Int32}  {o : (Int32 × Int32) ⊕ (Int32)} (hf : BX9_chorus_14 σ x1 x2 = some o) (kc : ∀ v, o = .inl v → sn_At p l e rmX9_chorus s m args below meth c Q D ct ad layM A 3 σ 14 [(0, .ref (ad 0)), (1, .int v.1), (2, .int v.2)] []) (kx : ∀ v, o = .inr v → sn_At p l e rmX9_chorus s m args below meth c Q D ct ad layM A 3 σ 42 [(1, .int v)] []) : sn_At p l e rmX9_chorus s m args below meth c Q D ct ad layM A 3 σ 14 [(0, .ref (ad 0)), (1, .int x1), (2, .int x2)] [] := by
  intro H locs ls hw hl
  have hx := C.1
  have hb := C.2.1
  unfold BX9_chorus_14 at hf
  refine lv_iload_n hx hb dX9_chorus_14 rfl (lv_at hl 2 rfl) ?_
  refine lv_aload_n hx hb dX9_chorus_15 rfl (lv_at hl 0 rfl) ?_
  obtain ⟨t_1, h_2, hf⟩ := sn_bd hf
  refine sn_callVi (rest := [.int x2]) C hw (ctX9_minutes l  h_2) kl_RX9_249 layM_0 rfl rfl rfl rfl (Nat.le_of_ble_eq_true rfl) dX9_chorus_16 hl.1 (fun H locs hw => ?_)
  refine lv_icmp_ge (tgt := 42) hx hb dX9_chorus_19 (by decide) (fun c_3 => ?_) (fun c_3 => ?_)
  · have hf := sn_if c_3 hf
    cases hf
    exact kx _ rfl _ _ _ hw (lv_sub hl [1] rfl)
  · have hf := sn_el c_3 hf
    refine lv_iload_n hx hb dX9_chorus_22 rfl (lv_at hl 1 rfl) ?_
    refine lv_aload_n hx hb dX9_chorus_23 rfl (lv_at hl 0 rfl) ?_
    refine sn_getC (r := 11) C hw fd_RX9_46 layM_0 rfl dX9_chorus_24 ?_
    refine lv_iload_n hx hb dX9_chorus_27 rfl (lv_at hl 2 rfl) ?_
    obtain ⟨g_4, hf⟩ := sn_gdE hf
    refine sn_iald C hw layM_11 g_4 dX9_chorus_28 ?_
    obtain ⟨t_5, h_6, hf⟩ := sn_bd hf
    refine sn_callSi (rest := [.int x1]) C hw (ctX9_bits l  h_6) kl_RX9_278 rfl rfl rfl (Nat.le_of_ble_eq_true rfl) dX9_chorus_29 hl.1 (fun H locs hw => ?_)
    refine va_mmax hx hb (C.2.2.1.trans hl.1.symm) C.2.2.2.1 (C.2.2.2.2.1 _ km_RX9_293) (C.2.2.2.2.1 _ kst_maxI) (C.2.2.2.2.1 _ ki_Math) (C.2.2.2.2.1 _ kc_maxI) (Nat.le_of_ble_eq_true rfl) (Nat.le_of_ble_eq_true rfl) (Nat.zero_le _) (Nat.zero_le _) dX9_chorus_32 ?_
    obtain ⟨y_7, e_8, hf⟩ := sn_ltE hf
    refine lv_topi (fun y_7_ e_8_ => ?_)
    obtain rfl : y_7 = y_7_ := e_8.trans e_8_.symm
    refine lv_istore_n (lv' := [(1, .int y_7), (0, .ref (ad 0)), (2, .int x2)]) hx hb dX9_chorus_35 rfl hl (by decide) rfl (fun ls hl => ?_)
    obtain ⟨y_9, e_10, hf⟩ := sn_ltE hf
    refine lv_iinc (v := y_9) (lv' := [(2, .int y_9), (1, .int y_7), (0, .ref (ad 0))]) hx hb dX9_chorus_36 hl (k := 2) rfl (by rw [e_10]; rfl) (by decide) rfl (fun ls hl => ?_)
    refine lv_goto (tgt := 14) hx hb dX9_chorus_39 (by decide) ?_
    cases hf
    exact kc _ rfl _ _ _ hw (lv_sub hl [2, 1, 0] rfl)
theorem wX9_chorus_L14 (C : sn_C p s m args meth c RX9 cX9_chorus 3 (some .int) D ct ad layM A) {σ : sn_S}   {z : Int32 × Int32} {t : Int32} (h : sn_it (LX9_chorus_14 σ) 5000 z = some t) (kx : ∀ v, t = v → sn_At p l e rmX9_chorus s m args below meth c Q D ct ad layM A 3 σ 42 [(1, .int v)] []) : sn_At p l e rmX9_chorus s m args below meth c Q D ct ad layM A 3 σ 14 [(0, .ref (ad 0)), (1, .int z.1), (2, .int z.2)] [] :=
  sn_loop (f := LX9_chorus_14 σ) (G := fun z => sn_At p l e rmX9_chorus s m args below meth c Q D ct ad layM A 3 σ 14 [(0, .ref (ad 0)), (1, .int z.1), (2, .int z.2)] []) (E := fun t => (∀ v, t = v → sn_At p l e rmX9_chorus s m args below meth c Q D ct ad layM A 3 σ 42 [(1, .int v)] []) ∧ True) (fun z o hf k1 k2 => wX9_chorus_14 C  hf (fun v e => k1 v e) (fun v e => (k2 _ e).1 v rfl)) 5000 z t h ⟨kx, trivial⟩
theorem wX9_chorus_in (C : sn_C p s m args meth c RX9 cX9_chorus 3 (some .int) D ct ad layM A) {σ : sn_S}  {o : (Int32 × sn_S)} (hf : fX9_chorus σ = some o) (kr : sn_Kr p l e rmX9_chorus s m args below meth c Q D ct ad layM A cX9_chorus .ireturn (true) o.2 [.int o.1]) : sn_At p l e rmX9_chorus s m args below meth c Q D ct ad layM A 3 σ 0 [(0, .ref (ad 0))] [] := by
  intro H locs ls hw hl
  have hx := C.1
  have hb := C.2.1
  unfold fX9_chorus at hf
  refine lv_aload_n hx hb dX9_chorus_0 rfl (lv_at hl 0 rfl) ?_
  obtain ⟨t_1, h_2, hf⟩ := sn_bd hf
  refine sn_callVi (rest := []) C hw (ctX9_asksHouse l  h_2) kl_RX9_272 layM_0 rfl rfl rfl rfl (Nat.le_of_ble_eq_true rfl) dX9_chorus_1 hl.1 (fun H locs hw => ?_)
  refine lv_if_ne (tgt := 10) hx hb dX9_chorus_4 (by decide) (fun c_3 => ?_) (fun c_3 => ?_)
  · have hf := sn_el c_3 hf
    refine lv_iconst (v := 0) hx hb dX9_chorus_10 rfl ?_
    refine lv_istore_n (lv' := [(1, .int (0 : Int32)), (0, .ref (ad 0))]) hx hb dX9_chorus_11 rfl hl (by decide) rfl (fun ls hl => ?_)
    refine lv_iconst (v := 0) hx hb dX9_chorus_12 rfl ?_
    refine lv_istore_n (lv' := [(2, .int (0 : Int32)), (1, .int (0 : Int32)), (0, .ref (ad 0))]) hx hb dX9_chorus_13 rfl hl (by decide) rfl (fun ls hl => ?_)
    obtain ⟨t_4, h_5, hf⟩ := sn_bd hf
    exact wX9_chorus_L14 C  h_5 (fun v e => by cases e; exact wX9_chorus_42 C  hf kr) _ _ _ hw (lv_sub hl [2, 1, 0] rfl)
  · have hf := sn_if c_3 hf
    refine lv_bipush (v := (-2)) hx hb dX9_chorus_7 (by decide) ?_
    cases hf
    exact kr _ _ _ _ hw rfl dX9_chorus_9
theorem ctX9_chorus (l : Launch) {σ : sn_S}  {o : (Int32 × sn_S)} (hf : fX9_chorus σ = some o) : sn_M l yX9_chorus cX9_chorus 3 (some .int) rmX9_chorus layM (fun ad => [.ref (ad 0)]) σ (some (fun _ => .int o.1)) o.2 :=
  sn_met (by decide) (fun _ => Nat.le_of_ble_eq_true rfl) (fun p e s m args below meth c ls D ct ad A C hw hl => wX9_chorus_in C  hf (fun H locs ls pc hw ok hd => sn_iret C hw hd) _ _ _ hw hl)
-- X9_calm
abbrev rmX9_calm : Room := { frames := 5, cells := 0, slots := 0, locals := 115 }
def BX9_calm_53 (σ : sn_S) (x1 : Int32) : Option ((Int32 × sn_S)) :=
  (some (x1, σ))
def BX9_calm_40 (σ : sn_S) (x1 : Int32) (x2 : Int32) (x3 : Int32) (t0 : Int32) : Option ((Int32 × Int32 × Int32) ⊕ (Int32)) :=
  (sn_lt (if x1 < t0 then t0 else x1) fun y_1 => (sn_lt (x3 + 1) fun y_3 => (some (.inl (y_1, t0, y_3)))))
def BX9_calm_16 (σ : sn_S) (x1 : Int32) (x2 : Int32) (x3 : Int32) : Option ((Int32 × Int32 × Int32) ⊕ (Int32)) :=
  ((fX9_minutes σ).bind fun t_1 => (if t_1 ≤ x3 then
  (some (.inr (x1)))
  else
  (sn_gd (sn_in x3 30) (if (sn_I σ 11 x3.toNatClampNeg) = 0 then
  (BX9_calm_40 σ x1 x2 x3 (x2 + (1 : Int32)))
  else
  (BX9_calm_40 σ x1 x2 x3 (0 : Int32))))))
def LX9_calm_16 (σ : sn_S) (s : Int32 × Int32 × Int32) : Option ((Int32 × Int32 × Int32) ⊕ (Int32)) := BX9_calm_16 σ s.1 s.2.1 s.2.2
def fX9_calm (σ : sn_S) : Option (Int32 × sn_S) :=
  ((fX9_asksHouse σ).bind fun t_1 => (if t_1.1 = 0 then
  (some ((-2 : Int32), t_1.2))
  else
  ((sn_it (LX9_calm_16 t_1.2) 5000 ((0 : Int32), (0 : Int32), (0 : Int32))).bind fun t_4 => (BX9_calm_53 t_1.2 t_4))))
theorem wX9_calm_53 (C : sn_C p s m args meth c RX9 cX9_calm 4 (some .int) D ct ad layM A) {σ : sn_S} {x1 : Int32}  {o : (Int32 × sn_S)} (hf : BX9_calm_53 σ x1 = some o) (kr : sn_Kr p l e rmX9_calm s m args below meth c Q D ct ad layM A cX9_calm .ireturn (true) o.2 [.int o.1]) : sn_At p l e rmX9_calm s m args below meth c Q D ct ad layM A 4 σ 53 [(1, .int x1)] [] := by
  intro H locs ls hw hl
  have hx := C.1
  have hb := C.2.1
  unfold BX9_calm_53 at hf
  refine lv_iload_n hx hb dX9_calm_53 rfl (lv_at hl 0 rfl) ?_
  cases hf
  exact kr _ _ _ _ hw rfl dX9_calm_54
theorem wX9_calm_40 (C : sn_C p s m args meth c RX9 cX9_calm 4 (some .int) D ct ad layM A) {σ : sn_S} {x1 : Int32} {x2 : Int32} {x3 : Int32} {t0 : Int32}  {o : (Int32 × Int32 × Int32) ⊕ (Int32)} (hf : BX9_calm_40 σ x1 x2 x3 t0 = some o) (kc : ∀ v, o = .inl v → sn_At p l e rmX9_calm s m args below meth c Q D ct ad layM A 4 σ 16 [(0, .ref (ad 0)), (1, .int v.1), (2, .int v.2.1), (3, .int v.2.2)] []) (kx : ∀ v, o = .inr v → sn_At p l e rmX9_calm s m args below meth c Q D ct ad layM A 4 σ 53 [(1, .int v)] []) : sn_At p l e rmX9_calm s m args below meth c Q D ct ad layM A 4 σ 40 [(0, .ref (ad 0)), (1, .int x1), (2, .int x2), (3, .int x3)] [.int t0] := by
  intro H locs ls hw hl
  have hx := C.1
  have hb := C.2.1
  unfold BX9_calm_40 at hf
  refine lv_istore_n (lv' := [(2, .int t0), (0, .ref (ad 0)), (1, .int x1), (3, .int x3)]) hx hb dX9_calm_40 rfl hl (by decide) rfl (fun ls hl => ?_)
  refine lv_iload_n hx hb dX9_calm_41 rfl (lv_at hl 2 rfl) ?_
  refine lv_iload_n hx hb dX9_calm_42 rfl (lv_at hl 0 rfl) ?_
  refine va_mmax hx hb (C.2.2.1.trans hl.1.symm) C.2.2.2.1 (C.2.2.2.2.1 _ km_RX9_293) (C.2.2.2.2.1 _ kst_maxI) (C.2.2.2.2.1 _ ki_Math) (C.2.2.2.2.1 _ kc_maxI) (Nat.le_of_ble_eq_true rfl) (Nat.le_of_ble_eq_true rfl) (Nat.zero_le _) (Nat.zero_le _) dX9_calm_43 ?_
  obtain ⟨y_1, e_2, hf⟩ := sn_ltE hf
  refine lv_topi (fun y_1_ e_2_ => ?_)
  obtain rfl : y_1 = y_1_ := e_2.trans e_2_.symm
  refine lv_istore_n (lv' := [(1, .int y_1), (2, .int t0), (0, .ref (ad 0)), (3, .int x3)]) hx hb dX9_calm_46 rfl hl (by decide) rfl (fun ls hl => ?_)
  obtain ⟨y_3, e_4, hf⟩ := sn_ltE hf
  refine lv_iinc (v := y_3) (lv' := [(3, .int y_3), (1, .int y_1), (2, .int t0), (0, .ref (ad 0))]) hx hb dX9_calm_47 hl (k := 3) rfl (by rw [e_4]; rfl) (by decide) rfl (fun ls hl => ?_)
  refine lv_goto (tgt := 16) hx hb dX9_calm_50 (by decide) ?_
  cases hf
  exact kc _ rfl _ _ _ hw (lv_sub hl [3, 1, 2, 0] rfl)
theorem wX9_calm_16 (C : sn_C p s m args meth c RX9 cX9_calm 4 (some .int) D ct ad layM A) {σ : sn_S} {x1 : Int32} {x2 : Int32} {x3 : Int32}  {o : (Int32 × Int32 × Int32) ⊕ (Int32)} (hf : BX9_calm_16 σ x1 x2 x3 = some o) (kc : ∀ v, o = .inl v → sn_At p l e rmX9_calm s m args below meth c Q D ct ad layM A 4 σ 16 [(0, .ref (ad 0)), (1, .int v.1), (2, .int v.2.1), (3, .int v.2.2)] []) (kx : ∀ v, o = .inr v → sn_At p l e rmX9_calm s m args below meth c Q D ct ad layM A 4 σ 53 [(1, .int v)] []) : sn_At p l e rmX9_calm s m args below meth c Q D ct ad layM A 4 σ 16 [(0, .ref (ad 0)), (1, .int x1), (2, .int x2), (3, .int x3)] [] := by
  intro H locs ls hw hl
  have hx := C.1
  have hb := C.2.1
  unfold BX9_calm_16 at hf
  refine lv_iload_n hx hb dX9_calm_16 rfl (lv_at hl 3 rfl) ?_
  refine lv_aload_n hx hb dX9_calm_17 rfl (lv_at hl 0 rfl) ?_
  obtain ⟨t_1, h_2, hf⟩ := sn_bd hf
  refine sn_callVi (rest := [.int x3]) C hw (ctX9_minutes l  h_2) kl_RX9_249 layM_0 rfl rfl rfl rfl (Nat.le_of_ble_eq_true rfl) dX9_calm_18 hl.1 (fun H locs hw => ?_)
  refine lv_icmp_ge (tgt := 53) hx hb dX9_calm_21 (by decide) (fun c_3 => ?_) (fun c_3 => ?_)
  · have hf := sn_if c_3 hf
    cases hf
    exact kx _ rfl _ _ _ hw (lv_sub hl [1] rfl)
  · have hf := sn_el c_3 hf
    refine lv_aload_n hx hb dX9_calm_24 rfl (lv_at hl 0 rfl) ?_
    refine sn_getC (r := 11) C hw fd_RX9_46 layM_0 rfl dX9_calm_25 ?_
    refine lv_iload_n hx hb dX9_calm_28 rfl (lv_at hl 3 rfl) ?_
    obtain ⟨g_4, hf⟩ := sn_gdE hf
    refine sn_iald C hw layM_11 g_4 dX9_calm_29 ?_
    refine lv_if_ne (tgt := 39) hx hb dX9_calm_30 (by decide) (fun c_5 => ?_) (fun c_5 => ?_)
    · have hf := sn_el c_5 hf
      refine lv_iconst (v := 0) hx hb dX9_calm_39 rfl ?_
      exact wX9_calm_40 C  hf kc kx _ _ _ hw (lv_sub hl [0, 1, 2, 3] rfl)
    · have hf := sn_if c_5 hf
      refine lv_iload_n hx hb dX9_calm_33 rfl (lv_at hl 2 rfl) ?_
      refine lv_iconst (v := 1) hx hb dX9_calm_34 rfl ?_
      refine lv_iadd hx hb dX9_calm_35 ?_
      refine lv_goto (tgt := 40) hx hb dX9_calm_36 (by decide) ?_
      exact wX9_calm_40 C  hf kc kx _ _ _ hw (lv_sub hl [0, 1, 2, 3] rfl)
theorem wX9_calm_L16 (C : sn_C p s m args meth c RX9 cX9_calm 4 (some .int) D ct ad layM A) {σ : sn_S}   {z : Int32 × Int32 × Int32} {t : Int32} (h : sn_it (LX9_calm_16 σ) 5000 z = some t) (kx : ∀ v, t = v → sn_At p l e rmX9_calm s m args below meth c Q D ct ad layM A 4 σ 53 [(1, .int v)] []) : sn_At p l e rmX9_calm s m args below meth c Q D ct ad layM A 4 σ 16 [(0, .ref (ad 0)), (1, .int z.1), (2, .int z.2.1), (3, .int z.2.2)] [] :=
  sn_loop (f := LX9_calm_16 σ) (G := fun z => sn_At p l e rmX9_calm s m args below meth c Q D ct ad layM A 4 σ 16 [(0, .ref (ad 0)), (1, .int z.1), (2, .int z.2.1), (3, .int z.2.2)] []) (E := fun t => (∀ v, t = v → sn_At p l e rmX9_calm s m args below meth c Q D ct ad layM A 4 σ 53 [(1, .int v)] []) ∧ True) (fun z o hf k1 k2 => wX9_calm_16 C  hf (fun v e => k1 v e) (fun v e => (k2 _ e).1 v rfl)) 5000 z t h ⟨kx, trivial⟩
theorem wX9_calm_in (C : sn_C p s m args meth c RX9 cX9_calm 4 (some .int) D ct ad layM A) {σ : sn_S}  {o : (Int32 × sn_S)} (hf : fX9_calm σ = some o) (kr : sn_Kr p l e rmX9_calm s m args below meth c Q D ct ad layM A cX9_calm .ireturn (true) o.2 [.int o.1]) : sn_At p l e rmX9_calm s m args below meth c Q D ct ad layM A 4 σ 0 [(0, .ref (ad 0))] [] := by
  intro H locs ls hw hl
  have hx := C.1
  have hb := C.2.1
  unfold fX9_calm at hf
  refine lv_aload_n hx hb dX9_calm_0 rfl (lv_at hl 0 rfl) ?_
  obtain ⟨t_1, h_2, hf⟩ := sn_bd hf
  refine sn_callVi (rest := []) C hw (ctX9_asksHouse l  h_2) kl_RX9_272 layM_0 rfl rfl rfl rfl (Nat.le_of_ble_eq_true rfl) dX9_calm_1 hl.1 (fun H locs hw => ?_)
  refine lv_if_ne (tgt := 10) hx hb dX9_calm_4 (by decide) (fun c_3 => ?_) (fun c_3 => ?_)
  · have hf := sn_el c_3 hf
    refine lv_iconst (v := 0) hx hb dX9_calm_10 rfl ?_
    refine lv_istore_n (lv' := [(1, .int (0 : Int32)), (0, .ref (ad 0))]) hx hb dX9_calm_11 rfl hl (by decide) rfl (fun ls hl => ?_)
    refine lv_iconst (v := 0) hx hb dX9_calm_12 rfl ?_
    refine lv_istore_n (lv' := [(2, .int (0 : Int32)), (1, .int (0 : Int32)), (0, .ref (ad 0))]) hx hb dX9_calm_13 rfl hl (by decide) rfl (fun ls hl => ?_)
    refine lv_iconst (v := 0) hx hb dX9_calm_14 rfl ?_
    refine lv_istore_n (lv' := [(3, .int (0 : Int32)), (2, .int (0 : Int32)), (1, .int (0 : Int32)), (0, .ref (ad 0))]) hx hb dX9_calm_15 rfl hl (by decide) rfl (fun ls hl => ?_)
    obtain ⟨t_4, h_5, hf⟩ := sn_bd hf
    exact wX9_calm_L16 C  h_5 (fun v e => by cases e; exact wX9_calm_53 C  hf kr) _ _ _ hw (lv_sub hl [3, 2, 1, 0] rfl)
  · have hf := sn_if c_3 hf
    refine lv_bipush (v := (-2)) hx hb dX9_calm_7 (by decide) ?_
    cases hf
    exact kr _ _ _ _ hw rfl dX9_calm_9
theorem ctX9_calm (l : Launch) {σ : sn_S}  {o : (Int32 × sn_S)} (hf : fX9_calm σ = some o) : sn_M l yX9_calm cX9_calm 4 (some .int) rmX9_calm layM (fun ad => [.ref (ad 0)]) σ (some (fun _ => .int o.1)) o.2 :=
  sn_met (by decide) (fun _ => Nat.le_of_ble_eq_true rfl) (fun p e s m args below meth c ls D ct ad A C hw hl => wX9_calm_in C  hf (fun H locs ls pc hw ok hd => sn_iret C hw hd) _ _ _ hw hl)
-- X9_firstFrom
abbrev rmX9_firstFrom : Room := { frames := 1, cells := 0, slots := 0, locals := 21 }
def BX9_firstFrom_25  : Option (Int32) :=
  (some (-1 : Int32))
def BX9_firstFrom_2 (x0 : Int32) (x2 : Int32) : Option ((Int32) ⊕ ((Unit) ⊕ Int32)) :=
  (if (30 : Int32) ≤ x2 then
  (some (.inr (.inl ())))
  else
  ((fX9_bit x0 x2).bind fun t_2 => (if t_2 = (1 : Int32) then
  (some (.inr (.inr x2)))
  else
  (sn_lt (x2 + 1) fun y_5 => (some (.inl (y_5)))))))
def LX9_firstFrom_2 (x0 : Int32) (s : Int32) : Option ((Int32) ⊕ ((Unit) ⊕ Int32)) := BX9_firstFrom_2 x0 s
def fX9_firstFrom (x0 : Int32) (x1 : Int32) : Option Int32 :=
  ((sn_it (LX9_firstFrom_2 x0) 5000 (x1)).bind fun t_1 => Sum.elim (fun v_3 => (BX9_firstFrom_25 )) (fun r_4 => (some r_4)) t_1)
theorem wX9_firstFrom_25 (C : sn_C p s m args meth c RX9 cX9_firstFrom 3 (some .int) D ct ad layM A) {σ : sn_S}   {o : Int32} (hf : BX9_firstFrom_25  = some o) (kr : sn_Kr p l e rmX9_firstFrom s m args below meth c Q D ct ad layM A cX9_firstFrom .ireturn (true) σ [.int o]) : sn_At p l e rmX9_firstFrom s m args below meth c Q D ct ad layM A 3 σ 25 [] [] := by
  intro H locs ls hw hl
  have hx := C.1
  have hb := C.2.1
  unfold BX9_firstFrom_25 at hf
  refine lv_iconst (v := (-1)) hx hb dX9_firstFrom_25 rfl ?_
  cases hf
  exact kr _ _ _ _ hw rfl dX9_firstFrom_26
theorem wX9_firstFrom_2 (C : sn_C p s m args meth c RX9 cX9_firstFrom 3 (some .int) D ct ad layM A) {σ : sn_S} {x0 : Int32} {x2 : Int32}  {o : (Int32) ⊕ ((Unit) ⊕ Int32)} (hf : BX9_firstFrom_2 x0 x2 = some o) (kc : ∀ v, o = .inl v → sn_At p l e rmX9_firstFrom s m args below meth c Q D ct ad layM A 3 σ 2 [(0, .int x0), (2, .int v)] []) (kx : ∀ v, o = .inr (.inl v) → sn_At p l e rmX9_firstFrom s m args below meth c Q D ct ad layM A 3 σ 25 [] []) (kr : ∀ r, o = .inr (.inr r) → sn_Kr p l e rmX9_firstFrom s m args below meth c Q D ct ad layM A cX9_firstFrom .ireturn (true) σ [.int r]) : sn_At p l e rmX9_firstFrom s m args below meth c Q D ct ad layM A 3 σ 2 [(0, .int x0), (2, .int x2)] [] := by
  intro H locs ls hw hl
  have hx := C.1
  have hb := C.2.1
  unfold BX9_firstFrom_2 at hf
  refine lv_iload_n hx hb dX9_firstFrom_2 rfl (lv_at hl 1 rfl) ?_
  refine lv_bipush (v := 30) hx hb dX9_firstFrom_3 (by decide) ?_
  refine lv_icmp_ge (tgt := 25) hx hb dX9_firstFrom_5 (by decide) (fun c_1 => ?_) (fun c_1 => ?_)
  · have hf := sn_if c_1 hf
    cases hf
    exact kx _ rfl _ _ _ hw (lv_sub hl [] rfl)
  · have hf := sn_el c_1 hf
    refine lv_iload_n hx hb dX9_firstFrom_8 rfl (lv_at hl 0 rfl) ?_
    refine lv_iload_n hx hb dX9_firstFrom_9 rfl (lv_at hl 1 rfl) ?_
    obtain ⟨t_2, h_3, hf⟩ := sn_bd hf
    refine sn_callSi (rest := []) C hw (ctX9_bit l  h_3) kl_RX9_254 rfl rfl rfl (Nat.le_of_ble_eq_true rfl) dX9_firstFrom_10 hl.1 (fun H locs hw => ?_)
    refine lv_iconst (v := 1) hx hb dX9_firstFrom_13 rfl ?_
    refine lv_icmp_ne (tgt := 19) hx hb dX9_firstFrom_14 (by decide) (fun c_4 => ?_) (fun c_4 => ?_)
    · have hf := sn_el c_4 hf
      obtain ⟨y_5, e_6, hf⟩ := sn_ltE hf
      refine lv_iinc (v := y_5) (lv' := [(2, .int y_5), (0, .int x0)]) hx hb dX9_firstFrom_19 hl (k := 1) rfl (by rw [e_6]; rfl) (by decide) rfl (fun ls hl => ?_)
      refine lv_goto (tgt := 2) hx hb dX9_firstFrom_22 (by decide) ?_
      cases hf
      exact kc _ rfl _ _ _ hw (lv_sub hl [1, 0] rfl)
    · have hf := sn_if c_4 hf
      refine lv_iload_n hx hb dX9_firstFrom_17 rfl (lv_at hl 1 rfl) ?_
      cases hf
      exact kr _ rfl _ _ _ _ hw rfl dX9_firstFrom_18
theorem wX9_firstFrom_L2 (C : sn_C p s m args meth c RX9 cX9_firstFrom 3 (some .int) D ct ad layM A) {σ : sn_S} {x0 : Int32}   {z : Int32} {t : (Unit) ⊕ Int32} (h : sn_it (LX9_firstFrom_2 x0) 5000 z = some t) (kx : ∀ v, t = .inl v → sn_At p l e rmX9_firstFrom s m args below meth c Q D ct ad layM A 3 σ 25 [] []) (kr : ∀ r, t = .inr r → sn_Kr p l e rmX9_firstFrom s m args below meth c Q D ct ad layM A cX9_firstFrom .ireturn (true) σ [.int r]) : sn_At p l e rmX9_firstFrom s m args below meth c Q D ct ad layM A 3 σ 2 [(0, .int x0), (2, .int z)] [] :=
  sn_loop (f := LX9_firstFrom_2 x0) (G := fun z => sn_At p l e rmX9_firstFrom s m args below meth c Q D ct ad layM A 3 σ 2 [(0, .int x0), (2, .int z)] []) (E := fun t => (∀ v, t = .inl v → sn_At p l e rmX9_firstFrom s m args below meth c Q D ct ad layM A 3 σ 25 [] []) ∧ (∀ r, t = .inr r → sn_Kr p l e rmX9_firstFrom s m args below meth c Q D ct ad layM A cX9_firstFrom .ireturn (true) σ [.int r])) (fun z o hf k1 k2 => wX9_firstFrom_2 C  hf (fun v e => k1 v e) (fun v e => (k2 _ e).1 v rfl) (fun r e => (k2 _ e).2 r rfl)) 5000 z t h ⟨kx, kr⟩
theorem wX9_firstFrom_in (C : sn_C p s m args meth c RX9 cX9_firstFrom 3 (some .int) D ct ad layM A) {σ : sn_S} {x0 : Int32} {x1 : Int32}  {o : Int32} (hf : fX9_firstFrom x0 x1 = some o) (kr : sn_Kr p l e rmX9_firstFrom s m args below meth c Q D ct ad layM A cX9_firstFrom .ireturn (true) σ [.int o]) : sn_At p l e rmX9_firstFrom s m args below meth c Q D ct ad layM A 3 σ 0 [(0, .int x0), (1, .int x1)] [] := by
  intro H locs ls hw hl
  have hx := C.1
  have hb := C.2.1
  unfold fX9_firstFrom at hf
  refine lv_iload_n hx hb dX9_firstFrom_0 rfl (lv_at hl 1 rfl) ?_
  refine lv_istore_n (lv' := [(2, .int x1), (0, .int x0), (1, .int x1)]) hx hb dX9_firstFrom_1 rfl hl (by decide) rfl (fun ls hl => ?_)
  obtain ⟨t_1, h_2, hf⟩ := sn_bd hf
  rcases t_1 with v_3 | r_4
  · rw [Sum.elim_inl] at hf
    exact wX9_firstFrom_L2 C  h_2 (fun v e => by cases e; exact wX9_firstFrom_25 C  hf kr) (fun r e => by cases e) _ _ _ hw (lv_sub hl [1, 0] rfl)
  · rw [Sum.elim_inr] at hf
    cases hf
    exact wX9_firstFrom_L2 C  h_2 (fun v e => by cases e) (fun r e => by cases e; exact kr) _ _ _ hw (lv_sub hl [1, 0] rfl)
theorem ctX9_firstFrom (l : Launch) {σ : sn_S} {x0 : Int32} {x1 : Int32}  {o : Int32} (hf : fX9_firstFrom x0 x1 = some o) : sn_M l yX9_firstFrom cX9_firstFrom 3 (some .int) rmX9_firstFrom layM (fun ad => [.int x0, .int x1]) σ (some (fun _ => .int o)) σ :=
  sn_met (by decide) (fun _ => Nat.le_of_ble_eq_true rfl) (fun p e s m args below meth c ls D ct ad A C hw hl => wX9_firstFrom_in C  hf (fun H locs ls pc hw ok hd => sn_iret C hw hd) _ _ _ hw hl)
-- X9_pause
abbrev rmX9_pause : Room := { frames := 6, cells := 0, slots := 0, locals := 136 }
def BX9_pause_74 (σ : sn_S) (x2 : Int32) : Option ((Int32 × sn_S)) :=
  (if x2 = (1000000000 : Int32) then
  (some ((-1 : Int32), σ))
  else
  (some (x2, σ)))
def BX9_pause_68 (σ : sn_S) (x1 : Int32) (x2 : Int32) (x3 : Int32) : Option ((Int32 × Int32) ⊕ (Int32)) :=
  (sn_lt (x3 + 1) fun y_1 => (some (.inl (x2, y_1))))
def BX9_pause_17 (σ : sn_S) (x1 : Int32) (x2 : Int32) (x3 : Int32) : Option ((Int32 × Int32) ⊕ (Int32)) :=
  ((fX9_minutes σ).bind fun t_1 => (if t_1 ≤ x3 then
  (some (.inr (x2)))
  else
  (sn_gd (sn_in x1 6) ((fX9_firstFrom (sn_I σ 10 x1.toNatClampNeg) (x3 + (1 : Int32))).bind fun t_5 => (sn_gd (sn_in x1 6) ((fX9_bit (sn_I σ 10 x1.toNatClampNeg) x3).bind fun t_8 => (if t_8 = (1 : Int32) then
  (if t_5 = (-1 : Int32) then
  (BX9_pause_68 σ x1 x2 x3)
  else
  (sn_lt (if (t_5 - x3) < x2 then (t_5 - x3) else x2) fun y_12 => (BX9_pause_68 σ x1 y_12 x3)))
  else
  (BX9_pause_68 σ x1 x2 x3))))))))
def LX9_pause_17 (σ : sn_S) (x1 : Int32) (s : Int32 × Int32) : Option ((Int32 × Int32) ⊕ (Int32)) := BX9_pause_17 σ x1 s.1 s.2
def fX9_pause (σ : sn_S) (x1 : Int32) : Option (Int32 × sn_S) :=
  ((fX9_asksPerson σ x1).bind fun t_1 => (if t_1.1 = 0 then
  (some ((-2 : Int32), t_1.2))
  else
  ((sn_it (LX9_pause_17 t_1.2 x1) 5000 ((1000000000 : Int32), (0 : Int32))).bind fun t_4 => (BX9_pause_74 t_1.2 t_4))))
theorem wX9_pause_74 (C : sn_C p s m args meth c RX9 cX9_pause 5 (some .int) D ct ad layM A) {σ : sn_S} {x2 : Int32}  {o : (Int32 × sn_S)} (hf : BX9_pause_74 σ x2 = some o) (kr : sn_Kr p l e rmX9_pause s m args below meth c Q D ct ad layM A cX9_pause .ireturn (true) o.2 [.int o.1]) : sn_At p l e rmX9_pause s m args below meth c Q D ct ad layM A 5 σ 74 [(2, .int x2)] [] := by
  intro H locs ls hw hl
  have hx := C.1
  have hb := C.2.1
  unfold BX9_pause_74 at hf
  refine lv_iload_n hx hb dX9_pause_74 rfl (lv_at hl 0 rfl) ?_
  refine lv_ldcw hx hb C.2.2.2.1 (C.2.2.2.2.1 _ kk_RX9_296) dX9_pause_75 ?_
  refine lv_icmp_ne (tgt := 85) hx hb dX9_pause_78 (by decide) (fun c_1 => ?_) (fun c_1 => ?_)
  · have hf := sn_el c_1 hf
    refine lv_iload_n hx hb dX9_pause_85 rfl (lv_at hl 0 rfl) ?_
    cases hf
    exact kr _ _ _ _ hw rfl dX9_pause_86
  · have hf := sn_if c_1 hf
    refine lv_iconst (v := (-1)) hx hb dX9_pause_81 rfl ?_
    refine lv_goto (tgt := 86) hx hb dX9_pause_82 (by decide) ?_
    cases hf
    exact kr _ _ _ _ hw rfl dX9_pause_86
theorem wX9_pause_68 (C : sn_C p s m args meth c RX9 cX9_pause 5 (some .int) D ct ad layM A) {σ : sn_S} {x1 : Int32} {x2 : Int32} {x3 : Int32}  {o : (Int32 × Int32) ⊕ (Int32)} (hf : BX9_pause_68 σ x1 x2 x3 = some o) (kc : ∀ v, o = .inl v → sn_At p l e rmX9_pause s m args below meth c Q D ct ad layM A 5 σ 17 [(0, .ref (ad 0)), (1, .int x1), (2, .int v.1), (3, .int v.2)] []) (kx : ∀ v, o = .inr v → sn_At p l e rmX9_pause s m args below meth c Q D ct ad layM A 5 σ 74 [(2, .int v)] []) : sn_At p l e rmX9_pause s m args below meth c Q D ct ad layM A 5 σ 68 [(0, .ref (ad 0)), (1, .int x1), (2, .int x2), (3, .int x3)] [] := by
  intro H locs ls hw hl
  have hx := C.1
  have hb := C.2.1
  unfold BX9_pause_68 at hf
  obtain ⟨y_1, e_2, hf⟩ := sn_ltE hf
  refine lv_iinc (v := y_1) (lv' := [(3, .int y_1), (0, .ref (ad 0)), (1, .int x1), (2, .int x2)]) hx hb dX9_pause_68 hl (k := 3) rfl (by rw [e_2]; rfl) (by decide) rfl (fun ls hl => ?_)
  refine lv_goto (tgt := 17) hx hb dX9_pause_71 (by decide) ?_
  cases hf
  exact kc _ rfl _ _ _ hw (lv_sub hl [1, 2, 3, 0] rfl)
theorem wX9_pause_17 (C : sn_C p s m args meth c RX9 cX9_pause 5 (some .int) D ct ad layM A) {σ : sn_S} {x1 : Int32} {x2 : Int32} {x3 : Int32}  {o : (Int32 × Int32) ⊕ (Int32)} (hf : BX9_pause_17 σ x1 x2 x3 = some o) (kc : ∀ v, o = .inl v → sn_At p l e rmX9_pause s m args below meth c Q D ct ad layM A 5 σ 17 [(0, .ref (ad 0)), (1, .int x1), (2, .int v.1), (3, .int v.2)] []) (kx : ∀ v, o = .inr v → sn_At p l e rmX9_pause s m args below meth c Q D ct ad layM A 5 σ 74 [(2, .int v)] []) : sn_At p l e rmX9_pause s m args below meth c Q D ct ad layM A 5 σ 17 [(0, .ref (ad 0)), (1, .int x1), (2, .int x2), (3, .int x3)] [] := by
  intro H locs ls hw hl
  have hx := C.1
  have hb := C.2.1
  unfold BX9_pause_17 at hf
  refine lv_iload_n hx hb dX9_pause_17 rfl (lv_at hl 3 rfl) ?_
  refine lv_aload_n hx hb dX9_pause_18 rfl (lv_at hl 0 rfl) ?_
  obtain ⟨t_1, h_2, hf⟩ := sn_bd hf
  refine sn_callVi (rest := [.int x3]) C hw (ctX9_minutes l  h_2) kl_RX9_249 layM_0 rfl rfl rfl rfl (Nat.le_of_ble_eq_true rfl) dX9_pause_19 hl.1 (fun H locs hw => ?_)
  refine lv_icmp_ge (tgt := 74) hx hb dX9_pause_22 (by decide) (fun c_3 => ?_) (fun c_3 => ?_)
  · have hf := sn_if c_3 hf
    cases hf
    exact kx _ rfl _ _ _ hw (lv_sub hl [2] rfl)
  · have hf := sn_el c_3 hf
    refine lv_aload_n hx hb dX9_pause_25 rfl (lv_at hl 0 rfl) ?_
    refine sn_getC (r := 10) C hw fd_RX9_43 layM_0 rfl dX9_pause_26 ?_
    refine lv_iload_n hx hb dX9_pause_29 rfl (lv_at hl 1 rfl) ?_
    obtain ⟨g_4, hf⟩ := sn_gdE hf
    refine sn_iald C hw layM_10 g_4 dX9_pause_30 ?_
    refine lv_iload_n hx hb dX9_pause_31 rfl (lv_at hl 3 rfl) ?_
    refine lv_iconst (v := 1) hx hb dX9_pause_32 rfl ?_
    refine lv_iadd hx hb dX9_pause_33 ?_
    obtain ⟨t_5, h_6, hf⟩ := sn_bd hf
    refine sn_callSi (rest := []) C hw (ctX9_firstFrom l  h_6) kl_RX9_297 rfl rfl rfl (Nat.le_of_ble_eq_true rfl) dX9_pause_34 hl.1 (fun H locs hw => ?_)
    refine lv_istore (lv' := [(4, .int t_5), (0, .ref (ad 0)), (1, .int x1), (2, .int x2), (3, .int x3)]) hx hb dX9_pause_37 hl (by decide) rfl (fun ls hl => ?_)
    refine lv_aload_n hx hb dX9_pause_39 rfl (lv_at hl 1 rfl) ?_
    refine sn_getC (r := 10) C hw fd_RX9_43 layM_0 rfl dX9_pause_40 ?_
    refine lv_iload_n hx hb dX9_pause_43 rfl (lv_at hl 2 rfl) ?_
    obtain ⟨g_7, hf⟩ := sn_gdE hf
    refine sn_iald C hw layM_10 g_7 dX9_pause_44 ?_
    refine lv_iload_n hx hb dX9_pause_45 rfl (lv_at hl 4 rfl) ?_
    obtain ⟨t_8, h_9, hf⟩ := sn_bd hf
    refine sn_callSi (rest := []) C hw (ctX9_bit l  h_9) kl_RX9_254 rfl rfl rfl (Nat.le_of_ble_eq_true rfl) dX9_pause_46 hl.1 (fun H locs hw => ?_)
    refine lv_iconst (v := 1) hx hb dX9_pause_49 rfl ?_
    refine lv_icmp_ne (tgt := 68) hx hb dX9_pause_50 (by decide) (fun c_10 => ?_) (fun c_10 => ?_)
    · have hf := sn_el c_10 hf
      exact wX9_pause_68 C  hf kc kx _ _ _ hw (lv_sub hl [1, 2, 3, 4] rfl)
    · have hf := sn_if c_10 hf
      refine lv_iload hx hb dX9_pause_53 (lv_at hl 0 rfl) ?_
      refine lv_iconst (v := (-1)) hx hb dX9_pause_55 rfl ?_
      refine lv_icmp_eq (tgt := 68) hx hb dX9_pause_56 (by decide) (fun c_11 => ?_) (fun c_11 => ?_)
      · have hf := sn_if c_11 hf
        exact wX9_pause_68 C  hf kc kx _ _ _ hw (lv_sub hl [1, 2, 3, 4] rfl)
      · have hf := sn_el c_11 hf
        refine lv_iload_n hx hb dX9_pause_59 rfl (lv_at hl 3 rfl) ?_
        refine lv_iload hx hb dX9_pause_60 (lv_at hl 0 rfl) ?_
        refine lv_iload_n hx hb dX9_pause_62 rfl (lv_at hl 4 rfl) ?_
        refine lv_isub hx hb dX9_pause_63 ?_
        refine va_mmin hx hb (C.2.2.1.trans hl.1.symm) C.2.2.2.1 (C.2.2.2.2.1 _ km_RX9_131) (C.2.2.2.2.1 _ kst_minI) (C.2.2.2.2.1 _ ki_Math) (C.2.2.2.2.1 _ kc_minI) (Nat.le_of_ble_eq_true rfl) (Nat.le_of_ble_eq_true rfl) (Nat.zero_le _) (Nat.zero_le _) dX9_pause_64 ?_
        obtain ⟨y_12, e_13, hf⟩ := sn_ltE hf
        refine lv_topi (fun y_12_ e_13_ => ?_)
        obtain rfl : y_12 = y_12_ := e_13.trans e_13_.symm
        refine lv_istore_n (lv' := [(2, .int y_12), (4, .int t_5), (0, .ref (ad 0)), (1, .int x1), (3, .int x3)]) hx hb dX9_pause_67 rfl hl (by decide) rfl (fun ls hl => ?_)
        exact wX9_pause_68 C  hf kc kx _ _ _ hw (lv_sub hl [2, 3, 0, 4] rfl)
theorem wX9_pause_L17 (C : sn_C p s m args meth c RX9 cX9_pause 5 (some .int) D ct ad layM A) {σ : sn_S} {x1 : Int32}   {z : Int32 × Int32} {t : Int32} (h : sn_it (LX9_pause_17 σ x1) 5000 z = some t) (kx : ∀ v, t = v → sn_At p l e rmX9_pause s m args below meth c Q D ct ad layM A 5 σ 74 [(2, .int v)] []) : sn_At p l e rmX9_pause s m args below meth c Q D ct ad layM A 5 σ 17 [(0, .ref (ad 0)), (1, .int x1), (2, .int z.1), (3, .int z.2)] [] :=
  sn_loop (f := LX9_pause_17 σ x1) (G := fun z => sn_At p l e rmX9_pause s m args below meth c Q D ct ad layM A 5 σ 17 [(0, .ref (ad 0)), (1, .int x1), (2, .int z.1), (3, .int z.2)] []) (E := fun t => (∀ v, t = v → sn_At p l e rmX9_pause s m args below meth c Q D ct ad layM A 5 σ 74 [(2, .int v)] []) ∧ True) (fun z o hf k1 k2 => wX9_pause_17 C  hf (fun v e => k1 v e) (fun v e => (k2 _ e).1 v rfl)) 5000 z t h ⟨kx, trivial⟩
theorem wX9_pause_in (C : sn_C p s m args meth c RX9 cX9_pause 5 (some .int) D ct ad layM A) {σ : sn_S} {x1 : Int32}  {o : (Int32 × sn_S)} (hf : fX9_pause σ x1 = some o) (kr : sn_Kr p l e rmX9_pause s m args below meth c Q D ct ad layM A cX9_pause .ireturn (true) o.2 [.int o.1]) : sn_At p l e rmX9_pause s m args below meth c Q D ct ad layM A 5 σ 0 [(0, .ref (ad 0)), (1, .int x1)] [] := by
  intro H locs ls hw hl
  have hx := C.1
  have hb := C.2.1
  unfold fX9_pause at hf
  refine lv_aload_n hx hb dX9_pause_0 rfl (lv_at hl 0 rfl) ?_
  refine lv_iload_n hx hb dX9_pause_1 rfl (lv_at hl 1 rfl) ?_
  obtain ⟨t_1, h_2, hf⟩ := sn_bd hf
  refine sn_callVi (rest := []) C hw (ctX9_asksPerson l  h_2) kl_RX9_284 layM_0 rfl rfl rfl rfl (Nat.le_of_ble_eq_true rfl) dX9_pause_2 hl.1 (fun H locs hw => ?_)
  refine lv_if_ne (tgt := 11) hx hb dX9_pause_5 (by decide) (fun c_3 => ?_) (fun c_3 => ?_)
  · have hf := sn_el c_3 hf
    refine lv_ldcw hx hb C.2.2.2.1 (C.2.2.2.2.1 _ kk_RX9_296) dX9_pause_11 ?_
    refine lv_istore_n (lv' := [(2, .int (1000000000 : Int32)), (0, .ref (ad 0)), (1, .int x1)]) hx hb dX9_pause_14 rfl hl (by decide) rfl (fun ls hl => ?_)
    refine lv_iconst (v := 0) hx hb dX9_pause_15 rfl ?_
    refine lv_istore_n (lv' := [(3, .int (0 : Int32)), (2, .int (1000000000 : Int32)), (0, .ref (ad 0)), (1, .int x1)]) hx hb dX9_pause_16 rfl hl (by decide) rfl (fun ls hl => ?_)
    obtain ⟨t_4, h_5, hf⟩ := sn_bd hf
    exact wX9_pause_L17 C  h_5 (fun v e => by cases e; exact wX9_pause_74 C  hf kr) _ _ _ hw (lv_sub hl [2, 3, 1, 0] rfl)
  · have hf := sn_if c_3 hf
    refine lv_bipush (v := (-2)) hx hb dX9_pause_8 (by decide) ?_
    cases hf
    exact kr _ _ _ _ hw rfl dX9_pause_10
theorem ctX9_pause (l : Launch) {σ : sn_S} {x1 : Int32}  {o : (Int32 × sn_S)} (hf : fX9_pause σ x1 = some o) : sn_M l yX9_pause cX9_pause 5 (some .int) rmX9_pause layM (fun ad => [.ref (ad 0), .int x1]) σ (some (fun _ => .int o.1)) o.2 :=
  sn_met (by decide) (fun _ => Nat.le_of_ble_eq_true rfl) (fun p e s m args below meth c ls D ct ad A C hw hl => wX9_pause_in C  hf (fun H locs ls pc hw ok hd => sn_iret C hw hd) _ _ _ hw hl)
-- X9_later
abbrev rmX9_later : Room := { frames := 6, cells := 0, slots := 0, locals := 136 }
def fX9_later (σ : sn_S) (x1 : Int32) (x2 : Int32) : Option (Int32 × sn_S) :=
  ((fX9_asksMinute σ x2).bind fun t_1 => (if t_1.1 = 0 then
  (some ((-2 : Int32), t_1.2))
  else
  ((fX9_isPerson t_1.2 x1.toInt64).bind fun t_4 => (if t_4 = 0 then
  (some ((-2 : Int32), t_1.2))
  else
  (sn_gd (sn_in x1 6) ((fX9_firstFrom (sn_I t_1.2 10 x1.toNatClampNeg) x2).bind fun t_8 => (some (t_8, t_1.2))))))))
theorem wX9_later_in (C : sn_C p s m args meth c RX9 cX9_later 3 (some .int) D ct ad layM A) {σ : sn_S} {x1 : Int32} {x2 : Int32}  {o : (Int32 × sn_S)} (hf : fX9_later σ x1 x2 = some o) (kr : sn_Kr p l e rmX9_later s m args below meth c Q D ct ad layM A cX9_later .ireturn (true) o.2 [.int o.1]) : sn_At p l e rmX9_later s m args below meth c Q D ct ad layM A 3 σ 0 [(0, .ref (ad 0)), (1, .int x1), (2, .int x2)] [] := by
  intro H locs ls hw hl
  have hx := C.1
  have hb := C.2.1
  unfold fX9_later at hf
  refine lv_aload_n hx hb dX9_later_0 rfl (lv_at hl 0 rfl) ?_
  refine lv_iload_n hx hb dX9_later_1 rfl (lv_at hl 2 rfl) ?_
  obtain ⟨t_1, h_2, hf⟩ := sn_bd hf
  refine sn_callVi (rest := []) C hw (ctX9_asksMinute l  h_2) kl_RX9_281 layM_0 rfl rfl rfl rfl (Nat.le_of_ble_eq_true rfl) dX9_later_2 hl.1 (fun H locs hw => ?_)
  refine lv_if_eq (tgt := 30) hx hb dX9_later_5 (by decide) (fun c_3 => ?_) (fun c_3 => ?_)
  · have hf := sn_if c_3 hf
    refine lv_bipush (v := (-2)) hx hb dX9_later_30 (by decide) ?_
    cases hf
    exact kr _ _ _ _ hw rfl dX9_later_32
  · have hf := sn_el c_3 hf
    refine lv_aload_n hx hb dX9_later_8 rfl (lv_at hl 0 rfl) ?_
    refine lv_iload_n hx hb dX9_later_9 rfl (lv_at hl 1 rfl) ?_
    refine lv_i2l hx hb dX9_later_10 rfl ?_
    obtain ⟨t_4, h_5, hf⟩ := sn_bd hf
    refine sn_callVi (rest := []) C hw (ctX9_isPerson l  h_5) kl_RX9_224 layM_0 rfl rfl rfl rfl (Nat.le_of_ble_eq_true rfl) dX9_later_11 hl.1 (fun H locs hw => ?_)
    refine lv_if_eq (tgt := 30) hx hb dX9_later_14 (by decide) (fun c_6 => ?_) (fun c_6 => ?_)
    · have hf := sn_if c_6 hf
      refine lv_bipush (v := (-2)) hx hb dX9_later_30 (by decide) ?_
      cases hf
      exact kr _ _ _ _ hw rfl dX9_later_32
    · have hf := sn_el c_6 hf
      refine lv_aload_n hx hb dX9_later_17 rfl (lv_at hl 0 rfl) ?_
      refine sn_getC (r := 10) C hw fd_RX9_43 layM_0 rfl dX9_later_18 ?_
      refine lv_iload_n hx hb dX9_later_21 rfl (lv_at hl 1 rfl) ?_
      obtain ⟨g_7, hf⟩ := sn_gdE hf
      refine sn_iald C hw layM_10 g_7 dX9_later_22 ?_
      refine lv_iload_n hx hb dX9_later_23 rfl (lv_at hl 2 rfl) ?_
      obtain ⟨t_8, h_9, hf⟩ := sn_bd hf
      refine sn_callSi (rest := []) C hw (ctX9_firstFrom l  h_9) kl_RX9_297 rfl rfl rfl (Nat.le_of_ble_eq_true rfl) dX9_later_24 hl.1 (fun H locs hw => ?_)
      refine lv_goto (tgt := 32) hx hb dX9_later_27 (by decide) ?_
      cases hf
      exact kr _ _ _ _ hw rfl dX9_later_32
theorem ctX9_later (l : Launch) {σ : sn_S} {x1 : Int32} {x2 : Int32}  {o : (Int32 × sn_S)} (hf : fX9_later σ x1 x2 = some o) : sn_M l yX9_later cX9_later 3 (some .int) rmX9_later layM (fun ad => [.ref (ad 0), .int x1, .int x2]) σ (some (fun _ => .int o.1)) o.2 :=
  sn_met (by decide) (fun _ => Nat.le_of_ble_eq_true rfl) (fun p e s m args below meth c ls D ct ad A C hw hl => wX9_later_in C  hf (fun H locs ls pc hw ok hd => sn_iret C hw hd) _ _ _ hw hl)
-- X9_web
abbrev rmX9_web : Room := { frames := 2, cells := 0, slots := 0, locals := 47 }
def BX9_web_83 (σ : sn_S) (x2 : Int32) : Option ((Int32 × sn_S)) :=
  (some (x2, σ))
def BX9_web_74 (σ : sn_S) (x2 : Int32) (x3 : Int32) (x4 : Int32) : Option ((Int32 × Int32) ⊕ (Int32)) :=
  (sn_lt (x3 + 1) fun y_1 => (some (.inl (x4, y_1))))
def BX9_web_65 (σ : sn_S) (x2 : Int32) (x3 : Int32) (x4 : Int32) (x5 : Int32) (t0 : Int32) (t1 : Int32) : Option ((Int32 × Int32) ⊕ (Int32)) :=
  (sn_lt (t0 ||| t1) fun y_1 => (sn_lt (x5 + 1) fun y_3 => (some (.inl (y_1, y_3)))))
def BX9_web_34 (σ : sn_S) (x2 : Int32) (x3 : Int32) (x4 : Int32) (x5 : Int32) : Option ((Int32 × Int32) ⊕ (Int32)) :=
  (sn_gd (sn_in (5 : Int32) 119) (if (sn_I σ 1 (5 : Int32).toNatClampNeg) ≤ x5 then
  (some (.inr (x4)))
  else
  ((fX9_netsTo σ x5 x2).bind fun t_3 => (if t_3 ≤ 0 then
  (BX9_web_65 σ x2 x3 x4 x5 x4 (0 : Int32))
  else
  (BX9_web_65 σ x2 x3 x4 x5 x4 ((1 : Int32) <<< (x5 &&& 31)))))))
def LX9_web_34 (σ : sn_S) (x2 : Int32) (x3 : Int32) (s : Int32 × Int32) : Option ((Int32 × Int32) ⊕ (Int32)) := BX9_web_34 σ x2 x3 s.1 s.2
def BX9_web_22 (σ : sn_S) (x2 : Int32) (x3 : Int32) : Option ((Int32 × Int32) ⊕ (Int32)) :=
  (if (6 : Int32) ≤ x3 then
  (some (.inr (x2)))
  else
  ((sn_it (LX9_web_34 σ x2 x3) 5000 (x2, (0 : Int32))).bind fun t_2 => (BX9_web_74 σ x2 x3 t_2)))
def LX9_web_22 (σ : sn_S) (s : Int32 × Int32) : Option ((Int32 × Int32) ⊕ (Int32)) := BX9_web_22 σ s.1 s.2
def fX9_web (σ : sn_S) (x1 : Int32) : Option (Int32 × sn_S) :=
  ((fX9_asItIs σ).bind fun t_1 => ((fX9_isPerson t_1 x1.toInt64).bind fun t_3 => (if t_3 = 0 then
  (some ((-2 : Int32), t_1))
  else
  (sn_lt ((1 : Int32) <<< (x1 &&& 31)) fun y_6 => ((sn_it (LX9_web_22 t_1) 5000 (y_6, (0 : Int32))).bind fun t_8 => (BX9_web_83 t_1 t_8))))))
theorem wX9_web_83 (C : sn_C p s m args meth c RX9 cX9_web 6 (some .int) D ct ad layM A) {σ : sn_S} {x2 : Int32}  {o : (Int32 × sn_S)} (hf : BX9_web_83 σ x2 = some o) (kr : sn_Kr p l e rmX9_web s m args below meth c Q D ct ad layM A cX9_web .ireturn (true) o.2 [.int o.1]) : sn_At p l e rmX9_web s m args below meth c Q D ct ad layM A 6 σ 83 [(2, .int x2)] [] := by
  intro H locs ls hw hl
  have hx := C.1
  have hb := C.2.1
  unfold BX9_web_83 at hf
  refine lv_iload_n hx hb dX9_web_83 rfl (lv_at hl 0 rfl) ?_
  cases hf
  exact kr _ _ _ _ hw rfl dX9_web_84
theorem wX9_web_74 (C : sn_C p s m args meth c RX9 cX9_web 6 (some .int) D ct ad layM A) {σ : sn_S} {x2 : Int32} {x3 : Int32} {x4 : Int32}  {o : (Int32 × Int32) ⊕ (Int32)} (hf : BX9_web_74 σ x2 x3 x4 = some o) (kc : ∀ v, o = .inl v → sn_At p l e rmX9_web s m args below meth c Q D ct ad layM A 6 σ 22 [(0, .ref (ad 0)), (2, .int v.1), (3, .int v.2)] []) (kx : ∀ v, o = .inr v → sn_At p l e rmX9_web s m args below meth c Q D ct ad layM A 6 σ 83 [(2, .int v)] []) : sn_At p l e rmX9_web s m args below meth c Q D ct ad layM A 6 σ 74 [(0, .ref (ad 0)), (2, .int x2), (3, .int x3), (4, .int x4)] [] := by
  intro H locs ls hw hl
  have hx := C.1
  have hb := C.2.1
  unfold BX9_web_74 at hf
  refine lv_iload hx hb dX9_web_74 (lv_at hl 3 rfl) ?_
  refine lv_istore_n (lv' := [(2, .int x4), (0, .ref (ad 0)), (3, .int x3), (4, .int x4)]) hx hb dX9_web_76 rfl hl (by decide) rfl (fun ls hl => ?_)
  obtain ⟨y_1, e_2, hf⟩ := sn_ltE hf
  refine lv_iinc (v := y_1) (lv' := [(3, .int y_1), (2, .int x4), (0, .ref (ad 0)), (4, .int x4)]) hx hb dX9_web_77 hl (k := 2) rfl (by rw [e_2]; rfl) (by decide) rfl (fun ls hl => ?_)
  refine lv_goto (tgt := 22) hx hb dX9_web_80 (by decide) ?_
  cases hf
  exact kc _ rfl _ _ _ hw (lv_sub hl [2, 1, 0] rfl)
theorem wX9_web_65 (C : sn_C p s m args meth c RX9 cX9_web 6 (some .int) D ct ad layM A) {σ : sn_S} {x2 : Int32} {x3 : Int32} {x4 : Int32} {x5 : Int32} {t0 : Int32} {t1 : Int32}  {o : (Int32 × Int32) ⊕ (Int32)} (hf : BX9_web_65 σ x2 x3 x4 x5 t0 t1 = some o) (kc : ∀ v, o = .inl v → sn_At p l e rmX9_web s m args below meth c Q D ct ad layM A 6 σ 34 [(0, .ref (ad 0)), (2, .int x2), (3, .int x3), (4, .int v.1), (5, .int v.2)] []) (kx : ∀ v, o = .inr v → sn_At p l e rmX9_web s m args below meth c Q D ct ad layM A 6 σ 74 [(0, .ref (ad 0)), (2, .int x2), (3, .int x3), (4, .int v)] []) : sn_At p l e rmX9_web s m args below meth c Q D ct ad layM A 6 σ 65 [(0, .ref (ad 0)), (2, .int x2), (3, .int x3), (4, .int x4), (5, .int x5)] [.int t1, .int t0] := by
  intro H locs ls hw hl
  have hx := C.1
  have hb := C.2.1
  unfold BX9_web_65 at hf
  refine lv_ior hx hb dX9_web_65 ?_
  obtain ⟨y_1, e_2, hf⟩ := sn_ltE hf
  refine lv_topi (fun y_1_ e_2_ => ?_)
  obtain rfl : y_1 = y_1_ := e_2.trans e_2_.symm
  refine lv_istore (lv' := [(4, .int y_1), (0, .ref (ad 0)), (2, .int x2), (3, .int x3), (5, .int x5)]) hx hb dX9_web_66 hl (by decide) rfl (fun ls hl => ?_)
  obtain ⟨y_3, e_4, hf⟩ := sn_ltE hf
  refine lv_iinc (v := y_3) (lv' := [(5, .int y_3), (4, .int y_1), (0, .ref (ad 0)), (2, .int x2), (3, .int x3)]) hx hb dX9_web_68 hl (k := 4) rfl (by rw [e_4]; rfl) (by decide) rfl (fun ls hl => ?_)
  refine lv_goto (tgt := 34) hx hb dX9_web_71 (by decide) ?_
  cases hf
  exact kc _ rfl _ _ _ hw (lv_sub hl [2, 3, 4, 1, 0] rfl)
theorem wX9_web_34 (C : sn_C p s m args meth c RX9 cX9_web 6 (some .int) D ct ad layM A) {σ : sn_S} {x2 : Int32} {x3 : Int32} {x4 : Int32} {x5 : Int32}  {o : (Int32 × Int32) ⊕ (Int32)} (hf : BX9_web_34 σ x2 x3 x4 x5 = some o) (kc : ∀ v, o = .inl v → sn_At p l e rmX9_web s m args below meth c Q D ct ad layM A 6 σ 34 [(0, .ref (ad 0)), (2, .int x2), (3, .int x3), (4, .int v.1), (5, .int v.2)] []) (kx : ∀ v, o = .inr v → sn_At p l e rmX9_web s m args below meth c Q D ct ad layM A 6 σ 74 [(0, .ref (ad 0)), (2, .int x2), (3, .int x3), (4, .int v)] []) : sn_At p l e rmX9_web s m args below meth c Q D ct ad layM A 6 σ 34 [(0, .ref (ad 0)), (2, .int x2), (3, .int x3), (4, .int x4), (5, .int x5)] [] := by
  intro H locs ls hw hl
  have hx := C.1
  have hb := C.2.1
  unfold BX9_web_34 at hf
  refine lv_iload hx hb dX9_web_34 (lv_at hl 4 rfl) ?_
  refine lv_aload_n hx hb dX9_web_36 rfl (lv_at hl 0 rfl) ?_
  refine sn_getC (r := 1) C hw fd_RX9_9 layM_0 rfl dX9_web_37 ?_
  refine lv_iconst (v := 5) hx hb dX9_web_40 rfl ?_
  obtain ⟨g_1, hf⟩ := sn_gdE hf
  refine sn_iald C hw layM_1 g_1 dX9_web_41 ?_
  refine lv_icmp_ge (tgt := 74) hx hb dX9_web_42 (by decide) (fun c_2 => ?_) (fun c_2 => ?_)
  · have hf := sn_if c_2 hf
    cases hf
    exact kx _ rfl _ _ _ hw (lv_sub hl [0, 1, 2, 3] rfl)
  · have hf := sn_el c_2 hf
    refine lv_iload hx hb dX9_web_45 (lv_at hl 3 rfl) ?_
    refine lv_aload_n hx hb dX9_web_47 rfl (lv_at hl 0 rfl) ?_
    refine lv_iload hx hb dX9_web_48 (lv_at hl 4 rfl) ?_
    refine lv_iload_n hx hb dX9_web_50 rfl (lv_at hl 1 rfl) ?_
    obtain ⟨t_3, h_4, hf⟩ := sn_bd hf
    refine sn_callVi (rest := [.int x4]) C hw (ctX9_netsTo l  h_4) kl_RX9_257 layM_0 rfl rfl rfl rfl (Nat.le_of_ble_eq_true rfl) dX9_web_51 hl.1 (fun H locs hw => ?_)
    refine lv_if_le (tgt := 64) hx hb dX9_web_54 (by decide) (fun c_5 => ?_) (fun c_5 => ?_)
    · have hf := sn_if c_5 hf
      refine lv_iconst (v := 0) hx hb dX9_web_64 rfl ?_
      exact wX9_web_65 C  hf kc kx _ _ _ hw (lv_sub hl [0, 1, 2, 3, 4] rfl)
    · have hf := sn_el c_5 hf
      refine lv_iconst (v := 1) hx hb dX9_web_57 rfl ?_
      refine lv_iload hx hb dX9_web_58 (lv_at hl 4 rfl) ?_
      refine lv_ishl hx hb dX9_web_60 ?_
      refine lv_goto (tgt := 65) hx hb dX9_web_61 (by decide) ?_
      exact wX9_web_65 C  hf kc kx _ _ _ hw (lv_sub hl [0, 1, 2, 3, 4] rfl)
theorem wX9_web_L34 (C : sn_C p s m args meth c RX9 cX9_web 6 (some .int) D ct ad layM A) {σ : sn_S} {x2 : Int32} {x3 : Int32}   {z : Int32 × Int32} {t : Int32} (h : sn_it (LX9_web_34 σ x2 x3) 5000 z = some t) (kx : ∀ v, t = v → sn_At p l e rmX9_web s m args below meth c Q D ct ad layM A 6 σ 74 [(0, .ref (ad 0)), (2, .int x2), (3, .int x3), (4, .int v)] []) : sn_At p l e rmX9_web s m args below meth c Q D ct ad layM A 6 σ 34 [(0, .ref (ad 0)), (2, .int x2), (3, .int x3), (4, .int z.1), (5, .int z.2)] [] :=
  sn_loop (f := LX9_web_34 σ x2 x3) (G := fun z => sn_At p l e rmX9_web s m args below meth c Q D ct ad layM A 6 σ 34 [(0, .ref (ad 0)), (2, .int x2), (3, .int x3), (4, .int z.1), (5, .int z.2)] []) (E := fun t => (∀ v, t = v → sn_At p l e rmX9_web s m args below meth c Q D ct ad layM A 6 σ 74 [(0, .ref (ad 0)), (2, .int x2), (3, .int x3), (4, .int v)] []) ∧ True) (fun z o hf k1 k2 => wX9_web_34 C  hf (fun v e => k1 v e) (fun v e => (k2 _ e).1 v rfl)) 5000 z t h ⟨kx, trivial⟩
theorem wX9_web_22 (C : sn_C p s m args meth c RX9 cX9_web 6 (some .int) D ct ad layM A) {σ : sn_S} {x2 : Int32} {x3 : Int32}  {o : (Int32 × Int32) ⊕ (Int32)} (hf : BX9_web_22 σ x2 x3 = some o) (kc : ∀ v, o = .inl v → sn_At p l e rmX9_web s m args below meth c Q D ct ad layM A 6 σ 22 [(0, .ref (ad 0)), (2, .int v.1), (3, .int v.2)] []) (kx : ∀ v, o = .inr v → sn_At p l e rmX9_web s m args below meth c Q D ct ad layM A 6 σ 83 [(2, .int v)] []) : sn_At p l e rmX9_web s m args below meth c Q D ct ad layM A 6 σ 22 [(0, .ref (ad 0)), (2, .int x2), (3, .int x3)] [] := by
  intro H locs ls hw hl
  have hx := C.1
  have hb := C.2.1
  unfold BX9_web_22 at hf
  refine lv_iload_n hx hb dX9_web_22 rfl (lv_at hl 2 rfl) ?_
  refine lv_bipush (v := 6) hx hb dX9_web_23 (by decide) ?_
  refine lv_icmp_ge (tgt := 83) hx hb dX9_web_25 (by decide) (fun c_1 => ?_) (fun c_1 => ?_)
  · have hf := sn_if c_1 hf
    cases hf
    exact kx _ rfl _ _ _ hw (lv_sub hl [1] rfl)
  · have hf := sn_el c_1 hf
    refine lv_iload_n hx hb dX9_web_28 rfl (lv_at hl 1 rfl) ?_
    refine lv_istore (lv' := [(4, .int x2), (0, .ref (ad 0)), (2, .int x2), (3, .int x3)]) hx hb dX9_web_29 hl (by decide) rfl (fun ls hl => ?_)
    refine lv_iconst (v := 0) hx hb dX9_web_31 rfl ?_
    refine lv_istore (lv' := [(5, .int (0 : Int32)), (4, .int x2), (0, .ref (ad 0)), (2, .int x2), (3, .int x3)]) hx hb dX9_web_32 hl (by decide) rfl (fun ls hl => ?_)
    obtain ⟨t_2, h_3, hf⟩ := sn_bd hf
    exact wX9_web_L34 C  h_3 (fun v e => by cases e; exact wX9_web_74 C  hf kc kx) _ _ _ hw (lv_sub hl [2, 3, 4, 1, 0] rfl)
theorem wX9_web_L22 (C : sn_C p s m args meth c RX9 cX9_web 6 (some .int) D ct ad layM A) {σ : sn_S}   {z : Int32 × Int32} {t : Int32} (h : sn_it (LX9_web_22 σ) 5000 z = some t) (kx : ∀ v, t = v → sn_At p l e rmX9_web s m args below meth c Q D ct ad layM A 6 σ 83 [(2, .int v)] []) : sn_At p l e rmX9_web s m args below meth c Q D ct ad layM A 6 σ 22 [(0, .ref (ad 0)), (2, .int z.1), (3, .int z.2)] [] :=
  sn_loop (f := LX9_web_22 σ) (G := fun z => sn_At p l e rmX9_web s m args below meth c Q D ct ad layM A 6 σ 22 [(0, .ref (ad 0)), (2, .int z.1), (3, .int z.2)] []) (E := fun t => (∀ v, t = v → sn_At p l e rmX9_web s m args below meth c Q D ct ad layM A 6 σ 83 [(2, .int v)] []) ∧ True) (fun z o hf k1 k2 => wX9_web_22 C  hf (fun v e => k1 v e) (fun v e => (k2 _ e).1 v rfl)) 5000 z t h ⟨kx, trivial⟩
theorem wX9_web_in (C : sn_C p s m args meth c RX9 cX9_web 6 (some .int) D ct ad layM A) {σ : sn_S} {x1 : Int32}  {o : (Int32 × sn_S)} (hf : fX9_web σ x1 = some o) (kr : sn_Kr p l e rmX9_web s m args below meth c Q D ct ad layM A cX9_web .ireturn (true) o.2 [.int o.1]) : sn_At p l e rmX9_web s m args below meth c Q D ct ad layM A 6 σ 0 [(0, .ref (ad 0)), (1, .int x1)] [] := by
  intro H locs ls hw hl
  have hx := C.1
  have hb := C.2.1
  unfold fX9_web at hf
  refine lv_aload_n hx hb dX9_web_0 rfl (lv_at hl 0 rfl) ?_
  obtain ⟨t_1, h_2, hf⟩ := sn_bd hf
  refine sn_callVv (rest := []) C hw (ctX9_asItIs l  h_2) kl_RX9_263 layM_0 rfl rfl rfl rfl (Nat.le_of_ble_eq_true rfl) dX9_web_1 hl.1 (fun H locs hw => ?_)
  refine lv_aload_n hx hb dX9_web_4 rfl (lv_at hl 0 rfl) ?_
  refine lv_iload_n hx hb dX9_web_5 rfl (lv_at hl 1 rfl) ?_
  refine lv_i2l hx hb dX9_web_6 rfl ?_
  obtain ⟨t_3, h_4, hf⟩ := sn_bd hf
  refine sn_callVi (rest := []) C hw (ctX9_isPerson l  h_4) kl_RX9_224 layM_0 rfl rfl rfl rfl (Nat.le_of_ble_eq_true rfl) dX9_web_7 hl.1 (fun H locs hw => ?_)
  refine lv_if_ne (tgt := 16) hx hb dX9_web_10 (by decide) (fun c_5 => ?_) (fun c_5 => ?_)
  · have hf := sn_el c_5 hf
    refine lv_iconst (v := 1) hx hb dX9_web_16 rfl ?_
    refine lv_iload_n hx hb dX9_web_17 rfl (lv_at hl 1 rfl) ?_
    refine lv_ishl hx hb dX9_web_18 ?_
    obtain ⟨y_6, e_7, hf⟩ := sn_ltE hf
    refine lv_topi (fun y_6_ e_7_ => ?_)
    obtain rfl : y_6 = y_6_ := e_7.trans e_7_.symm
    refine lv_istore_n (lv' := [(2, .int y_6), (0, .ref (ad 0)), (1, .int x1)]) hx hb dX9_web_19 rfl hl (by decide) rfl (fun ls hl => ?_)
    refine lv_iconst (v := 0) hx hb dX9_web_20 rfl ?_
    refine lv_istore_n (lv' := [(3, .int (0 : Int32)), (2, .int y_6), (0, .ref (ad 0)), (1, .int x1)]) hx hb dX9_web_21 rfl hl (by decide) rfl (fun ls hl => ?_)
    obtain ⟨t_8, h_9, hf⟩ := sn_bd hf
    exact wX9_web_L22 C  h_9 (fun v e => by cases e; exact wX9_web_83 C  hf kr) _ _ _ hw (lv_sub hl [2, 1, 0] rfl)
  · have hf := sn_if c_5 hf
    refine lv_bipush (v := (-2)) hx hb dX9_web_13 (by decide) ?_
    cases hf
    exact kr _ _ _ _ hw rfl dX9_web_15
theorem ctX9_web (l : Launch) {σ : sn_S} {x1 : Int32}  {o : (Int32 × sn_S)} (hf : fX9_web σ x1 = some o) : sn_M l yX9_web cX9_web 6 (some .int) rmX9_web layM (fun ad => [.ref (ad 0), .int x1]) σ (some (fun _ => .int o.1)) o.2 :=
  sn_met (by decide) (fun _ => Nat.le_of_ble_eq_true rfl) (fun p e s m args below meth c ls D ct ad A C hw hl => wX9_web_in C  hf (fun H locs ls pc hw ok hd => sn_iret C hw hd) _ _ _ hw hl)
-- X9_spreads
abbrev rmX9_spreads : Room := { frames := 6, cells := 0, slots := 0, locals := 136 }
def BX9_spreads_111 (σ : sn_S) (x2 : Int32) : Option ((Int32 × sn_S)) :=
  (some (x2, σ))
def BX9_spreads_103 (σ : sn_S) (x1 : Int32) (x2 : Int32) (x3 : Int32) (t0 : Int32) (t1 : Int32) : Option ((Int32 × Int32) ⊕ (Int32)) :=
  (sn_lt (t0 ||| t1) fun y_1 => (sn_lt (x3 + 1) fun y_3 => (some (.inl (y_1, y_3)))))
def BX9_spreads_102 (σ : sn_S) (x1 : Int32) (x2 : Int32) (x3 : Int32) (t0 : Int32) : Option ((Int32 × Int32) ⊕ (Int32)) :=
  (BX9_spreads_103 σ x1 x2 x3 t0 (0 : Int32))
def BX9_spreads_62 (σ : sn_S) (x1 : Int32) (x2 : Int32) (x3 : Int32) : Option ((Int32 × Int32) ⊕ (Int32)) :=
  (sn_gd (sn_in (5 : Int32) 119) (if (sn_I σ 1 (5 : Int32).toNatClampNeg) ≤ x3 then
  (some (.inr (x2)))
  else
  (if x3 = x1 then
  (BX9_spreads_102 σ x1 x2 x3 x2)
  else
  (sn_gd (sn_in x3 6) ((fX9_bits (sn_I σ 10 x3.toNatClampNeg)).bind fun t_5 => (sn_gd (sn_in x3 6) (if (sn_I σ 15 x3.toNatClampNeg) ≤ t_5 then
  (BX9_spreads_102 σ x1 x2 x3 x2)
  else
  (BX9_spreads_103 σ x1 x2 x3 x2 ((1 : Int32) <<< (x3 &&& 31))))))))))
def LX9_spreads_62 (σ : sn_S) (x1 : Int32) (s : Int32 × Int32) : Option ((Int32 × Int32) ⊕ (Int32)) := BX9_spreads_62 σ x1 s.1 s.2
def BX9_spreads_40 (σ : sn_S) (x1 : Int32) : Option ((Int32 × sn_S)) :=
  ((fX9_minutes σ).bind fun t_1 => (sn_gd (sn_in x1 6) (sn_lt (sn_pI σ 8 x1.toNatClampNeg (((1 : Int32) <<< (t_1 &&& 31)) - (1 : Int32))) fun σ_4 => ((fX9_goAll σ_4).bind fun t_6 => ((sn_it (LX9_spreads_62 t_6 x1) 5000 ((0 : Int32), (0 : Int32))).bind fun t_8 => (BX9_spreads_111 t_6 t_8))))))
def BX9_spreads_13 (σ : sn_S) (x1 : Int32) (x2 : Int32) : Option ((sn_S × Int32) ⊕ (sn_S)) :=
  (if (6 : Int32) ≤ x2 then
  (some (.inr (σ)))
  else
  (sn_gd (sn_in x2 6) ((fX9_bits (sn_I σ 10 x2.toNatClampNeg)).bind fun t_3 => (sn_gd (sn_in x2 6) (sn_lt (sn_pI σ 15 x2.toNatClampNeg t_3) fun σ_6 => (sn_lt (x2 + 1) fun y_8 => (some (.inl (σ_6, y_8)))))))))
def LX9_spreads_13 (x1 : Int32) (s : sn_S × Int32) : Option ((sn_S × Int32) ⊕ (sn_S)) := BX9_spreads_13 s.1 x1 s.2
def fX9_spreads (σ : sn_S) (x1 : Int32) : Option (Int32 × sn_S) :=
  ((fX9_asksPerson σ x1).bind fun t_1 => (if t_1.1 = 0 then
  (some ((-2 : Int32), t_1.2))
  else
  ((sn_it (LX9_spreads_13 x1) 5000 (t_1.2, (0 : Int32))).bind fun t_4 => (BX9_spreads_40 t_4 x1))))
theorem wX9_spreads_111 (C : sn_C p s m args meth c RX9 cX9_spreads 4 (some .int) D ct ad layM A) {σ : sn_S} {x2 : Int32}  {o : (Int32 × sn_S)} (hf : BX9_spreads_111 σ x2 = some o) (kr : sn_Kr p l e rmX9_spreads s m args below meth c Q D ct ad layM A cX9_spreads .ireturn (true) o.2 [.int o.1]) : sn_At p l e rmX9_spreads s m args below meth c Q D ct ad layM A 4 σ 111 [(2, .int x2)] [] := by
  intro H locs ls hw hl
  have hx := C.1
  have hb := C.2.1
  unfold BX9_spreads_111 at hf
  refine lv_iload_n hx hb dX9_spreads_111 rfl (lv_at hl 0 rfl) ?_
  cases hf
  exact kr _ _ _ _ hw rfl dX9_spreads_112
theorem wX9_spreads_103 (C : sn_C p s m args meth c RX9 cX9_spreads 4 (some .int) D ct ad layM A) {σ : sn_S} {x1 : Int32} {x2 : Int32} {x3 : Int32} {t0 : Int32} {t1 : Int32}  {o : (Int32 × Int32) ⊕ (Int32)} (hf : BX9_spreads_103 σ x1 x2 x3 t0 t1 = some o) (kc : ∀ v, o = .inl v → sn_At p l e rmX9_spreads s m args below meth c Q D ct ad layM A 4 σ 62 [(0, .ref (ad 0)), (1, .int x1), (2, .int v.1), (3, .int v.2)] []) (kx : ∀ v, o = .inr v → sn_At p l e rmX9_spreads s m args below meth c Q D ct ad layM A 4 σ 111 [(2, .int v)] []) : sn_At p l e rmX9_spreads s m args below meth c Q D ct ad layM A 4 σ 103 [(0, .ref (ad 0)), (1, .int x1), (2, .int x2), (3, .int x3)] [.int t1, .int t0] := by
  intro H locs ls hw hl
  have hx := C.1
  have hb := C.2.1
  unfold BX9_spreads_103 at hf
  refine lv_ior hx hb dX9_spreads_103 ?_
  obtain ⟨y_1, e_2, hf⟩ := sn_ltE hf
  refine lv_topi (fun y_1_ e_2_ => ?_)
  obtain rfl : y_1 = y_1_ := e_2.trans e_2_.symm
  refine lv_istore_n (lv' := [(2, .int y_1), (0, .ref (ad 0)), (1, .int x1), (3, .int x3)]) hx hb dX9_spreads_104 rfl hl (by decide) rfl (fun ls hl => ?_)
  obtain ⟨y_3, e_4, hf⟩ := sn_ltE hf
  refine lv_iinc (v := y_3) (lv' := [(3, .int y_3), (2, .int y_1), (0, .ref (ad 0)), (1, .int x1)]) hx hb dX9_spreads_105 hl (k := 3) rfl (by rw [e_4]; rfl) (by decide) rfl (fun ls hl => ?_)
  refine lv_goto (tgt := 62) hx hb dX9_spreads_108 (by decide) ?_
  cases hf
  exact kc _ rfl _ _ _ hw (lv_sub hl [2, 3, 1, 0] rfl)
theorem wX9_spreads_102 (C : sn_C p s m args meth c RX9 cX9_spreads 4 (some .int) D ct ad layM A) {σ : sn_S} {x1 : Int32} {x2 : Int32} {x3 : Int32} {t0 : Int32}  {o : (Int32 × Int32) ⊕ (Int32)} (hf : BX9_spreads_102 σ x1 x2 x3 t0 = some o) (kc : ∀ v, o = .inl v → sn_At p l e rmX9_spreads s m args below meth c Q D ct ad layM A 4 σ 62 [(0, .ref (ad 0)), (1, .int x1), (2, .int v.1), (3, .int v.2)] []) (kx : ∀ v, o = .inr v → sn_At p l e rmX9_spreads s m args below meth c Q D ct ad layM A 4 σ 111 [(2, .int v)] []) : sn_At p l e rmX9_spreads s m args below meth c Q D ct ad layM A 4 σ 102 [(0, .ref (ad 0)), (1, .int x1), (2, .int x2), (3, .int x3)] [.int t0] := by
  intro H locs ls hw hl
  have hx := C.1
  have hb := C.2.1
  unfold BX9_spreads_102 at hf
  refine lv_iconst (v := 0) hx hb dX9_spreads_102 rfl ?_
  exact wX9_spreads_103 C  hf kc kx _ _ _ hw (lv_sub hl [0, 1, 2, 3] rfl)
theorem wX9_spreads_62 (C : sn_C p s m args meth c RX9 cX9_spreads 4 (some .int) D ct ad layM A) {σ : sn_S} {x1 : Int32} {x2 : Int32} {x3 : Int32}  {o : (Int32 × Int32) ⊕ (Int32)} (hf : BX9_spreads_62 σ x1 x2 x3 = some o) (kc : ∀ v, o = .inl v → sn_At p l e rmX9_spreads s m args below meth c Q D ct ad layM A 4 σ 62 [(0, .ref (ad 0)), (1, .int x1), (2, .int v.1), (3, .int v.2)] []) (kx : ∀ v, o = .inr v → sn_At p l e rmX9_spreads s m args below meth c Q D ct ad layM A 4 σ 111 [(2, .int v)] []) : sn_At p l e rmX9_spreads s m args below meth c Q D ct ad layM A 4 σ 62 [(0, .ref (ad 0)), (1, .int x1), (2, .int x2), (3, .int x3)] [] := by
  intro H locs ls hw hl
  have hx := C.1
  have hb := C.2.1
  unfold BX9_spreads_62 at hf
  refine lv_iload_n hx hb dX9_spreads_62 rfl (lv_at hl 3 rfl) ?_
  refine lv_aload_n hx hb dX9_spreads_63 rfl (lv_at hl 0 rfl) ?_
  refine sn_getC (r := 1) C hw fd_RX9_9 layM_0 rfl dX9_spreads_64 ?_
  refine lv_iconst (v := 5) hx hb dX9_spreads_67 rfl ?_
  obtain ⟨g_1, hf⟩ := sn_gdE hf
  refine sn_iald C hw layM_1 g_1 dX9_spreads_68 ?_
  refine lv_icmp_ge (tgt := 111) hx hb dX9_spreads_69 (by decide) (fun c_2 => ?_) (fun c_2 => ?_)
  · have hf := sn_if c_2 hf
    cases hf
    exact kx _ rfl _ _ _ hw (lv_sub hl [2] rfl)
  · have hf := sn_el c_2 hf
    refine lv_iload_n hx hb dX9_spreads_72 rfl (lv_at hl 2 rfl) ?_
    refine lv_iload_n hx hb dX9_spreads_73 rfl (lv_at hl 3 rfl) ?_
    refine lv_iload_n hx hb dX9_spreads_74 rfl (lv_at hl 1 rfl) ?_
    refine lv_icmp_eq (tgt := 102) hx hb dX9_spreads_75 (by decide) (fun c_3 => ?_) (fun c_3 => ?_)
    · have hf := sn_if c_3 hf
      exact wX9_spreads_102 C  hf kc kx _ _ _ hw (lv_sub hl [0, 1, 2, 3] rfl)
    · have hf := sn_el c_3 hf
      refine lv_aload_n hx hb dX9_spreads_78 rfl (lv_at hl 0 rfl) ?_
      refine sn_getC (r := 10) C hw fd_RX9_43 layM_0 rfl dX9_spreads_79 ?_
      refine lv_iload_n hx hb dX9_spreads_82 rfl (lv_at hl 3 rfl) ?_
      obtain ⟨g_4, hf⟩ := sn_gdE hf
      refine sn_iald C hw layM_10 g_4 dX9_spreads_83 ?_
      obtain ⟨t_5, h_6, hf⟩ := sn_bd hf
      refine sn_callSi (rest := [.int x2]) C hw (ctX9_bits l  h_6) kl_RX9_278 rfl rfl rfl (Nat.le_of_ble_eq_true rfl) dX9_spreads_84 hl.1 (fun H locs hw => ?_)
      refine lv_aload_n hx hb dX9_spreads_87 rfl (lv_at hl 0 rfl) ?_
      refine sn_getC (r := 15) C hw fd_RX9_58 layM_0 rfl dX9_spreads_88 ?_
      refine lv_iload_n hx hb dX9_spreads_91 rfl (lv_at hl 3 rfl) ?_
      obtain ⟨g_7, hf⟩ := sn_gdE hf
      refine sn_iald C hw layM_15 g_7 dX9_spreads_92 ?_
      refine lv_icmp_ge (tgt := 102) hx hb dX9_spreads_93 (by decide) (fun c_8 => ?_) (fun c_8 => ?_)
      · have hf := sn_if c_8 hf
        exact wX9_spreads_102 C  hf kc kx _ _ _ hw (lv_sub hl [0, 1, 2, 3] rfl)
      · have hf := sn_el c_8 hf
        refine lv_iconst (v := 1) hx hb dX9_spreads_96 rfl ?_
        refine lv_iload_n hx hb dX9_spreads_97 rfl (lv_at hl 3 rfl) ?_
        refine lv_ishl hx hb dX9_spreads_98 ?_
        refine lv_goto (tgt := 103) hx hb dX9_spreads_99 (by decide) ?_
        exact wX9_spreads_103 C  hf kc kx _ _ _ hw (lv_sub hl [0, 1, 2, 3] rfl)
theorem wX9_spreads_L62 (C : sn_C p s m args meth c RX9 cX9_spreads 4 (some .int) D ct ad layM A) {σ : sn_S} {x1 : Int32}   {z : Int32 × Int32} {t : Int32} (h : sn_it (LX9_spreads_62 σ x1) 5000 z = some t) (kx : ∀ v, t = v → sn_At p l e rmX9_spreads s m args below meth c Q D ct ad layM A 4 σ 111 [(2, .int v)] []) : sn_At p l e rmX9_spreads s m args below meth c Q D ct ad layM A 4 σ 62 [(0, .ref (ad 0)), (1, .int x1), (2, .int z.1), (3, .int z.2)] [] :=
  sn_loop (f := LX9_spreads_62 σ x1) (G := fun z => sn_At p l e rmX9_spreads s m args below meth c Q D ct ad layM A 4 σ 62 [(0, .ref (ad 0)), (1, .int x1), (2, .int z.1), (3, .int z.2)] []) (E := fun t => (∀ v, t = v → sn_At p l e rmX9_spreads s m args below meth c Q D ct ad layM A 4 σ 111 [(2, .int v)] []) ∧ True) (fun z o hf k1 k2 => wX9_spreads_62 C  hf (fun v e => k1 v e) (fun v e => (k2 _ e).1 v rfl)) 5000 z t h ⟨kx, trivial⟩
theorem wX9_spreads_40 (C : sn_C p s m args meth c RX9 cX9_spreads 4 (some .int) D ct ad layM A) {σ : sn_S} {x1 : Int32}  {o : (Int32 × sn_S)} (hf : BX9_spreads_40 σ x1 = some o) (kr : sn_Kr p l e rmX9_spreads s m args below meth c Q D ct ad layM A cX9_spreads .ireturn (true) o.2 [.int o.1]) : sn_At p l e rmX9_spreads s m args below meth c Q D ct ad layM A 4 σ 40 [(0, .ref (ad 0)), (1, .int x1)] [] := by
  intro H locs ls hw hl
  have hx := C.1
  have hb := C.2.1
  unfold BX9_spreads_40 at hf
  refine lv_aload_n hx hb dX9_spreads_40 rfl (lv_at hl 0 rfl) ?_
  refine sn_getC (r := 8) C hw fd_RX9_37 layM_0 rfl dX9_spreads_41 ?_
  refine lv_iload_n hx hb dX9_spreads_44 rfl (lv_at hl 1 rfl) ?_
  refine lv_iconst (v := 1) hx hb dX9_spreads_45 rfl ?_
  refine lv_aload_n hx hb dX9_spreads_46 rfl (lv_at hl 0 rfl) ?_
  obtain ⟨t_1, h_2, hf⟩ := sn_bd hf
  refine sn_callVi (rest := [.int (1 : Int32), .int x1, .ref (ad 8)]) C hw (ctX9_minutes l  h_2) kl_RX9_249 layM_0 rfl rfl rfl rfl (Nat.le_of_ble_eq_true rfl) dX9_spreads_47 hl.1 (fun H locs hw => ?_)
  refine lv_ishl hx hb dX9_spreads_50 ?_
  refine lv_iconst (v := 1) hx hb dX9_spreads_51 rfl ?_
  refine lv_isub hx hb dX9_spreads_52 ?_
  obtain ⟨g_3, hf⟩ := sn_gdE hf
  refine sn_iast C hw layM_8 g_3 dX9_spreads_53 (fun H locs hw => ?_)
  obtain ⟨σ_4, e_5, hf⟩ := sn_ltE hf
  rw [← e_5] at hw
  refine lv_aload_n hx hb dX9_spreads_54 rfl (lv_at hl 0 rfl) ?_
  obtain ⟨t_6, h_7, hf⟩ := sn_bd hf
  refine sn_callVv (rest := []) C hw (ctX9_goAll l  h_7) kl_RX9_266 layM_0 rfl rfl rfl rfl (Nat.le_of_ble_eq_true rfl) dX9_spreads_55 hl.1 (fun H locs hw => ?_)
  refine lv_iconst (v := 0) hx hb dX9_spreads_58 rfl ?_
  refine lv_istore_n (lv' := [(2, .int (0 : Int32)), (0, .ref (ad 0)), (1, .int x1)]) hx hb dX9_spreads_59 rfl hl (by decide) rfl (fun ls hl => ?_)
  refine lv_iconst (v := 0) hx hb dX9_spreads_60 rfl ?_
  refine lv_istore_n (lv' := [(3, .int (0 : Int32)), (2, .int (0 : Int32)), (0, .ref (ad 0)), (1, .int x1)]) hx hb dX9_spreads_61 rfl hl (by decide) rfl (fun ls hl => ?_)
  obtain ⟨t_8, h_9, hf⟩ := sn_bd hf
  exact wX9_spreads_L62 C  h_9 (fun v e => by cases e; exact wX9_spreads_111 C  hf kr) _ _ _ hw (lv_sub hl [2, 3, 1, 0] rfl)
theorem wX9_spreads_13 (C : sn_C p s m args meth c RX9 cX9_spreads 4 (some .int) D ct ad layM A) {σ : sn_S} {x1 : Int32} {x2 : Int32}  {o : (sn_S × Int32) ⊕ (sn_S)} (hf : BX9_spreads_13 σ x1 x2 = some o) (kc : ∀ v, o = .inl v → sn_At p l e rmX9_spreads s m args below meth c Q D ct ad layM A 4 v.1 13 [(0, .ref (ad 0)), (1, .int x1), (2, .int v.2)] []) (kx : ∀ v, o = .inr v → sn_At p l e rmX9_spreads s m args below meth c Q D ct ad layM A 4 v 40 [(0, .ref (ad 0)), (1, .int x1)] []) : sn_At p l e rmX9_spreads s m args below meth c Q D ct ad layM A 4 σ 13 [(0, .ref (ad 0)), (1, .int x1), (2, .int x2)] [] := by
  intro H locs ls hw hl
  have hx := C.1
  have hb := C.2.1
  unfold BX9_spreads_13 at hf
  refine lv_iload_n hx hb dX9_spreads_13 rfl (lv_at hl 2 rfl) ?_
  refine lv_bipush (v := 6) hx hb dX9_spreads_14 (by decide) ?_
  refine lv_icmp_ge (tgt := 40) hx hb dX9_spreads_16 (by decide) (fun c_1 => ?_) (fun c_1 => ?_)
  · have hf := sn_if c_1 hf
    cases hf
    exact kx _ rfl _ _ _ hw (lv_sub hl [0, 1] rfl)
  · have hf := sn_el c_1 hf
    refine lv_aload_n hx hb dX9_spreads_19 rfl (lv_at hl 0 rfl) ?_
    refine sn_getC (r := 15) C hw fd_RX9_58 layM_0 rfl dX9_spreads_20 ?_
    refine lv_iload_n hx hb dX9_spreads_23 rfl (lv_at hl 2 rfl) ?_
    refine lv_aload_n hx hb dX9_spreads_24 rfl (lv_at hl 0 rfl) ?_
    refine sn_getC (r := 10) C hw fd_RX9_43 layM_0 rfl dX9_spreads_25 ?_
    refine lv_iload_n hx hb dX9_spreads_28 rfl (lv_at hl 2 rfl) ?_
    obtain ⟨g_2, hf⟩ := sn_gdE hf
    refine sn_iald C hw layM_10 g_2 dX9_spreads_29 ?_
    obtain ⟨t_3, h_4, hf⟩ := sn_bd hf
    refine sn_callSi (rest := [.int x2, .ref (ad 15)]) C hw (ctX9_bits l  h_4) kl_RX9_278 rfl rfl rfl (Nat.le_of_ble_eq_true rfl) dX9_spreads_30 hl.1 (fun H locs hw => ?_)
    obtain ⟨g_5, hf⟩ := sn_gdE hf
    refine sn_iast C hw layM_15 g_5 dX9_spreads_33 (fun H locs hw => ?_)
    obtain ⟨σ_6, e_7, hf⟩ := sn_ltE hf
    rw [← e_7] at hw
    obtain ⟨y_8, e_9, hf⟩ := sn_ltE hf
    refine lv_iinc (v := y_8) (lv' := [(2, .int y_8), (0, .ref (ad 0)), (1, .int x1)]) hx hb dX9_spreads_34 hl (k := 2) rfl (by rw [e_9]; rfl) (by decide) rfl (fun ls hl => ?_)
    refine lv_goto (tgt := 13) hx hb dX9_spreads_37 (by decide) ?_
    cases hf
    exact kc _ rfl _ _ _ hw (lv_sub hl [1, 2, 0] rfl)
theorem wX9_spreads_L13 (C : sn_C p s m args meth c RX9 cX9_spreads 4 (some .int) D ct ad layM A) {x1 : Int32}   {z : sn_S × Int32} {t : sn_S} (h : sn_it (LX9_spreads_13 x1) 5000 z = some t) (kx : ∀ v, t = v → sn_At p l e rmX9_spreads s m args below meth c Q D ct ad layM A 4 v 40 [(0, .ref (ad 0)), (1, .int x1)] []) : sn_At p l e rmX9_spreads s m args below meth c Q D ct ad layM A 4 z.1 13 [(0, .ref (ad 0)), (1, .int x1), (2, .int z.2)] [] :=
  sn_loop (f := LX9_spreads_13 x1) (G := fun z => sn_At p l e rmX9_spreads s m args below meth c Q D ct ad layM A 4 z.1 13 [(0, .ref (ad 0)), (1, .int x1), (2, .int z.2)] []) (E := fun t => (∀ v, t = v → sn_At p l e rmX9_spreads s m args below meth c Q D ct ad layM A 4 v 40 [(0, .ref (ad 0)), (1, .int x1)] []) ∧ True) (fun z o hf k1 k2 => wX9_spreads_13 C  hf (fun v e => k1 v e) (fun v e => (k2 _ e).1 v rfl)) 5000 z t h ⟨kx, trivial⟩
theorem wX9_spreads_in (C : sn_C p s m args meth c RX9 cX9_spreads 4 (some .int) D ct ad layM A) {σ : sn_S} {x1 : Int32}  {o : (Int32 × sn_S)} (hf : fX9_spreads σ x1 = some o) (kr : sn_Kr p l e rmX9_spreads s m args below meth c Q D ct ad layM A cX9_spreads .ireturn (true) o.2 [.int o.1]) : sn_At p l e rmX9_spreads s m args below meth c Q D ct ad layM A 4 σ 0 [(0, .ref (ad 0)), (1, .int x1)] [] := by
  intro H locs ls hw hl
  have hx := C.1
  have hb := C.2.1
  unfold fX9_spreads at hf
  refine lv_aload_n hx hb dX9_spreads_0 rfl (lv_at hl 0 rfl) ?_
  refine lv_iload_n hx hb dX9_spreads_1 rfl (lv_at hl 1 rfl) ?_
  obtain ⟨t_1, h_2, hf⟩ := sn_bd hf
  refine sn_callVi (rest := []) C hw (ctX9_asksPerson l  h_2) kl_RX9_284 layM_0 rfl rfl rfl rfl (Nat.le_of_ble_eq_true rfl) dX9_spreads_2 hl.1 (fun H locs hw => ?_)
  refine lv_if_ne (tgt := 11) hx hb dX9_spreads_5 (by decide) (fun c_3 => ?_) (fun c_3 => ?_)
  · have hf := sn_el c_3 hf
    refine lv_iconst (v := 0) hx hb dX9_spreads_11 rfl ?_
    refine lv_istore_n (lv' := [(2, .int (0 : Int32)), (0, .ref (ad 0)), (1, .int x1)]) hx hb dX9_spreads_12 rfl hl (by decide) rfl (fun ls hl => ?_)
    obtain ⟨t_4, h_5, hf⟩ := sn_bd hf
    exact wX9_spreads_L13 C  h_5 (fun v e => by cases e; exact wX9_spreads_40 C  hf kr) _ _ _ hw (lv_sub hl [1, 2, 0] rfl)
  · have hf := sn_if c_3 hf
    refine lv_bipush (v := (-2)) hx hb dX9_spreads_8 (by decide) ?_
    cases hf
    exact kr _ _ _ _ hw rfl dX9_spreads_10
theorem ctX9_spreads (l : Launch) {σ : sn_S} {x1 : Int32}  {o : (Int32 × sn_S)} (hf : fX9_spreads σ x1 = some o) : sn_M l yX9_spreads cX9_spreads 4 (some .int) rmX9_spreads layM (fun ad => [.ref (ad 0), .int x1]) σ (some (fun _ => .int o.1)) o.2 :=
  sn_met (by decide) (fun _ => Nat.le_of_ble_eq_true rfl) (fun p e s m args below meth c ls D ct ad A C hw hl => wX9_spreads_in C  hf (fun H locs ls pc hw ok hd => sn_iret C hw hd) _ _ _ hw hl)
-- X9_quietBy
abbrev rmX9_quietBy : Room := { frames := 5, cells := 0, slots := 0, locals := 115 }
def BX9_quietBy_115 (σ : sn_S) (x1 : Int32) (x5 : Int32) (x6 : Int32) : Option ((Int32 × sn_S)) :=
  (sn_gd (sn_in x1 119) (sn_lt (sn_pI σ 1 x1.toNatClampNeg x5) fun σ_2 => (some (x6, σ_2))))
def BX9_quietBy_103 (σ : sn_S) (x1 : Int32) (x3 : Int32) (x4 : Int32) (x5 : Int32) (x6 : Int32) (x7 : Int32) (x8 : Int32) (t0 : Int32) : Option ((sn_S × Int32 × Int32) ⊕ (sn_S × Int32)) :=
  (sn_lt (x8 + x7) fun y_1 => (some (.inl (σ, t0, y_1))))
def BX9_quietBy_90 (σ : sn_S) (x1 : Int32) (x3 : Int32) (x4 : Int32) (x5 : Int32) (x6 : Int32) (x7 : Int32) (x8 : Int32) (t0 : Int32) : Option ((sn_S × Int32 × Int32) ⊕ (sn_S × Int32)) :=
  (if t0 = 0 then
  (BX9_quietBy_103 σ x1 x3 x4 x5 x6 x7 x8 (-1 : Int32))
  else
  (BX9_quietBy_103 σ x1 x3 x4 x5 x6 x7 x8 x8))
def BX9_quietBy_26 (σ : sn_S) (x1 : Int32) (x3 : Int32) (x4 : Int32) (x5 : Int32) (x6 : Int32) (x7 : Int32) (x8 : Int32) : Option ((sn_S × Int32 × Int32) ⊕ (sn_S × Int32)) :=
  (if x8 = (x3 + x7) then
  (some (.inr (σ, x6)))
  else
  (if x6 = (-1 : Int32) then
  (sn_gd (sn_in x1 119) (sn_lt (sn_pI σ 1 x1.toNatClampNeg x8) fun σ_4 => ((fX9_asksHouse σ_4).bind fun t_6 => (if x4 = (-1 : Int32) then
  ((fX9_allSneezes t_6.2).bind fun t_11 => (if t_11 = 0 then
  (BX9_quietBy_90 t_6.2 x1 x3 x4 x5 x6 x7 x8 (1 : Int32))
  else
  (BX9_quietBy_90 t_6.2 x1 x3 x4 x5 x6 x7 x8 (0 : Int32))))
  else
  (sn_gd (sn_in x4 6) (if (sn_I t_6.2 10 x4.toNatClampNeg) = 0 then
  (BX9_quietBy_90 t_6.2 x1 x3 x4 x5 x6 x7 x8 (1 : Int32))
  else
  (BX9_quietBy_90 t_6.2 x1 x3 x4 x5 x6 x7 x8 (0 : Int32))))))))
  else
  (some (.inr (σ, x6)))))
def LX9_quietBy_26 (x1 : Int32) (x3 : Int32) (x4 : Int32) (x5 : Int32) (x7 : Int32) (s : sn_S × Int32 × Int32) : Option ((sn_S × Int32 × Int32) ⊕ (sn_S × Int32)) := BX9_quietBy_26 s.1 x1 x3 x4 x5 s.2.1 x7 s.2.2
def BX9_quietBy_21 (σ : sn_S) (x1 : Int32) (x2 : Int32) (x3 : Int32) (x4 : Int32) (x5 : Int32) (x6 : Int32) (t0 : Int32) : Option ((Int32 × sn_S)) :=
  ((sn_it (LX9_quietBy_26 x1 x3 x4 x5 t0) 5000 (σ, x6, x2)).bind fun t_1 => (BX9_quietBy_115 t_1.1 x1 x5 t_1.2))
def fX9_quietBy (σ : sn_S) (x1 : Int32) (x2 : Int32) (x3 : Int32) (x4 : Int32) : Option (Int32 × sn_S) :=
  (sn_gd (sn_in x1 119) (sn_lt (sn_I σ 1 x1.toNatClampNeg) fun y_2 => (if x2 ≤ x3 then
  (BX9_quietBy_21 σ x1 x2 x3 x4 y_2 (-1 : Int32) (1 : Int32))
  else
  (BX9_quietBy_21 σ x1 x2 x3 x4 y_2 (-1 : Int32) (-1 : Int32)))))
theorem wX9_quietBy_115 (C : sn_C p s m args meth c RX9 cX9_quietBy 10 (some .int) D ct ad layM A) {σ : sn_S} {x1 : Int32} {x5 : Int32} {x6 : Int32}  {o : (Int32 × sn_S)} (hf : BX9_quietBy_115 σ x1 x5 x6 = some o) (kr : sn_Kr p l e rmX9_quietBy s m args below meth c Q D ct ad layM A cX9_quietBy .ireturn (true) o.2 [.int o.1]) : sn_At p l e rmX9_quietBy s m args below meth c Q D ct ad layM A 10 σ 115 [(0, .ref (ad 0)), (1, .int x1), (5, .int x5), (6, .int x6)] [] := by
  intro H locs ls hw hl
  have hx := C.1
  have hb := C.2.1
  unfold BX9_quietBy_115 at hf
  refine lv_aload_n hx hb dX9_quietBy_115 rfl (lv_at hl 0 rfl) ?_
  refine sn_getC (r := 1) C hw fd_RX9_9 layM_0 rfl dX9_quietBy_116 ?_
  refine lv_iload_n hx hb dX9_quietBy_119 rfl (lv_at hl 1 rfl) ?_
  refine lv_iload hx hb dX9_quietBy_120 (lv_at hl 2 rfl) ?_
  obtain ⟨g_1, hf⟩ := sn_gdE hf
  refine sn_iast C hw layM_1 g_1 dX9_quietBy_122 (fun H locs hw => ?_)
  obtain ⟨σ_2, e_3, hf⟩ := sn_ltE hf
  rw [← e_3] at hw
  refine lv_iload hx hb dX9_quietBy_123 (lv_at hl 3 rfl) ?_
  cases hf
  exact kr _ _ _ _ hw rfl dX9_quietBy_125
theorem wX9_quietBy_103 (C : sn_C p s m args meth c RX9 cX9_quietBy 10 (some .int) D ct ad layM A) {σ : sn_S} {x1 : Int32} {x3 : Int32} {x4 : Int32} {x5 : Int32} {x6 : Int32} {x7 : Int32} {x8 : Int32} {t0 : Int32}  {o : (sn_S × Int32 × Int32) ⊕ (sn_S × Int32)} (hf : BX9_quietBy_103 σ x1 x3 x4 x5 x6 x7 x8 t0 = some o) (kc : ∀ v, o = .inl v → sn_At p l e rmX9_quietBy s m args below meth c Q D ct ad layM A 10 v.1 26 [(0, .ref (ad 0)), (1, .int x1), (3, .int x3), (4, .int x4), (5, .int x5), (6, .int v.2.1), (7, .int x7), (8, .int v.2.2)] []) (kx : ∀ v, o = .inr v → sn_At p l e rmX9_quietBy s m args below meth c Q D ct ad layM A 10 v.1 115 [(0, .ref (ad 0)), (1, .int x1), (5, .int x5), (6, .int v.2)] []) : sn_At p l e rmX9_quietBy s m args below meth c Q D ct ad layM A 10 σ 103 [(0, .ref (ad 0)), (1, .int x1), (3, .int x3), (4, .int x4), (5, .int x5), (6, .int x6), (7, .int x7), (8, .int x8)] [.int t0] := by
  intro H locs ls hw hl
  have hx := C.1
  have hb := C.2.1
  unfold BX9_quietBy_103 at hf
  refine lv_istore (lv' := [(6, .int t0), (0, .ref (ad 0)), (1, .int x1), (3, .int x3), (4, .int x4), (5, .int x5), (7, .int x7), (8, .int x8)]) hx hb dX9_quietBy_103 hl (by decide) rfl (fun ls hl => ?_)
  refine lv_iload hx hb dX9_quietBy_105 (lv_at hl 7 rfl) ?_
  refine lv_iload hx hb dX9_quietBy_107 (lv_at hl 6 rfl) ?_
  refine lv_iadd hx hb dX9_quietBy_109 ?_
  obtain ⟨y_1, e_2, hf⟩ := sn_ltE hf
  refine lv_topi (fun y_1_ e_2_ => ?_)
  obtain rfl : y_1 = y_1_ := e_2.trans e_2_.symm
  refine lv_istore (lv' := [(8, .int y_1), (6, .int t0), (0, .ref (ad 0)), (1, .int x1), (3, .int x3), (4, .int x4), (5, .int x5), (7, .int x7)]) hx hb dX9_quietBy_110 hl (by decide) rfl (fun ls hl => ?_)
  refine lv_goto (tgt := 26) hx hb dX9_quietBy_112 (by decide) ?_
  cases hf
  exact kc _ rfl _ _ _ hw (lv_sub hl [2, 3, 4, 5, 6, 1, 7, 0] rfl)
theorem wX9_quietBy_90 (C : sn_C p s m args meth c RX9 cX9_quietBy 10 (some .int) D ct ad layM A) {σ : sn_S} {x1 : Int32} {x3 : Int32} {x4 : Int32} {x5 : Int32} {x6 : Int32} {x7 : Int32} {x8 : Int32} {t0 : Int32}  {o : (sn_S × Int32 × Int32) ⊕ (sn_S × Int32)} (hf : BX9_quietBy_90 σ x1 x3 x4 x5 x6 x7 x8 t0 = some o) (kc : ∀ v, o = .inl v → sn_At p l e rmX9_quietBy s m args below meth c Q D ct ad layM A 10 v.1 26 [(0, .ref (ad 0)), (1, .int x1), (3, .int x3), (4, .int x4), (5, .int x5), (6, .int v.2.1), (7, .int x7), (8, .int v.2.2)] []) (kx : ∀ v, o = .inr v → sn_At p l e rmX9_quietBy s m args below meth c Q D ct ad layM A 10 v.1 115 [(0, .ref (ad 0)), (1, .int x1), (5, .int x5), (6, .int v.2)] []) : sn_At p l e rmX9_quietBy s m args below meth c Q D ct ad layM A 10 σ 90 [(0, .ref (ad 0)), (1, .int x1), (3, .int x3), (4, .int x4), (5, .int x5), (6, .int x6), (7, .int x7), (8, .int x8)] [.int t0] := by
  intro H locs ls hw hl
  have hx := C.1
  have hb := C.2.1
  unfold BX9_quietBy_90 at hf
  refine lv_istore (lv' := [(9, .int t0), (0, .ref (ad 0)), (1, .int x1), (3, .int x3), (4, .int x4), (5, .int x5), (6, .int x6), (7, .int x7), (8, .int x8)]) hx hb dX9_quietBy_90 hl (by decide) rfl (fun ls hl => ?_)
  refine lv_iload hx hb dX9_quietBy_92 (lv_at hl 0 rfl) ?_
  refine lv_if_eq (tgt := 102) hx hb dX9_quietBy_94 (by decide) (fun c_1 => ?_) (fun c_1 => ?_)
  · have hf := sn_if c_1 hf
    refine lv_iconst (v := (-1)) hx hb dX9_quietBy_102 rfl ?_
    exact wX9_quietBy_103 C  hf kc kx _ _ _ hw (lv_sub hl [1, 2, 3, 4, 5, 6, 7, 8] rfl)
  · have hf := sn_el c_1 hf
    refine lv_iload hx hb dX9_quietBy_97 (lv_at hl 8 rfl) ?_
    refine lv_goto (tgt := 103) hx hb dX9_quietBy_99 (by decide) ?_
    exact wX9_quietBy_103 C  hf kc kx _ _ _ hw (lv_sub hl [1, 2, 3, 4, 5, 6, 7, 8] rfl)
theorem wX9_quietBy_26 (C : sn_C p s m args meth c RX9 cX9_quietBy 10 (some .int) D ct ad layM A) {σ : sn_S} {x1 : Int32} {x3 : Int32} {x4 : Int32} {x5 : Int32} {x6 : Int32} {x7 : Int32} {x8 : Int32}  {o : (sn_S × Int32 × Int32) ⊕ (sn_S × Int32)} (hf : BX9_quietBy_26 σ x1 x3 x4 x5 x6 x7 x8 = some o) (kc : ∀ v, o = .inl v → sn_At p l e rmX9_quietBy s m args below meth c Q D ct ad layM A 10 v.1 26 [(0, .ref (ad 0)), (1, .int x1), (3, .int x3), (4, .int x4), (5, .int x5), (6, .int v.2.1), (7, .int x7), (8, .int v.2.2)] []) (kx : ∀ v, o = .inr v → sn_At p l e rmX9_quietBy s m args below meth c Q D ct ad layM A 10 v.1 115 [(0, .ref (ad 0)), (1, .int x1), (5, .int x5), (6, .int v.2)] []) : sn_At p l e rmX9_quietBy s m args below meth c Q D ct ad layM A 10 σ 26 [(0, .ref (ad 0)), (1, .int x1), (3, .int x3), (4, .int x4), (5, .int x5), (6, .int x6), (7, .int x7), (8, .int x8)] [] := by
  intro H locs ls hw hl
  have hx := C.1
  have hb := C.2.1
  unfold BX9_quietBy_26 at hf
  refine lv_iload hx hb dX9_quietBy_26 (lv_at hl 7 rfl) ?_
  refine lv_iload_n hx hb dX9_quietBy_28 rfl (lv_at hl 2 rfl) ?_
  refine lv_iload hx hb dX9_quietBy_29 (lv_at hl 6 rfl) ?_
  refine lv_iadd hx hb dX9_quietBy_31 ?_
  refine lv_icmp_eq (tgt := 115) hx hb dX9_quietBy_32 (by decide) (fun c_1 => ?_) (fun c_1 => ?_)
  · have hf := sn_if c_1 hf
    cases hf
    exact kx _ rfl _ _ _ hw (lv_sub hl [0, 1, 4, 5] rfl)
  · have hf := sn_el c_1 hf
    refine lv_iload hx hb dX9_quietBy_35 (lv_at hl 5 rfl) ?_
    refine lv_iconst (v := (-1)) hx hb dX9_quietBy_37 rfl ?_
    refine lv_icmp_ne (tgt := 115) hx hb dX9_quietBy_38 (by decide) (fun c_2 => ?_) (fun c_2 => ?_)
    · have hf := sn_el c_2 hf
      cases hf
      exact kx _ rfl _ _ _ hw (lv_sub hl [0, 1, 4, 5] rfl)
    · have hf := sn_if c_2 hf
      refine lv_aload_n hx hb dX9_quietBy_41 rfl (lv_at hl 0 rfl) ?_
      refine sn_getC (r := 1) C hw fd_RX9_9 layM_0 rfl dX9_quietBy_42 ?_
      refine lv_iload_n hx hb dX9_quietBy_45 rfl (lv_at hl 1 rfl) ?_
      refine lv_iload hx hb dX9_quietBy_46 (lv_at hl 7 rfl) ?_
      obtain ⟨g_3, hf⟩ := sn_gdE hf
      refine sn_iast C hw layM_1 g_3 dX9_quietBy_48 (fun H locs hw => ?_)
      obtain ⟨σ_4, e_5, hf⟩ := sn_ltE hf
      rw [← e_5] at hw
      refine lv_aload_n hx hb dX9_quietBy_49 rfl (lv_at hl 0 rfl) ?_
      obtain ⟨t_6, h_7, hf⟩ := sn_bd hf
      refine sn_callVi (rest := []) C hw (ctX9_asksHouse l  h_7) kl_RX9_272 layM_0 rfl rfl rfl rfl (Nat.le_of_ble_eq_true rfl) dX9_quietBy_50 hl.1 (fun H locs hw => ?_)
      refine lv_pop hx hb dX9_quietBy_53 rfl ?_
      refine lv_iload hx hb dX9_quietBy_54 (lv_at hl 3 rfl) ?_
      refine lv_iconst (v := (-1)) hx hb dX9_quietBy_56 rfl ?_
      refine lv_icmp_ne (tgt := 75) hx hb dX9_quietBy_57 (by decide) (fun c_8 => ?_) (fun c_8 => ?_)
      · have hf := sn_el c_8 hf
        refine lv_aload_n hx hb dX9_quietBy_75 rfl (lv_at hl 0 rfl) ?_
        refine sn_getC (r := 10) C hw fd_RX9_43 layM_0 rfl dX9_quietBy_76 ?_
        refine lv_iload hx hb dX9_quietBy_79 (lv_at hl 3 rfl) ?_
        obtain ⟨g_9, hf⟩ := sn_gdE hf
        refine sn_iald C hw layM_10 g_9 dX9_quietBy_81 ?_
        refine lv_if_ne (tgt := 89) hx hb dX9_quietBy_82 (by decide) (fun c_10 => ?_) (fun c_10 => ?_)
        · have hf := sn_el c_10 hf
          refine lv_iconst (v := 0) hx hb dX9_quietBy_89 rfl ?_
          exact wX9_quietBy_90 C  hf kc kx _ _ _ hw (lv_sub hl [0, 1, 2, 3, 4, 5, 6, 7] rfl)
        · have hf := sn_if c_10 hf
          refine lv_iconst (v := 1) hx hb dX9_quietBy_85 rfl ?_
          refine lv_goto (tgt := 90) hx hb dX9_quietBy_86 (by decide) ?_
          exact wX9_quietBy_90 C  hf kc kx _ _ _ hw (lv_sub hl [0, 1, 2, 3, 4, 5, 6, 7] rfl)
      · have hf := sn_if c_8 hf
        refine lv_aload_n hx hb dX9_quietBy_60 rfl (lv_at hl 0 rfl) ?_
        obtain ⟨t_11, h_12, hf⟩ := sn_bd hf
        refine sn_callVi (rest := []) C hw (ctX9_allSneezes l  h_12) kl_RX9_290 layM_0 rfl rfl rfl rfl (Nat.le_of_ble_eq_true rfl) dX9_quietBy_61 hl.1 (fun H locs hw => ?_)
        refine lv_if_ne (tgt := 71) hx hb dX9_quietBy_64 (by decide) (fun c_13 => ?_) (fun c_13 => ?_)
        · have hf := sn_el c_13 hf
          refine lv_iconst (v := 0) hx hb dX9_quietBy_71 rfl ?_
          refine lv_goto (tgt := 90) hx hb dX9_quietBy_72 (by decide) ?_
          exact wX9_quietBy_90 C  hf kc kx _ _ _ hw (lv_sub hl [0, 1, 2, 3, 4, 5, 6, 7] rfl)
        · have hf := sn_if c_13 hf
          refine lv_iconst (v := 1) hx hb dX9_quietBy_67 rfl ?_
          refine lv_goto (tgt := 90) hx hb dX9_quietBy_68 (by decide) ?_
          exact wX9_quietBy_90 C  hf kc kx _ _ _ hw (lv_sub hl [0, 1, 2, 3, 4, 5, 6, 7] rfl)
theorem wX9_quietBy_L26 (C : sn_C p s m args meth c RX9 cX9_quietBy 10 (some .int) D ct ad layM A) {x1 : Int32} {x3 : Int32} {x4 : Int32} {x5 : Int32} {x7 : Int32}   {z : sn_S × Int32 × Int32} {t : sn_S × Int32} (h : sn_it (LX9_quietBy_26 x1 x3 x4 x5 x7) 5000 z = some t) (kx : ∀ v, t = v → sn_At p l e rmX9_quietBy s m args below meth c Q D ct ad layM A 10 v.1 115 [(0, .ref (ad 0)), (1, .int x1), (5, .int x5), (6, .int v.2)] []) : sn_At p l e rmX9_quietBy s m args below meth c Q D ct ad layM A 10 z.1 26 [(0, .ref (ad 0)), (1, .int x1), (3, .int x3), (4, .int x4), (5, .int x5), (6, .int z.2.1), (7, .int x7), (8, .int z.2.2)] [] :=
  sn_loop (f := LX9_quietBy_26 x1 x3 x4 x5 x7) (G := fun z => sn_At p l e rmX9_quietBy s m args below meth c Q D ct ad layM A 10 z.1 26 [(0, .ref (ad 0)), (1, .int x1), (3, .int x3), (4, .int x4), (5, .int x5), (6, .int z.2.1), (7, .int x7), (8, .int z.2.2)] []) (E := fun t => (∀ v, t = v → sn_At p l e rmX9_quietBy s m args below meth c Q D ct ad layM A 10 v.1 115 [(0, .ref (ad 0)), (1, .int x1), (5, .int x5), (6, .int v.2)] []) ∧ True) (fun z o hf k1 k2 => wX9_quietBy_26 C  hf (fun v e => k1 v e) (fun v e => (k2 _ e).1 v rfl)) 5000 z t h ⟨kx, trivial⟩
theorem wX9_quietBy_21 (C : sn_C p s m args meth c RX9 cX9_quietBy 10 (some .int) D ct ad layM A) {σ : sn_S} {x1 : Int32} {x2 : Int32} {x3 : Int32} {x4 : Int32} {x5 : Int32} {x6 : Int32} {t0 : Int32}  {o : (Int32 × sn_S)} (hf : BX9_quietBy_21 σ x1 x2 x3 x4 x5 x6 t0 = some o) (kr : sn_Kr p l e rmX9_quietBy s m args below meth c Q D ct ad layM A cX9_quietBy .ireturn (true) o.2 [.int o.1]) : sn_At p l e rmX9_quietBy s m args below meth c Q D ct ad layM A 10 σ 21 [(0, .ref (ad 0)), (1, .int x1), (2, .int x2), (3, .int x3), (4, .int x4), (5, .int x5), (6, .int x6)] [.int t0] := by
  intro H locs ls hw hl
  have hx := C.1
  have hb := C.2.1
  unfold BX9_quietBy_21 at hf
  refine lv_istore (lv' := [(7, .int t0), (0, .ref (ad 0)), (1, .int x1), (2, .int x2), (3, .int x3), (4, .int x4), (5, .int x5), (6, .int x6)]) hx hb dX9_quietBy_21 hl (by decide) rfl (fun ls hl => ?_)
  refine lv_iload_n hx hb dX9_quietBy_23 rfl (lv_at hl 3 rfl) ?_
  refine lv_istore (lv' := [(8, .int x2), (7, .int t0), (0, .ref (ad 0)), (1, .int x1), (2, .int x2), (3, .int x3), (4, .int x4), (5, .int x5), (6, .int x6)]) hx hb dX9_quietBy_24 hl (by decide) rfl (fun ls hl => ?_)
  obtain ⟨t_1, h_2, hf⟩ := sn_bd hf
  exact wX9_quietBy_L26 C  h_2 (fun v e => by cases e; exact wX9_quietBy_115 C  hf kr) _ _ _ hw (lv_sub hl [2, 3, 5, 6, 7, 8, 1, 0] rfl)
theorem wX9_quietBy_in (C : sn_C p s m args meth c RX9 cX9_quietBy 10 (some .int) D ct ad layM A) {σ : sn_S} {x1 : Int32} {x2 : Int32} {x3 : Int32} {x4 : Int32}  {o : (Int32 × sn_S)} (hf : fX9_quietBy σ x1 x2 x3 x4 = some o) (kr : sn_Kr p l e rmX9_quietBy s m args below meth c Q D ct ad layM A cX9_quietBy .ireturn (true) o.2 [.int o.1]) : sn_At p l e rmX9_quietBy s m args below meth c Q D ct ad layM A 10 σ 0 [(0, .ref (ad 0)), (1, .int x1), (2, .int x2), (3, .int x3), (4, .int x4)] [] := by
  intro H locs ls hw hl
  have hx := C.1
  have hb := C.2.1
  unfold fX9_quietBy at hf
  refine lv_aload_n hx hb dX9_quietBy_0 rfl (lv_at hl 0 rfl) ?_
  refine sn_getC (r := 1) C hw fd_RX9_9 layM_0 rfl dX9_quietBy_1 ?_
  refine lv_iload_n hx hb dX9_quietBy_4 rfl (lv_at hl 1 rfl) ?_
  obtain ⟨g_1, hf⟩ := sn_gdE hf
  refine sn_iald C hw layM_1 g_1 dX9_quietBy_5 ?_
  obtain ⟨y_2, e_3, hf⟩ := sn_ltE hf
  refine lv_topi (fun y_2_ e_3_ => ?_)
  obtain rfl : y_2 = y_2_ := e_3.trans e_3_.symm
  refine lv_istore (lv' := [(5, .int y_2), (0, .ref (ad 0)), (1, .int x1), (2, .int x2), (3, .int x3), (4, .int x4)]) hx hb dX9_quietBy_6 hl (by decide) rfl (fun ls hl => ?_)
  refine lv_iconst (v := (-1)) hx hb dX9_quietBy_8 rfl ?_
  refine lv_istore (lv' := [(6, .int (-1 : Int32)), (5, .int y_2), (0, .ref (ad 0)), (1, .int x1), (2, .int x2), (3, .int x3), (4, .int x4)]) hx hb dX9_quietBy_9 hl (by decide) rfl (fun ls hl => ?_)
  refine lv_iload_n hx hb dX9_quietBy_11 rfl (lv_at hl 4 rfl) ?_
  refine lv_iload_n hx hb dX9_quietBy_12 rfl (lv_at hl 5 rfl) ?_
  refine lv_icmp_le (tgt := 20) hx hb dX9_quietBy_13 (by decide) (fun c_4 => ?_) (fun c_4 => ?_)
  · have hf := sn_if c_4 hf
    refine lv_iconst (v := 1) hx hb dX9_quietBy_20 rfl ?_
    exact wX9_quietBy_21 C  hf kr _ _ _ hw (lv_sub hl [2, 3, 4, 5, 6, 1, 0] rfl)
  · have hf := sn_el c_4 hf
    refine lv_iconst (v := (-1)) hx hb dX9_quietBy_16 rfl ?_
    refine lv_goto (tgt := 21) hx hb dX9_quietBy_17 (by decide) ?_
    exact wX9_quietBy_21 C  hf kr _ _ _ hw (lv_sub hl [2, 3, 4, 5, 6, 1, 0] rfl)
theorem ctX9_quietBy (l : Launch) {σ : sn_S} {x1 : Int32} {x2 : Int32} {x3 : Int32} {x4 : Int32}  {o : (Int32 × sn_S)} (hf : fX9_quietBy σ x1 x2 x3 x4 = some o) : sn_M l yX9_quietBy cX9_quietBy 10 (some .int) rmX9_quietBy layM (fun ad => [.ref (ad 0), .int x1, .int x2, .int x3, .int x4]) σ (some (fun _ => .int o.1)) o.2 :=
  sn_met (by decide) (fun _ => Nat.le_of_ble_eq_true rfl) (fun p e s m args below meth c ls D ct ad A C hw hl => wX9_quietBy_in C  hf (fun H locs ls pc hw ok hd => sn_iret C hw hd) _ _ _ hw hl)
-- X9_dull
abbrev rmX9_dull : Room := { frames := 6, cells := 0, slots := 0, locals := 144 }
def fX9_dull (σ : sn_S) (x1 : Int32) : Option (Int32 × sn_S) :=
  ((fX9_isPerson σ x1.toInt64).bind fun t_1 => (if t_1 = 0 then
  (some ((-2 : Int32), σ))
  else
  ((fX9_quietBy σ ((11 : Int32) + ((2 : Int32) * x1)) (9 : Int32) (0 : Int32) x1).bind fun t_4 => (some (t_4.1, t_4.2)))))
theorem wX9_dull_in (C : sn_C p s m args meth c RX9 cX9_dull 2 (some .int) D ct ad layM A) {σ : sn_S} {x1 : Int32}  {o : (Int32 × sn_S)} (hf : fX9_dull σ x1 = some o) (kr : sn_Kr p l e rmX9_dull s m args below meth c Q D ct ad layM A cX9_dull .ireturn (true) o.2 [.int o.1]) : sn_At p l e rmX9_dull s m args below meth c Q D ct ad layM A 2 σ 0 [(0, .ref (ad 0)), (1, .int x1)] [] := by
  intro H locs ls hw hl
  have hx := C.1
  have hb := C.2.1
  unfold fX9_dull at hf
  refine lv_aload_n hx hb dX9_dull_0 rfl (lv_at hl 0 rfl) ?_
  refine lv_iload_n hx hb dX9_dull_1 rfl (lv_at hl 1 rfl) ?_
  refine lv_i2l hx hb dX9_dull_2 rfl ?_
  obtain ⟨t_1, h_2, hf⟩ := sn_bd hf
  refine sn_callVi (rest := []) C hw (ctX9_isPerson l  h_2) kl_RX9_224 layM_0 rfl rfl rfl rfl (Nat.le_of_ble_eq_true rfl) dX9_dull_3 hl.1 (fun H locs hw => ?_)
  refine lv_if_eq (tgt := 26) hx hb dX9_dull_6 (by decide) (fun c_3 => ?_) (fun c_3 => ?_)
  · have hf := sn_if c_3 hf
    refine lv_bipush (v := (-2)) hx hb dX9_dull_26 (by decide) ?_
    cases hf
    exact kr _ _ _ _ hw rfl dX9_dull_28
  · have hf := sn_el c_3 hf
    refine lv_aload_n hx hb dX9_dull_9 rfl (lv_at hl 0 rfl) ?_
    refine lv_bipush (v := 11) hx hb dX9_dull_10 (by decide) ?_
    refine lv_iconst (v := 2) hx hb dX9_dull_12 rfl ?_
    refine lv_iload_n hx hb dX9_dull_13 rfl (lv_at hl 1 rfl) ?_
    refine lv_imul hx hb dX9_dull_14 ?_
    refine lv_iadd hx hb dX9_dull_15 ?_
    refine lv_bipush (v := 9) hx hb dX9_dull_16 (by decide) ?_
    refine lv_iconst (v := 0) hx hb dX9_dull_18 rfl ?_
    refine lv_iload_n hx hb dX9_dull_19 rfl (lv_at hl 1 rfl) ?_
    obtain ⟨t_4, h_5, hf⟩ := sn_bd hf
    refine sn_callVi (rest := []) C hw (ctX9_quietBy l  h_5) kl_RX9_300 layM_0 rfl rfl rfl rfl (Nat.le_of_ble_eq_true rfl) dX9_dull_20 hl.1 (fun H locs hw => ?_)
    refine lv_goto (tgt := 28) hx hb dX9_dull_23 (by decide) ?_
    cases hf
    exact kr _ _ _ _ hw rfl dX9_dull_28
theorem ctX9_dull (l : Launch) {σ : sn_S} {x1 : Int32}  {o : (Int32 × sn_S)} (hf : fX9_dull σ x1 = some o) : sn_M l yX9_dull cX9_dull 2 (some .int) rmX9_dull layM (fun ad => [.ref (ad 0), .int x1]) σ (some (fun _ => .int o.1)) o.2 :=
  sn_met (by decide) (fun _ => Nat.le_of_ble_eq_true rfl) (fun p e s m args below meth c ls D ct ad A C hw hl => wX9_dull_in C  hf (fun H locs ls pc hw ok hd => sn_iret C hw hd) _ _ _ hw hl)
-- X9_bears
abbrev rmX9_bears : Room := { frames := 6, cells := 0, slots := 0, locals := 144 }
def fX9_bears (σ : sn_S) (x1 : Int32) : Option (Int32 × sn_S) :=
  ((fX9_isPerson σ x1.toInt64).bind fun t_1 => (if t_1 = 0 then
  (some ((-2 : Int32), σ))
  else
  ((fX9_quietBy σ (((11 : Int32) + ((2 : Int32) * x1)) + (1 : Int32)) (1 : Int32) (99 : Int32) x1).bind fun t_4 => (some (t_4.1, t_4.2)))))
theorem wX9_bears_in (C : sn_C p s m args meth c RX9 cX9_bears 2 (some .int) D ct ad layM A) {σ : sn_S} {x1 : Int32}  {o : (Int32 × sn_S)} (hf : fX9_bears σ x1 = some o) (kr : sn_Kr p l e rmX9_bears s m args below meth c Q D ct ad layM A cX9_bears .ireturn (true) o.2 [.int o.1]) : sn_At p l e rmX9_bears s m args below meth c Q D ct ad layM A 2 σ 0 [(0, .ref (ad 0)), (1, .int x1)] [] := by
  intro H locs ls hw hl
  have hx := C.1
  have hb := C.2.1
  unfold fX9_bears at hf
  refine lv_aload_n hx hb dX9_bears_0 rfl (lv_at hl 0 rfl) ?_
  refine lv_iload_n hx hb dX9_bears_1 rfl (lv_at hl 1 rfl) ?_
  refine lv_i2l hx hb dX9_bears_2 rfl ?_
  obtain ⟨t_1, h_2, hf⟩ := sn_bd hf
  refine sn_callVi (rest := []) C hw (ctX9_isPerson l  h_2) kl_RX9_224 layM_0 rfl rfl rfl rfl (Nat.le_of_ble_eq_true rfl) dX9_bears_3 hl.1 (fun H locs hw => ?_)
  refine lv_if_eq (tgt := 28) hx hb dX9_bears_6 (by decide) (fun c_3 => ?_) (fun c_3 => ?_)
  · have hf := sn_if c_3 hf
    refine lv_bipush (v := (-2)) hx hb dX9_bears_28 (by decide) ?_
    cases hf
    exact kr _ _ _ _ hw rfl dX9_bears_30
  · have hf := sn_el c_3 hf
    refine lv_aload_n hx hb dX9_bears_9 rfl (lv_at hl 0 rfl) ?_
    refine lv_bipush (v := 11) hx hb dX9_bears_10 (by decide) ?_
    refine lv_iconst (v := 2) hx hb dX9_bears_12 rfl ?_
    refine lv_iload_n hx hb dX9_bears_13 rfl (lv_at hl 1 rfl) ?_
    refine lv_imul hx hb dX9_bears_14 ?_
    refine lv_iadd hx hb dX9_bears_15 ?_
    refine lv_iconst (v := 1) hx hb dX9_bears_16 rfl ?_
    refine lv_iadd hx hb dX9_bears_17 ?_
    refine lv_iconst (v := 1) hx hb dX9_bears_18 rfl ?_
    refine lv_bipush (v := 99) hx hb dX9_bears_19 (by decide) ?_
    refine lv_iload_n hx hb dX9_bears_21 rfl (lv_at hl 1 rfl) ?_
    obtain ⟨t_4, h_5, hf⟩ := sn_bd hf
    refine sn_callVi (rest := []) C hw (ctX9_quietBy l  h_5) kl_RX9_300 layM_0 rfl rfl rfl rfl (Nat.le_of_ble_eq_true rfl) dX9_bears_22 hl.1 (fun H locs hw => ?_)
    refine lv_goto (tgt := 30) hx hb dX9_bears_25 (by decide) ?_
    cases hf
    exact kr _ _ _ _ hw rfl dX9_bears_30
theorem ctX9_bears (l : Launch) {σ : sn_S} {x1 : Int32}  {o : (Int32 × sn_S)} (hf : fX9_bears σ x1 = some o) : sn_M l yX9_bears cX9_bears 2 (some .int) rmX9_bears layM (fun ad => [.ref (ad 0), .int x1]) σ (some (fun _ => .int o.1)) o.2 :=
  sn_met (by decide) (fun _ => Nat.le_of_ble_eq_true rfl) (fun p e s m args below meth c ls D ct ad A C hw hl => wX9_bears_in C  hf (fun H locs ls pc hw ok hd => sn_iret C hw hd) _ _ _ hw hl)
-- X9_clean
abbrev rmX9_clean : Room := { frames := 6, cells := 0, slots := 0, locals := 144 }
def fX9_clean (σ : sn_S) : Option (Int32 × sn_S) :=
  ((fX9_isHouse σ).bind fun t_1 => (if t_1 = 0 then
  (some ((-2 : Int32), σ))
  else
  ((fX9_quietBy σ (1 : Int32) (9 : Int32) (0 : Int32) (-1 : Int32)).bind fun t_4 => (some (t_4.1, t_4.2)))))
theorem wX9_clean_in (C : sn_C p s m args meth c RX9 cX9_clean 1 (some .int) D ct ad layM A) {σ : sn_S}  {o : (Int32 × sn_S)} (hf : fX9_clean σ = some o) (kr : sn_Kr p l e rmX9_clean s m args below meth c Q D ct ad layM A cX9_clean .ireturn (true) o.2 [.int o.1]) : sn_At p l e rmX9_clean s m args below meth c Q D ct ad layM A 1 σ 0 [(0, .ref (ad 0))] [] := by
  intro H locs ls hw hl
  have hx := C.1
  have hb := C.2.1
  unfold fX9_clean at hf
  refine lv_aload_n hx hb dX9_clean_0 rfl (lv_at hl 0 rfl) ?_
  obtain ⟨t_1, h_2, hf⟩ := sn_bd hf
  refine sn_callVi (rest := []) C hw (ctX9_isHouse l  h_2) kl_RX9_269 layM_0 rfl rfl rfl rfl (Nat.le_of_ble_eq_true rfl) dX9_clean_1 hl.1 (fun H locs hw => ?_)
  refine lv_if_eq (tgt := 19) hx hb dX9_clean_4 (by decide) (fun c_3 => ?_) (fun c_3 => ?_)
  · have hf := sn_if c_3 hf
    refine lv_bipush (v := (-2)) hx hb dX9_clean_19 (by decide) ?_
    cases hf
    exact kr _ _ _ _ hw rfl dX9_clean_21
  · have hf := sn_el c_3 hf
    refine lv_aload_n hx hb dX9_clean_7 rfl (lv_at hl 0 rfl) ?_
    refine lv_iconst (v := 1) hx hb dX9_clean_8 rfl ?_
    refine lv_bipush (v := 9) hx hb dX9_clean_9 (by decide) ?_
    refine lv_iconst (v := 0) hx hb dX9_clean_11 rfl ?_
    refine lv_iconst (v := (-1)) hx hb dX9_clean_12 rfl ?_
    obtain ⟨t_4, h_5, hf⟩ := sn_bd hf
    refine sn_callVi (rest := []) C hw (ctX9_quietBy l  h_5) kl_RX9_300 layM_0 rfl rfl rfl rfl (Nat.le_of_ble_eq_true rfl) dX9_clean_13 hl.1 (fun H locs hw => ?_)
    refine lv_goto (tgt := 21) hx hb dX9_clean_16 (by decide) ?_
    cases hf
    exact kr _ _ _ _ hw rfl dX9_clean_21
theorem ctX9_clean (l : Launch) {σ : sn_S}  {o : (Int32 × sn_S)} (hf : fX9_clean σ = some o) : sn_M l yX9_clean cX9_clean 1 (some .int) rmX9_clean layM (fun ad => [.ref (ad 0)]) σ (some (fun _ => .int o.1)) o.2 :=
  sn_met (by decide) (fun _ => Nat.le_of_ble_eq_true rfl) (fun p e s m args below meth c ls D ct ad A C hw hl => wX9_clean_in C  hf (fun H locs ls pc hw ok hd => sn_iret C hw hd) _ _ _ hw hl)
-- X9_windowOf
abbrev rmX9_windowOf : Room := { frames := 1, cells := 0, slots := 0, locals := 22 }
def BX9_windowOf_39 (σ : sn_S) (x2 : Int32) : Option (Int32) :=
  (some x2)
def BX9_windowOf_9 (σ : sn_S) (x1 : Int32) (x2 : Int32) (x3 : Int32) : Option ((Int32 × Int32) ⊕ (Int32)) :=
  ((fX9_of σ x1 (2 : Int32)).bind fun t_1 => (if t_1 < x3 then
  (some (.inr (x2)))
  else
  (if (sn_I σ 0 22) < x3 then
  (some (.inr (x2)))
  else
  (sn_lt (x2 ||| ((1 : Int32) <<< (x3 &&& 31))) fun y_5 => (sn_lt (x3 + 1) fun y_7 => (some (.inl (y_5, y_7))))))))
def LX9_windowOf_9 (σ : sn_S) (x1 : Int32) (s : Int32 × Int32) : Option ((Int32 × Int32) ⊕ (Int32)) := BX9_windowOf_9 σ x1 s.1 s.2
def fX9_windowOf (σ : sn_S) (x1 : Int32) : Option Int32 :=
  ((fX9_of σ x1 (1 : Int32)).bind fun t_1 => ((sn_it (LX9_windowOf_9 σ x1) 5000 ((0 : Int32), t_1)).bind fun t_3 => (BX9_windowOf_39 σ t_3)))
theorem wX9_windowOf_39 (C : sn_C p s m args meth c RX9 cX9_windowOf 4 (some .int) D ct ad layM A) {σ : sn_S} {x2 : Int32}  {o : Int32} (hf : BX9_windowOf_39 σ x2 = some o) (kr : sn_Kr p l e rmX9_windowOf s m args below meth c Q D ct ad layM A cX9_windowOf .ireturn (true) σ [.int o]) : sn_At p l e rmX9_windowOf s m args below meth c Q D ct ad layM A 4 σ 39 [(2, .int x2)] [] := by
  intro H locs ls hw hl
  have hx := C.1
  have hb := C.2.1
  unfold BX9_windowOf_39 at hf
  refine lv_iload_n hx hb dX9_windowOf_39 rfl (lv_at hl 0 rfl) ?_
  cases hf
  exact kr _ _ _ _ hw rfl dX9_windowOf_40
theorem wX9_windowOf_9 (C : sn_C p s m args meth c RX9 cX9_windowOf 4 (some .int) D ct ad layM A) {σ : sn_S} {x1 : Int32} {x2 : Int32} {x3 : Int32}  {o : (Int32 × Int32) ⊕ (Int32)} (hf : BX9_windowOf_9 σ x1 x2 x3 = some o) (kc : ∀ v, o = .inl v → sn_At p l e rmX9_windowOf s m args below meth c Q D ct ad layM A 4 σ 9 [(0, .ref (ad 0)), (1, .int x1), (2, .int v.1), (3, .int v.2)] []) (kx : ∀ v, o = .inr v → sn_At p l e rmX9_windowOf s m args below meth c Q D ct ad layM A 4 σ 39 [(2, .int v)] []) : sn_At p l e rmX9_windowOf s m args below meth c Q D ct ad layM A 4 σ 9 [(0, .ref (ad 0)), (1, .int x1), (2, .int x2), (3, .int x3)] [] := by
  intro H locs ls hw hl
  have hx := C.1
  have hb := C.2.1
  unfold BX9_windowOf_9 at hf
  refine lv_iload_n hx hb dX9_windowOf_9 rfl (lv_at hl 3 rfl) ?_
  refine lv_aload_n hx hb dX9_windowOf_10 rfl (lv_at hl 0 rfl) ?_
  refine lv_iload_n hx hb dX9_windowOf_11 rfl (lv_at hl 1 rfl) ?_
  refine lv_iconst (v := 2) hx hb dX9_windowOf_12 rfl ?_
  obtain ⟨t_1, h_2, hf⟩ := sn_bd hf
  refine sn_callVi (rest := [.int x3]) C hw (ctX9_of l  h_2) kl_RX9_234 layM_0 rfl rfl rfl rfl (Nat.le_of_ble_eq_true rfl) dX9_windowOf_13 hl.1 (fun H locs hw => ?_)
  refine lv_icmp_gt (tgt := 39) hx hb dX9_windowOf_16 (by decide) (fun c_3 => ?_) (fun c_3 => ?_)
  · have hf := sn_if c_3 hf
    cases hf
    exact kx _ rfl _ _ _ hw (lv_sub hl [2] rfl)
  · have hf := sn_el c_3 hf
    refine lv_iload_n hx hb dX9_windowOf_19 rfl (lv_at hl 3 rfl) ?_
    refine lv_aload_n hx hb dX9_windowOf_20 rfl (lv_at hl 0 rfl) ?_
    refine sn_getI C hw fd_RX9_251 layM_0 rfl dX9_windowOf_21 ?_
    refine lv_icmp_gt (tgt := 39) hx hb dX9_windowOf_24 (by decide) (fun c_4 => ?_) (fun c_4 => ?_)
    · have hf := sn_if c_4 hf
      cases hf
      exact kx _ rfl _ _ _ hw (lv_sub hl [2] rfl)
    · have hf := sn_el c_4 hf
      refine lv_iload_n hx hb dX9_windowOf_27 rfl (lv_at hl 2 rfl) ?_
      refine lv_iconst (v := 1) hx hb dX9_windowOf_28 rfl ?_
      refine lv_iload_n hx hb dX9_windowOf_29 rfl (lv_at hl 3 rfl) ?_
      refine lv_ishl hx hb dX9_windowOf_30 ?_
      refine lv_ior hx hb dX9_windowOf_31 ?_
      obtain ⟨y_5, e_6, hf⟩ := sn_ltE hf
      refine lv_topi (fun y_5_ e_6_ => ?_)
      obtain rfl : y_5 = y_5_ := e_6.trans e_6_.symm
      refine lv_istore_n (lv' := [(2, .int y_5), (0, .ref (ad 0)), (1, .int x1), (3, .int x3)]) hx hb dX9_windowOf_32 rfl hl (by decide) rfl (fun ls hl => ?_)
      obtain ⟨y_7, e_8, hf⟩ := sn_ltE hf
      refine lv_iinc (v := y_7) (lv' := [(3, .int y_7), (2, .int y_5), (0, .ref (ad 0)), (1, .int x1)]) hx hb dX9_windowOf_33 hl (k := 3) rfl (by rw [e_8]; rfl) (by decide) rfl (fun ls hl => ?_)
      refine lv_goto (tgt := 9) hx hb dX9_windowOf_36 (by decide) ?_
      cases hf
      exact kc _ rfl _ _ _ hw (lv_sub hl [2, 3, 1, 0] rfl)
theorem wX9_windowOf_L9 (C : sn_C p s m args meth c RX9 cX9_windowOf 4 (some .int) D ct ad layM A) {σ : sn_S} {x1 : Int32}   {z : Int32 × Int32} {t : Int32} (h : sn_it (LX9_windowOf_9 σ x1) 5000 z = some t) (kx : ∀ v, t = v → sn_At p l e rmX9_windowOf s m args below meth c Q D ct ad layM A 4 σ 39 [(2, .int v)] []) : sn_At p l e rmX9_windowOf s m args below meth c Q D ct ad layM A 4 σ 9 [(0, .ref (ad 0)), (1, .int x1), (2, .int z.1), (3, .int z.2)] [] :=
  sn_loop (f := LX9_windowOf_9 σ x1) (G := fun z => sn_At p l e rmX9_windowOf s m args below meth c Q D ct ad layM A 4 σ 9 [(0, .ref (ad 0)), (1, .int x1), (2, .int z.1), (3, .int z.2)] []) (E := fun t => (∀ v, t = v → sn_At p l e rmX9_windowOf s m args below meth c Q D ct ad layM A 4 σ 39 [(2, .int v)] []) ∧ True) (fun z o hf k1 k2 => wX9_windowOf_9 C  hf (fun v e => k1 v e) (fun v e => (k2 _ e).1 v rfl)) 5000 z t h ⟨kx, trivial⟩
theorem wX9_windowOf_in (C : sn_C p s m args meth c RX9 cX9_windowOf 4 (some .int) D ct ad layM A) {σ : sn_S} {x1 : Int32}  {o : Int32} (hf : fX9_windowOf σ x1 = some o) (kr : sn_Kr p l e rmX9_windowOf s m args below meth c Q D ct ad layM A cX9_windowOf .ireturn (true) σ [.int o]) : sn_At p l e rmX9_windowOf s m args below meth c Q D ct ad layM A 4 σ 0 [(0, .ref (ad 0)), (1, .int x1)] [] := by
  intro H locs ls hw hl
  have hx := C.1
  have hb := C.2.1
  unfold fX9_windowOf at hf
  refine lv_iconst (v := 0) hx hb dX9_windowOf_0 rfl ?_
  refine lv_istore_n (lv' := [(2, .int (0 : Int32)), (0, .ref (ad 0)), (1, .int x1)]) hx hb dX9_windowOf_1 rfl hl (by decide) rfl (fun ls hl => ?_)
  refine lv_aload_n hx hb dX9_windowOf_2 rfl (lv_at hl 1 rfl) ?_
  refine lv_iload_n hx hb dX9_windowOf_3 rfl (lv_at hl 2 rfl) ?_
  refine lv_iconst (v := 1) hx hb dX9_windowOf_4 rfl ?_
  obtain ⟨t_1, h_2, hf⟩ := sn_bd hf
  refine sn_callVi (rest := []) C hw (ctX9_of l  h_2) kl_RX9_234 layM_0 rfl rfl rfl rfl (Nat.le_of_ble_eq_true rfl) dX9_windowOf_5 hl.1 (fun H locs hw => ?_)
  refine lv_istore_n (lv' := [(3, .int t_1), (2, .int (0 : Int32)), (0, .ref (ad 0)), (1, .int x1)]) hx hb dX9_windowOf_8 rfl hl (by decide) rfl (fun ls hl => ?_)
  obtain ⟨t_3, h_4, hf⟩ := sn_bd hf
  exact wX9_windowOf_L9 C  h_4 (fun v e => by cases e; exact wX9_windowOf_39 C  hf kr) _ _ _ hw (lv_sub hl [2, 3, 1, 0] rfl)
theorem ctX9_windowOf (l : Launch) {σ : sn_S} {x1 : Int32}  {o : Int32} (hf : fX9_windowOf σ x1 = some o) : sn_M l yX9_windowOf cX9_windowOf 4 (some .int) rmX9_windowOf layM (fun ad => [.ref (ad 0), .int x1]) σ (some (fun _ => .int o)) σ :=
  sn_met (by decide) (fun _ => Nat.le_of_ble_eq_true rfl) (fun p e s m args below meth c ls D ct ad A C hw hl => wX9_windowOf_in C  hf (fun H locs ls pc hw ok hd => sn_iret C hw hd) _ _ _ hw hl)
-- X9_ahead
abbrev rmX9_ahead : Room := { frames := 0, cells := 0, slots := 0, locals := 0 }
def fX9_ahead (x1 : Int32) : Option Int32 :=
  (some (((1 : Int32) <<< (x1 &&& 31)) - (1 : Int32)))
theorem wX9_ahead_in (C : sn_C p s m args meth c RX9 cX9_ahead 2 (some .int) D ct ad layM A) {σ : sn_S} {x1 : Int32}  {o : Int32} (hf : fX9_ahead x1 = some o) (kr : sn_Kr p l e rmX9_ahead s m args below meth c Q D ct ad layM A cX9_ahead .ireturn (true) σ [.int o]) : sn_At p l e rmX9_ahead s m args below meth c Q D ct ad layM A 2 σ 0 [(0, .ref (ad 0)), (1, .int x1)] [] := by
  intro H locs ls hw hl
  have hx := C.1
  have hb := C.2.1
  unfold fX9_ahead at hf
  refine lv_iconst (v := 1) hx hb dX9_ahead_0 rfl ?_
  refine lv_iload_n hx hb dX9_ahead_1 rfl (lv_at hl 1 rfl) ?_
  refine lv_ishl hx hb dX9_ahead_2 ?_
  refine lv_iconst (v := 1) hx hb dX9_ahead_3 rfl ?_
  refine lv_isub hx hb dX9_ahead_4 ?_
  cases hf
  exact kr _ _ _ _ hw rfl dX9_ahead_5
theorem ctX9_ahead (l : Launch) {σ : sn_S} {x1 : Int32}  {o : Int32} (hf : fX9_ahead x1 = some o) : sn_M l yX9_ahead cX9_ahead 2 (some .int) rmX9_ahead layM (fun ad => [.ref (ad 0), .int x1]) σ (some (fun _ => .int o)) σ :=
  sn_met (by decide) (fun _ => Nat.le_of_ble_eq_true rfl) (fun p e s m args below meth c ls D ct ad A C hw hl => wX9_ahead_in C  hf (fun H locs ls pc hw ok hd => sn_iret C hw hd) _ _ _ hw hl)
-- X9_claimOf
abbrev rmX9_claimOf : Room := { frames := 2, cells := 0, slots := 0, locals := 45 }
def BX9_claimOf_183 (σ : sn_S) (x5 : Int32) : Option ((Int32 × sn_S)) :=
  (some (x5, σ))
def BX9_claimOf_177 (σ : sn_S) (x1 : Int32) (x2 : Int32) (x3 : Int32) (x4 : Int32) (x5 : Int32) (x6 : Int32) (x7 : Int32) : Option ((sn_S × Int32 × Int32 × Int32) ⊕ (sn_S × Int32)) :=
  (sn_lt (x7 + 1) fun y_1 => (some (.inl (σ, x4, x5, y_1))))
def BX9_claimOf_152 (σ : sn_S) (x1 : Int32) (x2 : Int32) (x3 : Int32) (x4 : Int32) (x5 : Int32) (x6 : Int32) (x7 : Int32) (x8 : Int32) (t0 : Int32) : Option ((sn_S × Int32 × Int32 × Int32) ⊕ (sn_S × Int32)) :=
  (sn_lt (x5 + t0) fun y_1 => (if x3 = 0 then
  (BX9_claimOf_177 σ x1 x2 x3 x4 y_1 x6 x7)
  else
  (sn_gd (sn_in x8 30) (sn_gd (sn_in x8 30) (sn_lt (sn_pI σ 16 x8.toNatClampNeg ((sn_I σ 16 x8.toNatClampNeg) + t0)) fun σ_6 => (BX9_claimOf_177 σ_6 x1 x2 x3 x4 y_1 x6 x7))))))
def BX9_claimOf_128 (σ : sn_S) (x1 : Int32) (x2 : Int32) (x3 : Int32) (x4 : Int32) (x5 : Int32) (x6 : Int32) (x7 : Int32) (x8 : Int32) (t0 : Int32) : Option ((sn_S × Int32 × Int32 × Int32) ⊕ (sn_S × Int32)) :=
  (if t0 = 0 then
  ((fX9_of σ x1 (3 : Int32)).bind fun t_2 => (BX9_claimOf_152 σ x1 x2 x3 x4 x5 x6 x7 x8 t_2))
  else
  ((fX9_of σ x1 (3 : Int32)).bind fun t_4 => (BX9_claimOf_152 σ x1 x2 x3 x4 x5 x6 x7 x8 (t_4 / (2 : Int32)))))
def BX9_claimOf_127 (σ : sn_S) (x1 : Int32) (x2 : Int32) (x3 : Int32) (x4 : Int32) (x5 : Int32) (x6 : Int32) (x7 : Int32) (x8 : Int32) : Option ((sn_S × Int32 × Int32 × Int32) ⊕ (sn_S × Int32)) :=
  (BX9_claimOf_128 σ x1 x2 x3 x4 x5 x6 x7 x8 (0 : Int32))
def BX9_claimOf_63 (σ : sn_S) (x1 : Int32) (x2 : Int32) (x3 : Int32) (x4 : Int32) (x5 : Int32) (x6 : Int32) (x7 : Int32) : Option ((sn_S × Int32 × Int32 × Int32) ⊕ (sn_S × Int32)) :=
  (if x6 ≤ x7 then
  (some (.inr (σ, x5)))
  else
  (if x4 = 0 then
  (some (.inr (σ, x5)))
  else
  ((fX9_firstOf x4).bind fun t_3 => (sn_lt (x4 &&& (((1 : Int32) <<< (t_3 &&& 31)) ^^^ (-1 : Int32))) fun y_5 => (if (sn_I σ 0 20) = (3 : Int32) then
  (sn_gd (sn_in x2 6) ((fX9_windowOf σ x1).bind fun t_9 => ((fX9_ahead t_3).bind fun t_11 => (if (((sn_I σ 8 x2.toNatClampNeg) &&& t_9) &&& t_11) = 0 then
  (BX9_claimOf_127 σ x1 x2 x3 y_5 x5 x6 x7 t_3)
  else
  (BX9_claimOf_128 σ x1 x2 x3 y_5 x5 x6 x7 t_3 (1 : Int32))))))
  else
  (BX9_claimOf_127 σ x1 x2 x3 y_5 x5 x6 x7 t_3))))))
def LX9_claimOf_63 (x1 : Int32) (x2 : Int32) (x3 : Int32) (x6 : Int32) (s : sn_S × Int32 × Int32 × Int32) : Option ((sn_S × Int32 × Int32 × Int32) ⊕ (sn_S × Int32)) := BX9_claimOf_63 s.1 x1 x2 x3 s.2.1 s.2.2.1 x6 s.2.2.2
def BX9_claimOf_58 (σ : sn_S) (x1 : Int32) (x2 : Int32) (x3 : Int32) (x4 : Int32) (x5 : Int32) (t0 : Int32) : Option ((Int32 × sn_S)) :=
  ((sn_it (LX9_claimOf_63 x1 x2 x3 t0) 5000 (σ, x4, x5, (0 : Int32))).bind fun t_1 => (BX9_claimOf_183 t_1.1 t_1.2))
def BX9_claimOf_33 (σ : sn_S) (x1 : Int32) (x2 : Int32) (x3 : Int32) (x4 : Int32) : Option ((Int32 × sn_S)) :=
  ((fX9_firstOf x4).bind fun t_1 => (sn_lt (sn_pI σ 0 30 t_1) fun σ_3 => (if (sn_I σ_3 0 20) = (2 : Int32) then
  (BX9_claimOf_58 σ_3 x1 x2 x3 x4 (0 : Int32) (3 : Int32))
  else
  (BX9_claimOf_58 σ_3 x1 x2 x3 x4 (0 : Int32) (1 : Int32)))))
def fX9_claimOf (σ : sn_S) (x1 : Int32) (x2 : Int32) (x3 : Int32) : Option (Int32 × sn_S) :=
  (sn_gd (sn_in x2 6) ((fX9_windowOf σ x1).bind fun t_2 => (sn_lt ((sn_I σ 10 x2.toNatClampNeg) &&& t_2) fun y_4 => (if (sn_I σ 0 20) = (1 : Int32) then
  (sn_lt (y_4 &&& ((sn_I σ 0 18) ^^^ (-1 : Int32))) fun y_7 => (BX9_claimOf_33 σ x1 x2 x3 y_7))
  else
  (BX9_claimOf_33 σ x1 x2 x3 y_4)))))
theorem wX9_claimOf_183 (C : sn_C p s m args meth c RX9 cX9_claimOf 11 (some .int) D ct ad layM A) {σ : sn_S} {x5 : Int32}  {o : (Int32 × sn_S)} (hf : BX9_claimOf_183 σ x5 = some o) (kr : sn_Kr p l e rmX9_claimOf s m args below meth c Q D ct ad layM A cX9_claimOf .ireturn (true) o.2 [.int o.1]) : sn_At p l e rmX9_claimOf s m args below meth c Q D ct ad layM A 11 σ 183 [(5, .int x5)] [] := by
  intro H locs ls hw hl
  have hx := C.1
  have hb := C.2.1
  unfold BX9_claimOf_183 at hf
  refine lv_iload hx hb dX9_claimOf_183 (lv_at hl 0 rfl) ?_
  cases hf
  exact kr _ _ _ _ hw rfl dX9_claimOf_185
theorem wX9_claimOf_177 (C : sn_C p s m args meth c RX9 cX9_claimOf 11 (some .int) D ct ad layM A) {σ : sn_S} {x1 : Int32} {x2 : Int32} {x3 : Int32} {x4 : Int32} {x5 : Int32} {x6 : Int32} {x7 : Int32}  {o : (sn_S × Int32 × Int32 × Int32) ⊕ (sn_S × Int32)} (hf : BX9_claimOf_177 σ x1 x2 x3 x4 x5 x6 x7 = some o) (kc : ∀ v, o = .inl v → sn_At p l e rmX9_claimOf s m args below meth c Q D ct ad layM A 11 v.1 63 [(0, .ref (ad 0)), (1, .int x1), (2, .int x2), (3, .int x3), (4, .int v.2.1), (5, .int v.2.2.1), (6, .int x6), (7, .int v.2.2.2)] []) (kx : ∀ v, o = .inr v → sn_At p l e rmX9_claimOf s m args below meth c Q D ct ad layM A 11 v.1 183 [(5, .int v.2)] []) : sn_At p l e rmX9_claimOf s m args below meth c Q D ct ad layM A 11 σ 177 [(0, .ref (ad 0)), (1, .int x1), (2, .int x2), (3, .int x3), (4, .int x4), (5, .int x5), (6, .int x6), (7, .int x7)] [] := by
  intro H locs ls hw hl
  have hx := C.1
  have hb := C.2.1
  unfold BX9_claimOf_177 at hf
  obtain ⟨y_1, e_2, hf⟩ := sn_ltE hf
  refine lv_iinc (v := y_1) (lv' := [(7, .int y_1), (0, .ref (ad 0)), (1, .int x1), (2, .int x2), (3, .int x3), (4, .int x4), (5, .int x5), (6, .int x6)]) hx hb dX9_claimOf_177 hl (k := 7) rfl (by rw [e_2]; rfl) (by decide) rfl (fun ls hl => ?_)
  refine lv_goto (tgt := 63) hx hb dX9_claimOf_180 (by decide) ?_
  cases hf
  exact kc _ rfl _ _ _ hw (lv_sub hl [1, 2, 3, 4, 5, 6, 7, 0] rfl)
theorem wX9_claimOf_152 (C : sn_C p s m args meth c RX9 cX9_claimOf 11 (some .int) D ct ad layM A) {σ : sn_S} {x1 : Int32} {x2 : Int32} {x3 : Int32} {x4 : Int32} {x5 : Int32} {x6 : Int32} {x7 : Int32} {x8 : Int32} {t0 : Int32}  {o : (sn_S × Int32 × Int32 × Int32) ⊕ (sn_S × Int32)} (hf : BX9_claimOf_152 σ x1 x2 x3 x4 x5 x6 x7 x8 t0 = some o) (kc : ∀ v, o = .inl v → sn_At p l e rmX9_claimOf s m args below meth c Q D ct ad layM A 11 v.1 63 [(0, .ref (ad 0)), (1, .int x1), (2, .int x2), (3, .int x3), (4, .int v.2.1), (5, .int v.2.2.1), (6, .int x6), (7, .int v.2.2.2)] []) (kx : ∀ v, o = .inr v → sn_At p l e rmX9_claimOf s m args below meth c Q D ct ad layM A 11 v.1 183 [(5, .int v.2)] []) : sn_At p l e rmX9_claimOf s m args below meth c Q D ct ad layM A 11 σ 152 [(0, .ref (ad 0)), (1, .int x1), (2, .int x2), (3, .int x3), (4, .int x4), (5, .int x5), (6, .int x6), (7, .int x7), (8, .int x8)] [.int t0] := by
  intro H locs ls hw hl
  have hx := C.1
  have hb := C.2.1
  unfold BX9_claimOf_152 at hf
  refine lv_istore (lv' := [(10, .int t0), (0, .ref (ad 0)), (1, .int x1), (2, .int x2), (3, .int x3), (4, .int x4), (5, .int x5), (6, .int x6), (7, .int x7), (8, .int x8)]) hx hb dX9_claimOf_152 hl (by decide) rfl (fun ls hl => ?_)
  refine lv_iload hx hb dX9_claimOf_154 (lv_at hl 6 rfl) ?_
  refine lv_iload hx hb dX9_claimOf_156 (lv_at hl 0 rfl) ?_
  refine lv_iadd hx hb dX9_claimOf_158 ?_
  obtain ⟨y_1, e_2, hf⟩ := sn_ltE hf
  refine lv_topi (fun y_1_ e_2_ => ?_)
  obtain rfl : y_1 = y_1_ := e_2.trans e_2_.symm
  refine lv_istore (lv' := [(5, .int y_1), (10, .int t0), (0, .ref (ad 0)), (1, .int x1), (2, .int x2), (3, .int x3), (4, .int x4), (6, .int x6), (7, .int x7), (8, .int x8)]) hx hb dX9_claimOf_159 hl (by decide) rfl (fun ls hl => ?_)
  refine lv_iload_n hx hb dX9_claimOf_161 rfl (lv_at hl 5 rfl) ?_
  refine lv_if_eq (tgt := 177) hx hb dX9_claimOf_162 (by decide) (fun c_3 => ?_) (fun c_3 => ?_)
  · have hf := sn_if c_3 hf
    exact wX9_claimOf_177 C  hf kc kx _ _ _ hw (lv_sub hl [2, 3, 4, 5, 6, 0, 7, 8] rfl)
  · have hf := sn_el c_3 hf
    refine lv_aload_n hx hb dX9_claimOf_165 rfl (lv_at hl 2 rfl) ?_
    refine sn_getC (r := 16) C hw fd_RX9_61 layM_0 rfl dX9_claimOf_166 ?_
    refine lv_iload hx hb dX9_claimOf_169 (lv_at hl 9 rfl) ?_
    refine lv_dup2_11 hx hb dX9_claimOf_171 rfl rfl ?_
    obtain ⟨g_4, hf⟩ := sn_gdE hf
    refine sn_iald C hw layM_16 g_4 dX9_claimOf_172 ?_
    refine lv_iload hx hb dX9_claimOf_173 (lv_at hl 1 rfl) ?_
    refine lv_iadd hx hb dX9_claimOf_175 ?_
    obtain ⟨g_5, hf⟩ := sn_gdE hf
    refine sn_iast C hw layM_16 g_5 dX9_claimOf_176 (fun H locs hw => ?_)
    obtain ⟨σ_6, e_7, hf⟩ := sn_ltE hf
    rw [← e_7] at hw
    exact wX9_claimOf_177 C  hf kc kx _ _ _ hw (lv_sub hl [2, 3, 4, 5, 6, 0, 7, 8] rfl)
theorem wX9_claimOf_128 (C : sn_C p s m args meth c RX9 cX9_claimOf 11 (some .int) D ct ad layM A) {σ : sn_S} {x1 : Int32} {x2 : Int32} {x3 : Int32} {x4 : Int32} {x5 : Int32} {x6 : Int32} {x7 : Int32} {x8 : Int32} {t0 : Int32}  {o : (sn_S × Int32 × Int32 × Int32) ⊕ (sn_S × Int32)} (hf : BX9_claimOf_128 σ x1 x2 x3 x4 x5 x6 x7 x8 t0 = some o) (kc : ∀ v, o = .inl v → sn_At p l e rmX9_claimOf s m args below meth c Q D ct ad layM A 11 v.1 63 [(0, .ref (ad 0)), (1, .int x1), (2, .int x2), (3, .int x3), (4, .int v.2.1), (5, .int v.2.2.1), (6, .int x6), (7, .int v.2.2.2)] []) (kx : ∀ v, o = .inr v → sn_At p l e rmX9_claimOf s m args below meth c Q D ct ad layM A 11 v.1 183 [(5, .int v.2)] []) : sn_At p l e rmX9_claimOf s m args below meth c Q D ct ad layM A 11 σ 128 [(0, .ref (ad 0)), (1, .int x1), (2, .int x2), (3, .int x3), (4, .int x4), (5, .int x5), (6, .int x6), (7, .int x7), (8, .int x8)] [.int t0] := by
  intro H locs ls hw hl
  have hx := C.1
  have hb := C.2.1
  unfold BX9_claimOf_128 at hf
  refine lv_istore (lv' := [(9, .int t0), (0, .ref (ad 0)), (1, .int x1), (2, .int x2), (3, .int x3), (4, .int x4), (5, .int x5), (6, .int x6), (7, .int x7), (8, .int x8)]) hx hb dX9_claimOf_128 hl (by decide) rfl (fun ls hl => ?_)
  refine lv_iload hx hb dX9_claimOf_130 (lv_at hl 0 rfl) ?_
  refine lv_if_eq (tgt := 146) hx hb dX9_claimOf_132 (by decide) (fun c_1 => ?_) (fun c_1 => ?_)
  · have hf := sn_if c_1 hf
    refine lv_aload_n hx hb dX9_claimOf_146 rfl (lv_at hl 1 rfl) ?_
    refine lv_iload_n hx hb dX9_claimOf_147 rfl (lv_at hl 2 rfl) ?_
    refine lv_iconst (v := 3) hx hb dX9_claimOf_148 rfl ?_
    obtain ⟨t_2, h_3, hf⟩ := sn_bd hf
    refine sn_callVi (rest := []) C hw (ctX9_of l  h_3) kl_RX9_234 layM_0 rfl rfl rfl rfl (Nat.le_of_ble_eq_true rfl) dX9_claimOf_149 hl.1 (fun H locs hw => ?_)
    exact wX9_claimOf_152 C  hf kc kx _ _ _ hw (lv_sub hl [1, 2, 3, 4, 5, 6, 7, 8, 9] rfl)
  · have hf := sn_el c_1 hf
    refine lv_aload_n hx hb dX9_claimOf_135 rfl (lv_at hl 1 rfl) ?_
    refine lv_iload_n hx hb dX9_claimOf_136 rfl (lv_at hl 2 rfl) ?_
    refine lv_iconst (v := 3) hx hb dX9_claimOf_137 rfl ?_
    obtain ⟨t_4, h_5, hf⟩ := sn_bd hf
    refine sn_callVi (rest := []) C hw (ctX9_of l  h_5) kl_RX9_234 layM_0 rfl rfl rfl rfl (Nat.le_of_ble_eq_true rfl) dX9_claimOf_138 hl.1 (fun H locs hw => ?_)
    refine lv_iconst (v := 2) hx hb dX9_claimOf_141 rfl ?_
    refine lv_idiv hx hb dX9_claimOf_142 (by decide) ?_
    refine lv_goto (tgt := 152) hx hb dX9_claimOf_143 (by decide) ?_
    exact wX9_claimOf_152 C  hf kc kx _ _ _ hw (lv_sub hl [1, 2, 3, 4, 5, 6, 7, 8, 9] rfl)
theorem wX9_claimOf_127 (C : sn_C p s m args meth c RX9 cX9_claimOf 11 (some .int) D ct ad layM A) {σ : sn_S} {x1 : Int32} {x2 : Int32} {x3 : Int32} {x4 : Int32} {x5 : Int32} {x6 : Int32} {x7 : Int32} {x8 : Int32}  {o : (sn_S × Int32 × Int32 × Int32) ⊕ (sn_S × Int32)} (hf : BX9_claimOf_127 σ x1 x2 x3 x4 x5 x6 x7 x8 = some o) (kc : ∀ v, o = .inl v → sn_At p l e rmX9_claimOf s m args below meth c Q D ct ad layM A 11 v.1 63 [(0, .ref (ad 0)), (1, .int x1), (2, .int x2), (3, .int x3), (4, .int v.2.1), (5, .int v.2.2.1), (6, .int x6), (7, .int v.2.2.2)] []) (kx : ∀ v, o = .inr v → sn_At p l e rmX9_claimOf s m args below meth c Q D ct ad layM A 11 v.1 183 [(5, .int v.2)] []) : sn_At p l e rmX9_claimOf s m args below meth c Q D ct ad layM A 11 σ 127 [(0, .ref (ad 0)), (1, .int x1), (2, .int x2), (3, .int x3), (4, .int x4), (5, .int x5), (6, .int x6), (7, .int x7), (8, .int x8)] [] := by
  intro H locs ls hw hl
  have hx := C.1
  have hb := C.2.1
  unfold BX9_claimOf_127 at hf
  refine lv_iconst (v := 0) hx hb dX9_claimOf_127 rfl ?_
  exact wX9_claimOf_128 C  hf kc kx _ _ _ hw (lv_sub hl [0, 1, 2, 3, 4, 5, 6, 7, 8] rfl)
theorem wX9_claimOf_63 (C : sn_C p s m args meth c RX9 cX9_claimOf 11 (some .int) D ct ad layM A) {σ : sn_S} {x1 : Int32} {x2 : Int32} {x3 : Int32} {x4 : Int32} {x5 : Int32} {x6 : Int32} {x7 : Int32}  {o : (sn_S × Int32 × Int32 × Int32) ⊕ (sn_S × Int32)} (hf : BX9_claimOf_63 σ x1 x2 x3 x4 x5 x6 x7 = some o) (kc : ∀ v, o = .inl v → sn_At p l e rmX9_claimOf s m args below meth c Q D ct ad layM A 11 v.1 63 [(0, .ref (ad 0)), (1, .int x1), (2, .int x2), (3, .int x3), (4, .int v.2.1), (5, .int v.2.2.1), (6, .int x6), (7, .int v.2.2.2)] []) (kx : ∀ v, o = .inr v → sn_At p l e rmX9_claimOf s m args below meth c Q D ct ad layM A 11 v.1 183 [(5, .int v.2)] []) : sn_At p l e rmX9_claimOf s m args below meth c Q D ct ad layM A 11 σ 63 [(0, .ref (ad 0)), (1, .int x1), (2, .int x2), (3, .int x3), (4, .int x4), (5, .int x5), (6, .int x6), (7, .int x7)] [] := by
  intro H locs ls hw hl
  have hx := C.1
  have hb := C.2.1
  unfold BX9_claimOf_63 at hf
  refine lv_iload hx hb dX9_claimOf_63 (lv_at hl 7 rfl) ?_
  refine lv_iload hx hb dX9_claimOf_65 (lv_at hl 6 rfl) ?_
  refine lv_icmp_ge (tgt := 183) hx hb dX9_claimOf_67 (by decide) (fun c_1 => ?_) (fun c_1 => ?_)
  · have hf := sn_if c_1 hf
    cases hf
    exact kx _ rfl _ _ _ hw (lv_sub hl [5] rfl)
  · have hf := sn_el c_1 hf
    refine lv_iload hx hb dX9_claimOf_70 (lv_at hl 4 rfl) ?_
    refine lv_if_eq (tgt := 183) hx hb dX9_claimOf_72 (by decide) (fun c_2 => ?_) (fun c_2 => ?_)
    · have hf := sn_if c_2 hf
      cases hf
      exact kx _ rfl _ _ _ hw (lv_sub hl [5] rfl)
    · have hf := sn_el c_2 hf
      refine lv_iload hx hb dX9_claimOf_75 (lv_at hl 4 rfl) ?_
      obtain ⟨t_3, h_4, hf⟩ := sn_bd hf
      refine sn_callSi (rest := []) C hw (ctX9_firstOf l  h_4) kl_RX9_287 rfl rfl rfl (Nat.le_of_ble_eq_true rfl) dX9_claimOf_77 hl.1 (fun H locs hw => ?_)
      refine lv_istore (lv' := [(8, .int t_3), (0, .ref (ad 0)), (1, .int x1), (2, .int x2), (3, .int x3), (4, .int x4), (5, .int x5), (6, .int x6), (7, .int x7)]) hx hb dX9_claimOf_80 hl (by decide) rfl (fun ls hl => ?_)
      refine lv_iload hx hb dX9_claimOf_82 (lv_at hl 5 rfl) ?_
      refine lv_iconst (v := 1) hx hb dX9_claimOf_84 rfl ?_
      refine lv_iload hx hb dX9_claimOf_85 (lv_at hl 0 rfl) ?_
      refine lv_ishl hx hb dX9_claimOf_87 ?_
      refine lv_iconst (v := (-1)) hx hb dX9_claimOf_88 rfl ?_
      refine lv_ixor hx hb dX9_claimOf_89 ?_
      refine lv_iand hx hb dX9_claimOf_90 ?_
      obtain ⟨y_5, e_6, hf⟩ := sn_ltE hf
      refine lv_topi (fun y_5_ e_6_ => ?_)
      obtain rfl : y_5 = y_5_ := e_6.trans e_6_.symm
      refine lv_istore (lv' := [(4, .int y_5), (8, .int t_3), (0, .ref (ad 0)), (1, .int x1), (2, .int x2), (3, .int x3), (5, .int x5), (6, .int x6), (7, .int x7)]) hx hb dX9_claimOf_91 hl (by decide) rfl (fun ls hl => ?_)
      refine lv_aload_n hx hb dX9_claimOf_93 rfl (lv_at hl 2 rfl) ?_
      refine sn_getI C hw fd_RX9_243 layM_0 rfl dX9_claimOf_94 ?_
      refine lv_iconst (v := 3) hx hb dX9_claimOf_97 rfl ?_
      refine lv_icmp_ne (tgt := 127) hx hb dX9_claimOf_98 (by decide) (fun c_7 => ?_) (fun c_7 => ?_)
      · have hf := sn_el c_7 hf
        exact wX9_claimOf_127 C  hf kc kx _ _ _ hw (lv_sub hl [2, 3, 4, 5, 0, 6, 7, 8, 1] rfl)
      · have hf := sn_if c_7 hf
        refine lv_aload_n hx hb dX9_claimOf_101 rfl (lv_at hl 2 rfl) ?_
        refine sn_getC (r := 8) C hw fd_RX9_37 layM_0 rfl dX9_claimOf_102 ?_
        refine lv_iload_n hx hb dX9_claimOf_105 rfl (lv_at hl 4 rfl) ?_
        obtain ⟨g_8, hf⟩ := sn_gdE hf
        refine sn_iald C hw layM_8 g_8 dX9_claimOf_106 ?_
        refine lv_aload_n hx hb dX9_claimOf_107 rfl (lv_at hl 2 rfl) ?_
        refine lv_iload_n hx hb dX9_claimOf_108 rfl (lv_at hl 3 rfl) ?_
        obtain ⟨t_9, h_10, hf⟩ := sn_bd hf
        refine sn_callVi (rest := [.int (sn_I σ 8 x2.toNatClampNeg)]) C hw (ctX9_windowOf l  h_10) kl_RX9_304 layM_0 rfl rfl rfl rfl (Nat.le_of_ble_eq_true rfl) dX9_claimOf_109 hl.1 (fun H locs hw => ?_)
        refine lv_iand hx hb dX9_claimOf_112 ?_
        refine lv_aload_n hx hb dX9_claimOf_113 rfl (lv_at hl 2 rfl) ?_
        refine lv_iload hx hb dX9_claimOf_114 (lv_at hl 1 rfl) ?_
        obtain ⟨t_11, h_12, hf⟩ := sn_bd hf
        refine sn_callVi (rest := [.int ((sn_I σ 8 x2.toNatClampNeg) &&& t_9)]) C hw (ctX9_ahead l  h_12) kl_RX9_310 layM_0 rfl rfl rfl rfl (Nat.le_of_ble_eq_true rfl) dX9_claimOf_116 hl.1 (fun H locs hw => ?_)
        refine lv_iand hx hb dX9_claimOf_119 ?_
        refine lv_if_eq (tgt := 127) hx hb dX9_claimOf_120 (by decide) (fun c_13 => ?_) (fun c_13 => ?_)
        · have hf := sn_if c_13 hf
          exact wX9_claimOf_127 C  hf kc kx _ _ _ hw (lv_sub hl [2, 3, 4, 5, 0, 6, 7, 8, 1] rfl)
        · have hf := sn_el c_13 hf
          refine lv_iconst (v := 1) hx hb dX9_claimOf_123 rfl ?_
          refine lv_goto (tgt := 128) hx hb dX9_claimOf_124 (by decide) ?_
          exact wX9_claimOf_128 C  hf kc kx _ _ _ hw (lv_sub hl [2, 3, 4, 5, 0, 6, 7, 8, 1] rfl)
theorem wX9_claimOf_L63 (C : sn_C p s m args meth c RX9 cX9_claimOf 11 (some .int) D ct ad layM A) {x1 : Int32} {x2 : Int32} {x3 : Int32} {x6 : Int32}   {z : sn_S × Int32 × Int32 × Int32} {t : sn_S × Int32} (h : sn_it (LX9_claimOf_63 x1 x2 x3 x6) 5000 z = some t) (kx : ∀ v, t = v → sn_At p l e rmX9_claimOf s m args below meth c Q D ct ad layM A 11 v.1 183 [(5, .int v.2)] []) : sn_At p l e rmX9_claimOf s m args below meth c Q D ct ad layM A 11 z.1 63 [(0, .ref (ad 0)), (1, .int x1), (2, .int x2), (3, .int x3), (4, .int z.2.1), (5, .int z.2.2.1), (6, .int x6), (7, .int z.2.2.2)] [] :=
  sn_loop (f := LX9_claimOf_63 x1 x2 x3 x6) (G := fun z => sn_At p l e rmX9_claimOf s m args below meth c Q D ct ad layM A 11 z.1 63 [(0, .ref (ad 0)), (1, .int x1), (2, .int x2), (3, .int x3), (4, .int z.2.1), (5, .int z.2.2.1), (6, .int x6), (7, .int z.2.2.2)] []) (E := fun t => (∀ v, t = v → sn_At p l e rmX9_claimOf s m args below meth c Q D ct ad layM A 11 v.1 183 [(5, .int v.2)] []) ∧ True) (fun z o hf k1 k2 => wX9_claimOf_63 C  hf (fun v e => k1 v e) (fun v e => (k2 _ e).1 v rfl)) 5000 z t h ⟨kx, trivial⟩
theorem wX9_claimOf_58 (C : sn_C p s m args meth c RX9 cX9_claimOf 11 (some .int) D ct ad layM A) {σ : sn_S} {x1 : Int32} {x2 : Int32} {x3 : Int32} {x4 : Int32} {x5 : Int32} {t0 : Int32}  {o : (Int32 × sn_S)} (hf : BX9_claimOf_58 σ x1 x2 x3 x4 x5 t0 = some o) (kr : sn_Kr p l e rmX9_claimOf s m args below meth c Q D ct ad layM A cX9_claimOf .ireturn (true) o.2 [.int o.1]) : sn_At p l e rmX9_claimOf s m args below meth c Q D ct ad layM A 11 σ 58 [(0, .ref (ad 0)), (1, .int x1), (2, .int x2), (3, .int x3), (4, .int x4), (5, .int x5)] [.int t0] := by
  intro H locs ls hw hl
  have hx := C.1
  have hb := C.2.1
  unfold BX9_claimOf_58 at hf
  refine lv_istore (lv' := [(6, .int t0), (0, .ref (ad 0)), (1, .int x1), (2, .int x2), (3, .int x3), (4, .int x4), (5, .int x5)]) hx hb dX9_claimOf_58 hl (by decide) rfl (fun ls hl => ?_)
  refine lv_iconst (v := 0) hx hb dX9_claimOf_60 rfl ?_
  refine lv_istore (lv' := [(7, .int (0 : Int32)), (6, .int t0), (0, .ref (ad 0)), (1, .int x1), (2, .int x2), (3, .int x3), (4, .int x4), (5, .int x5)]) hx hb dX9_claimOf_61 hl (by decide) rfl (fun ls hl => ?_)
  obtain ⟨t_1, h_2, hf⟩ := sn_bd hf
  exact wX9_claimOf_L63 C  h_2 (fun v e => by cases e; exact wX9_claimOf_183 C  hf kr) _ _ _ hw (lv_sub hl [2, 3, 4, 5, 6, 7, 1, 0] rfl)
theorem wX9_claimOf_33 (C : sn_C p s m args meth c RX9 cX9_claimOf 11 (some .int) D ct ad layM A) {σ : sn_S} {x1 : Int32} {x2 : Int32} {x3 : Int32} {x4 : Int32}  {o : (Int32 × sn_S)} (hf : BX9_claimOf_33 σ x1 x2 x3 x4 = some o) (kr : sn_Kr p l e rmX9_claimOf s m args below meth c Q D ct ad layM A cX9_claimOf .ireturn (true) o.2 [.int o.1]) : sn_At p l e rmX9_claimOf s m args below meth c Q D ct ad layM A 11 σ 33 [(0, .ref (ad 0)), (1, .int x1), (2, .int x2), (3, .int x3), (4, .int x4)] [] := by
  intro H locs ls hw hl
  have hx := C.1
  have hb := C.2.1
  unfold BX9_claimOf_33 at hf
  refine lv_aload_n hx hb dX9_claimOf_33 rfl (lv_at hl 0 rfl) ?_
  refine lv_iload hx hb dX9_claimOf_34 (lv_at hl 4 rfl) ?_
  obtain ⟨t_1, h_2, hf⟩ := sn_bd hf
  refine sn_callSi (rest := [.ref (ad 0)]) C hw (ctX9_firstOf l  h_2) kl_RX9_287 rfl rfl rfl (Nat.le_of_ble_eq_true rfl) dX9_claimOf_36 hl.1 (fun H locs hw => ?_)
  refine sn_putI C hw fp_RX9_307 layM_0 rfl dX9_claimOf_39 (fun H locs hw => ?_)
  obtain ⟨σ_3, e_4, hf⟩ := sn_ltE hf
  rw [← e_4] at hw
  refine lv_iconst (v := 0) hx hb dX9_claimOf_42 rfl ?_
  refine lv_istore (lv' := [(5, .int (0 : Int32)), (0, .ref (ad 0)), (1, .int x1), (2, .int x2), (3, .int x3), (4, .int x4)]) hx hb dX9_claimOf_43 hl (by decide) rfl (fun ls hl => ?_)
  refine lv_aload_n hx hb dX9_claimOf_45 rfl (lv_at hl 1 rfl) ?_
  refine sn_getI C hw fd_RX9_243 layM_0 rfl dX9_claimOf_46 ?_
  refine lv_iconst (v := 2) hx hb dX9_claimOf_49 rfl ?_
  refine lv_icmp_ne (tgt := 57) hx hb dX9_claimOf_50 (by decide) (fun c_5 => ?_) (fun c_5 => ?_)
  · have hf := sn_el c_5 hf
    refine lv_iconst (v := 1) hx hb dX9_claimOf_57 rfl ?_
    exact wX9_claimOf_58 C  hf kr _ _ _ hw (lv_sub hl [1, 2, 3, 4, 5, 0] rfl)
  · have hf := sn_if c_5 hf
    refine lv_iconst (v := 3) hx hb dX9_claimOf_53 rfl ?_
    refine lv_goto (tgt := 58) hx hb dX9_claimOf_54 (by decide) ?_
    exact wX9_claimOf_58 C  hf kr _ _ _ hw (lv_sub hl [1, 2, 3, 4, 5, 0] rfl)
theorem wX9_claimOf_in (C : sn_C p s m args meth c RX9 cX9_claimOf 11 (some .int) D ct ad layM A) {σ : sn_S} {x1 : Int32} {x2 : Int32} {x3 : Int32}  {o : (Int32 × sn_S)} (hf : fX9_claimOf σ x1 x2 x3 = some o) (kr : sn_Kr p l e rmX9_claimOf s m args below meth c Q D ct ad layM A cX9_claimOf .ireturn (true) o.2 [.int o.1]) : sn_At p l e rmX9_claimOf s m args below meth c Q D ct ad layM A 11 σ 0 [(0, .ref (ad 0)), (1, .int x1), (2, .int x2), (3, .int x3)] [] := by
  intro H locs ls hw hl
  have hx := C.1
  have hb := C.2.1
  unfold fX9_claimOf at hf
  refine lv_aload_n hx hb dX9_claimOf_0 rfl (lv_at hl 0 rfl) ?_
  refine sn_getC (r := 10) C hw fd_RX9_43 layM_0 rfl dX9_claimOf_1 ?_
  refine lv_iload_n hx hb dX9_claimOf_4 rfl (lv_at hl 2 rfl) ?_
  obtain ⟨g_1, hf⟩ := sn_gdE hf
  refine sn_iald C hw layM_10 g_1 dX9_claimOf_5 ?_
  refine lv_aload_n hx hb dX9_claimOf_6 rfl (lv_at hl 0 rfl) ?_
  refine lv_iload_n hx hb dX9_claimOf_7 rfl (lv_at hl 1 rfl) ?_
  obtain ⟨t_2, h_3, hf⟩ := sn_bd hf
  refine sn_callVi (rest := [.int (sn_I σ 10 x2.toNatClampNeg)]) C hw (ctX9_windowOf l  h_3) kl_RX9_304 layM_0 rfl rfl rfl rfl (Nat.le_of_ble_eq_true rfl) dX9_claimOf_8 hl.1 (fun H locs hw => ?_)
  refine lv_iand hx hb dX9_claimOf_11 ?_
  obtain ⟨y_4, e_5, hf⟩ := sn_ltE hf
  refine lv_topi (fun y_4_ e_5_ => ?_)
  obtain rfl : y_4 = y_4_ := e_5.trans e_5_.symm
  refine lv_istore (lv' := [(4, .int y_4), (0, .ref (ad 0)), (1, .int x1), (2, .int x2), (3, .int x3)]) hx hb dX9_claimOf_12 hl (by decide) rfl (fun ls hl => ?_)
  refine lv_aload_n hx hb dX9_claimOf_14 rfl (lv_at hl 1 rfl) ?_
  refine sn_getI C hw fd_RX9_243 layM_0 rfl dX9_claimOf_15 ?_
  refine lv_iconst (v := 1) hx hb dX9_claimOf_18 rfl ?_
  refine lv_icmp_ne (tgt := 33) hx hb dX9_claimOf_19 (by decide) (fun c_6 => ?_) (fun c_6 => ?_)
  · have hf := sn_el c_6 hf
    exact wX9_claimOf_33 C  hf kr _ _ _ hw (lv_sub hl [1, 2, 3, 4, 0] rfl)
  · have hf := sn_if c_6 hf
    refine lv_iload hx hb dX9_claimOf_22 (lv_at hl 0 rfl) ?_
    refine lv_aload_n hx hb dX9_claimOf_24 rfl (lv_at hl 1 rfl) ?_
    refine sn_getI C hw fd_RX9_237 layM_0 rfl dX9_claimOf_25 ?_
    refine lv_iconst (v := (-1)) hx hb dX9_claimOf_28 rfl ?_
    refine lv_ixor hx hb dX9_claimOf_29 ?_
    refine lv_iand hx hb dX9_claimOf_30 ?_
    obtain ⟨y_7, e_8, hf⟩ := sn_ltE hf
    refine lv_topi (fun y_7_ e_8_ => ?_)
    obtain rfl : y_7 = y_7_ := e_8.trans e_8_.symm
    refine lv_istore (lv' := [(4, .int y_7), (0, .ref (ad 0)), (1, .int x1), (2, .int x2), (3, .int x3)]) hx hb dX9_claimOf_31 hl (by decide) rfl (fun ls hl => ?_)
    exact wX9_claimOf_33 C  hf kr _ _ _ hw (lv_sub hl [1, 2, 3, 4, 0] rfl)
theorem ctX9_claimOf (l : Launch) {σ : sn_S} {x1 : Int32} {x2 : Int32} {x3 : Int32}  {o : (Int32 × sn_S)} (hf : fX9_claimOf σ x1 x2 x3 = some o) : sn_M l yX9_claimOf cX9_claimOf 11 (some .int) rmX9_claimOf layM (fun ad => [.ref (ad 0), .int x1, .int x2, .int x3]) σ (some (fun _ => .int o.1)) o.2 :=
  sn_met (by decide) (fun _ => Nat.le_of_ble_eq_true rfl) (fun p e s m args below meth c ls D ct ad A C hw hl => wX9_claimOf_in C  hf (fun H locs ls pc hw ok hd => sn_iret C hw hd) _ _ _ hw hl)
end
