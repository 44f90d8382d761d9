section
variable {p : Program} {l : Launch} {e : Env} {s : State} {m : MethodId} {args : Array Value} {below : List Frame} {meth : Method} {c : Code} {Q : State → Prop} {D : va_G} {ct : Nat → ClassId} {ad : Nat → Nat}
-- X9_allWithout
abbrev rmX9_allWithout : Room := { frames := 4, cells := 0, slots := 0, locals := 95 }
def fX9_allWithout (σ : sn_S) (x1 : Int32) : Option (Int32 × sn_S) :=
  (sn_lt (sn_pI σ 0 19 x1) fun σ_1 => ((fX9_goAll σ_1).bind fun t_3 => ((fX9_allSneezes t_3).bind fun t_5 => (some (t_5, t_3)))))
theorem wX9_allWithout_in (C : sn_C p s m args meth c RX9 cX9_allWithout 2 (some .int) D ct ad layM) {σ : sn_S} {x1 : Int32}  {o : (Int32 × sn_S)} (hf : fX9_allWithout σ x1 = some o) (kr : sn_Kr p l e rmX9_allWithout s m args below meth c Q D ct ad layM cX9_allWithout .ireturn (true) o.2 [.int o.1]) : sn_At p l e rmX9_allWithout s m args below meth c Q D ct ad layM 2 σ 0 [(0, .ref (ad 0)), (1, .int x1)] [] := by
  intro H locs ls hw hl
  have hx := C.1
  have hb := C.2.1
  unfold fX9_allWithout at hf
  refine lv_aload_n hx hb dX9_allWithout_0 rfl (lv_at hl 0 rfl) ?_
  refine lv_iload_n hx hb dX9_allWithout_1 rfl (lv_at hl 1 rfl) ?_
  refine sn_putI C hw fp_RX9_240 layM_0 rfl dX9_allWithout_2 (fun H locs hw => ?_)
  obtain ⟨σ_1, e_2, hf⟩ := sn_ltE hf
  rw [← e_2] at hw
  refine lv_aload_n hx hb dX9_allWithout_5 rfl (lv_at hl 0 rfl) ?_
  obtain ⟨t_3, h_4, hf⟩ := sn_bd hf
  refine sn_callVv (rest := []) C hw (ctX9_goAll l  h_4) kl_RX9_266 layM_0 rfl rfl rfl rfl (Nat.le_of_ble_eq_true rfl) dX9_allWithout_6 hl.1 (fun H locs hw => ?_)
  refine lv_aload_n hx hb dX9_allWithout_9 rfl (lv_at hl 0 rfl) ?_
  obtain ⟨t_5, h_6, hf⟩ := sn_bd hf
  refine sn_callVi (rest := []) C hw (ctX9_allSneezes l  h_6) kl_RX9_290 layM_0 rfl rfl rfl rfl (Nat.le_of_ble_eq_true rfl) dX9_allWithout_10 hl.1 (fun H locs hw => ?_)
  cases hf
  exact kr _ _ _ _ hw rfl dX9_allWithout_13
theorem ctX9_allWithout (l : Launch) {σ : sn_S} {x1 : Int32}  {o : (Int32 × sn_S)} (hf : fX9_allWithout σ x1 = some o) : sn_M l yX9_allWithout cX9_allWithout 2 (some .int) rmX9_allWithout layM (fun ad => [.ref (ad 0), .int x1]) σ (some (fun _ => .int o.1)) o.2 :=
  sn_met (by decide) (fun _ => Nat.le_of_ble_eq_true rfl) (fun p e s m args below meth c ls D ct ad C hw hl => wX9_allWithout_in C  hf (fun H locs ls pc hw ok hd => sn_iret C hw hd) _ _ _ hw hl)
-- X9_cut
abbrev rmX9_cut : Room := { frames := 5, cells := 0, slots := 0, locals := 116 }
def fX9_cut (σ : sn_S) (x1 : Int32) : Option (Int32 × sn_S) :=
  ((fX9_asItIs σ).bind fun t_1 => (sn_gd (sn_in (7 : Int32) 119) ((fX9_in x1.toInt64 (0 : Int64) (((sn_I t_1 1 (7 : Int32).toNatClampNeg) - (1 : Int32)).toInt64)).bind fun t_4 => (if t_4 = 0 then
  (some ((-2 : Int32), t_1))
  else
  ((fX9_allWithout t_1 x1).bind fun t_7 => (some (t_7.1, t_7.2)))))))
theorem wX9_cut_in (C : sn_C p s m args meth c RX9 cX9_cut 2 (some .int) D ct ad layM) {σ : sn_S} {x1 : Int32}  {o : (Int32 × sn_S)} (hf : fX9_cut σ x1 = some o) (kr : sn_Kr p l e rmX9_cut s m args below meth c Q D ct ad layM cX9_cut .ireturn (true) o.2 [.int o.1]) : sn_At p l e rmX9_cut s m args below meth c Q D ct ad layM 2 σ 0 [(0, .ref (ad 0)), (1, .int x1)] [] := by
  intro H locs ls hw hl
  have hx := C.1
  have hb := C.2.1
  unfold fX9_cut at hf
  refine lv_aload_n hx hb dX9_cut_0 rfl (lv_at hl 0 rfl) ?_
  obtain ⟨t_1, h_2, hf⟩ := sn_bd hf
  refine sn_callVv (rest := []) C hw (ctX9_asItIs l  h_2) kl_RX9_263 layM_0 rfl rfl rfl rfl (Nat.le_of_ble_eq_true rfl) dX9_cut_1 hl.1 (fun H locs hw => ?_)
  refine lv_iload_n hx hb dX9_cut_4 rfl (lv_at hl 1 rfl) ?_
  refine lv_i2l hx hb dX9_cut_5 rfl ?_
  refine lv_lconst (v := 0) hx hb dX9_cut_6 rfl ?_
  refine lv_aload_n hx hb dX9_cut_7 rfl (lv_at hl 0 rfl) ?_
  refine sn_getC (r := 1) C hw fd_RX9_9 layM_0 rfl dX9_cut_8 ?_
  refine lv_bipush (v := 7) hx hb dX9_cut_11 (by decide) ?_
  obtain ⟨g_3, hf⟩ := sn_gdE hf
  refine sn_iald C hw layM_1 g_3 dX9_cut_13 ?_
  refine lv_iconst (v := 1) hx hb dX9_cut_14 rfl ?_
  refine lv_isub hx hb dX9_cut_15 ?_
  refine lv_i2l hx hb dX9_cut_16 rfl ?_
  obtain ⟨t_4, h_5, hf⟩ := sn_bd hf
  refine sn_callSi (rest := []) C hw (ctX9_in l  h_5) kl_RX9_94 rfl rfl rfl (Nat.le_of_ble_eq_true rfl) dX9_cut_17 hl.1 (fun H locs hw => ?_)
  refine lv_if_eq (tgt := 31) hx hb dX9_cut_20 (by decide) (fun c_6 => ?_) (fun c_6 => ?_)
  · have hf := sn_if c_6 hf
    refine lv_bipush (v := (-2)) hx hb dX9_cut_31 (by decide) ?_
    cases hf
    exact kr _ _ _ _ hw rfl dX9_cut_33
  · have hf := sn_el c_6 hf
    refine lv_aload_n hx hb dX9_cut_23 rfl (lv_at hl 0 rfl) ?_
    refine lv_iload_n hx hb dX9_cut_24 rfl (lv_at hl 1 rfl) ?_
    obtain ⟨t_7, h_8, hf⟩ := sn_bd hf
    refine sn_callVi (rest := []) C hw (ctX9_allWithout l  h_8) kl_RX9_391 layM_0 rfl rfl rfl rfl (Nat.le_of_ble_eq_true rfl) dX9_cut_25 hl.1 (fun H locs hw => ?_)
    refine lv_goto (tgt := 33) hx hb dX9_cut_28 (by decide) ?_
    cases hf
    exact kr _ _ _ _ hw rfl dX9_cut_33
theorem ctX9_cut (l : Launch) {σ : sn_S} {x1 : Int32}  {o : (Int32 × sn_S)} (hf : fX9_cut σ x1 = some o) : sn_M l yX9_cut cX9_cut 2 (some .int) rmX9_cut layM (fun ad => [.ref (ad 0), .int x1]) σ (some (fun _ => .int o.1)) o.2 :=
  sn_met (by decide) (fun _ => Nat.le_of_ble_eq_true rfl) (fun p e s m args below meth c ls D ct ad C hw hl => wX9_cut_in C  hf (fun H locs ls pc hw ok hd => sn_iret C hw hd) _ _ _ hw hl)
-- X9_cuts
abbrev rmX9_cuts : Room := { frames := 5, cells := 0, slots := 0, locals := 116 }
def BX9_cuts_57 (σ : sn_S) (x1 : Int32) : Option ((Int32 × sn_S)) :=
  (some (x1, σ))
def BX9_cuts_51 (σ : sn_S) (x1 : Int32) (x2 : Int32) (x3 : Int32) : Option ((sn_S × Int32 × Int32 × Int32) ⊕ (sn_S × Int32)) :=
  (sn_lt (x3 + 1) fun y_1 => (some (.inl (σ, x1, x2, y_1))))
def BX9_cuts_19 (σ : sn_S) (x1 : Int32) (x2 : Int32) (x3 : Int32) : Option ((sn_S × Int32 × Int32 × Int32) ⊕ (sn_S × Int32)) :=
  (sn_gd (sn_in (7 : Int32) 119) (if (sn_I σ 1 (7 : Int32).toNatClampNeg) ≤ x3 then
  (some (.inr (σ, x1)))
  else
  ((fX9_allWithout σ x3).bind fun t_3 => (if t_3.1 < x2 then
  (BX9_cuts_51 t_3.2 x3 t_3.1 x3)
  else
  (BX9_cuts_51 t_3.2 x1 x2 x3)))))
def LX9_cuts_19  (s : sn_S × Int32 × Int32 × Int32) : Option ((sn_S × Int32 × Int32 × Int32) ⊕ (sn_S × Int32)) := BX9_cuts_19 s.1 s.2.1 s.2.2.1 s.2.2.2
def fX9_cuts (σ : sn_S) : Option (Int32 × sn_S) :=
  ((fX9_asksHouse σ).bind fun t_1 => (if t_1.1 = 0 then
  (some ((-2 : Int32), t_1.2))
  else
  ((fX9_allSneezes t_1.2).bind fun t_4 => ((sn_it (LX9_cuts_19 ) 5000 (t_1.2, (-1 : Int32), t_4, (0 : Int32))).bind fun t_6 => (BX9_cuts_57 t_6.1 t_6.2)))))
theorem wX9_cuts_57 (C : sn_C p s m args meth c RX9 cX9_cuts 5 (some .int) D ct ad layM) {σ : sn_S} {x1 : Int32}  {o : (Int32 × sn_S)} (hf : BX9_cuts_57 σ x1 = some o) (kr : sn_Kr p l e rmX9_cuts s m args below meth c Q D ct ad layM cX9_cuts .ireturn (true) o.2 [.int o.1]) : sn_At p l e rmX9_cuts s m args below meth c Q D ct ad layM 5 σ 57 [(1, .int x1)] [] := by
  intro H locs ls hw hl
  have hx := C.1
  have hb := C.2.1
  unfold BX9_cuts_57 at hf
  refine lv_iload_n hx hb dX9_cuts_57 rfl (lv_at hl 0 rfl) ?_
  cases hf
  exact kr _ _ _ _ hw rfl dX9_cuts_58
theorem wX9_cuts_51 (C : sn_C p s m args meth c RX9 cX9_cuts 5 (some .int) D ct ad layM) {σ : sn_S} {x1 : Int32} {x2 : Int32} {x3 : Int32}  {o : (sn_S × Int32 × Int32 × Int32) ⊕ (sn_S × Int32)} (hf : BX9_cuts_51 σ x1 x2 x3 = some o) (kc : ∀ v, o = .inl v → sn_At p l e rmX9_cuts s m args below meth c Q D ct ad layM 5 v.1 19 [(0, .ref (ad 0)), (1, .int v.2.1), (2, .int v.2.2.1), (3, .int v.2.2.2)] []) (kx : ∀ v, o = .inr v → sn_At p l e rmX9_cuts s m args below meth c Q D ct ad layM 5 v.1 57 [(1, .int v.2)] []) : sn_At p l e rmX9_cuts s m args below meth c Q D ct ad layM 5 σ 51 [(0, .ref (ad 0)), (1, .int x1), (2, .int x2), (3, .int x3)] [] := by
  intro H locs ls hw hl
  have hx := C.1
  have hb := C.2.1
  unfold BX9_cuts_51 at hf
  obtain ⟨y_1, e_2, hf⟩ := sn_ltE hf
  refine lv_iinc (v := y_1) (lv' := [(3, .int y_1), (0, .ref (ad 0)), (1, .int x1), (2, .int x2)]) hx hb dX9_cuts_51 hl (k := 3) rfl (by rw [e_2]; rfl) (by decide) rfl (fun ls hl => ?_)
  refine lv_goto (tgt := 19) hx hb dX9_cuts_54 (by decide) ?_
  cases hf
  exact kc _ rfl _ _ _ hw (lv_sub hl [1, 2, 3, 0] rfl)
theorem wX9_cuts_19 (C : sn_C p s m args meth c RX9 cX9_cuts 5 (some .int) D ct ad layM) {σ : sn_S} {x1 : Int32} {x2 : Int32} {x3 : Int32}  {o : (sn_S × Int32 × Int32 × Int32) ⊕ (sn_S × Int32)} (hf : BX9_cuts_19 σ x1 x2 x3 = some o) (kc : ∀ v, o = .inl v → sn_At p l e rmX9_cuts s m args below meth c Q D ct ad layM 5 v.1 19 [(0, .ref (ad 0)), (1, .int v.2.1), (2, .int v.2.2.1), (3, .int v.2.2.2)] []) (kx : ∀ v, o = .inr v → sn_At p l e rmX9_cuts s m args below meth c Q D ct ad layM 5 v.1 57 [(1, .int v.2)] []) : sn_At p l e rmX9_cuts s m args below meth c Q D ct ad layM 5 σ 19 [(0, .ref (ad 0)), (1, .int x1), (2, .int x2), (3, .int x3)] [] := by
  intro H locs ls hw hl
  have hx := C.1
  have hb := C.2.1
  unfold BX9_cuts_19 at hf
  refine lv_iload_n hx hb dX9_cuts_19 rfl (lv_at hl 3 rfl) ?_
  refine lv_aload_n hx hb dX9_cuts_20 rfl (lv_at hl 0 rfl) ?_
  refine sn_getC (r := 1) C hw fd_RX9_9 layM_0 rfl dX9_cuts_21 ?_
  refine lv_bipush (v := 7) hx hb dX9_cuts_24 (by decide) ?_
  obtain ⟨g_1, hf⟩ := sn_gdE hf
  refine sn_iald C hw layM_1 g_1 dX9_cuts_26 ?_
  refine lv_icmp_ge (tgt := 57) hx hb dX9_cuts_27 (by decide) (fun c_2 => ?_) (fun c_2 => ?_)
  · have hf := sn_if c_2 hf
    cases hf
    exact kx _ rfl _ _ _ hw (lv_sub hl [1] rfl)
  · have hf := sn_el c_2 hf
    refine lv_aload_n hx hb dX9_cuts_30 rfl (lv_at hl 0 rfl) ?_
    refine lv_iload_n hx hb dX9_cuts_31 rfl (lv_at hl 3 rfl) ?_
    obtain ⟨t_3, h_4, hf⟩ := sn_bd hf
    refine sn_callVi (rest := []) C hw (ctX9_allWithout l  h_4) kl_RX9_391 layM_0 rfl rfl rfl rfl (Nat.le_of_ble_eq_true rfl) dX9_cuts_32 hl.1 (fun H locs hw => ?_)
    refine lv_istore (lv' := [(4, .int t_3.1), (0, .ref (ad 0)), (1, .int x1), (2, .int x2), (3, .int x3)]) hx hb dX9_cuts_35 hl (by decide) rfl (fun ls hl => ?_)
    refine lv_iload hx hb dX9_cuts_37 (lv_at hl 0 rfl) ?_
    refine lv_iload_n hx hb dX9_cuts_39 rfl (lv_at hl 3 rfl) ?_
    refine lv_icmp_lt (tgt := 46) hx hb dX9_cuts_40 (by decide) (fun c_5 => ?_) (fun c_5 => ?_)
    · have hf := sn_if c_5 hf
      refine lv_iload hx hb dX9_cuts_46 (lv_at hl 0 rfl) ?_
      refine lv_istore_n (lv' := [(2, .int t_3.1), (4, .int t_3.1), (0, .ref (ad 0)), (1, .int x1), (3, .int x3)]) hx hb dX9_cuts_48 rfl hl (by decide) rfl (fun ls hl => ?_)
      refine lv_iload_n hx hb dX9_cuts_49 rfl (lv_at hl 4 rfl) ?_
      refine lv_istore_n (lv' := [(1, .int x3), (2, .int t_3.1), (4, .int t_3.1), (0, .ref (ad 0)), (3, .int x3)]) hx hb dX9_cuts_50 rfl hl (by decide) rfl (fun ls hl => ?_)
      exact wX9_cuts_51 C  hf kc kx _ _ _ hw (lv_sub hl [3, 0, 1, 4] rfl)
    · have hf := sn_el c_5 hf
      refine lv_goto (tgt := 51) hx hb dX9_cuts_43 (by decide) ?_
      exact wX9_cuts_51 C  hf kc kx _ _ _ hw (lv_sub hl [1, 2, 3, 4] rfl)
theorem wX9_cuts_L19 (C : sn_C p s m args meth c RX9 cX9_cuts 5 (some .int) D ct ad layM)    {z : sn_S × Int32 × Int32 × Int32} {t : sn_S × Int32} (h : sn_it (LX9_cuts_19 ) 5000 z = some t) (kx : ∀ v, t = v → sn_At p l e rmX9_cuts s m args below meth c Q D ct ad layM 5 v.1 57 [(1, .int v.2)] []) : sn_At p l e rmX9_cuts s m args below meth c Q D ct ad layM 5 z.1 19 [(0, .ref (ad 0)), (1, .int z.2.1), (2, .int z.2.2.1), (3, .int z.2.2.2)] [] :=
  sn_loop (f := LX9_cuts_19 ) (G := fun z => sn_At p l e rmX9_cuts s m args below meth c Q D ct ad layM 5 z.1 19 [(0, .ref (ad 0)), (1, .int z.2.1), (2, .int z.2.2.1), (3, .int z.2.2.2)] []) (E := fun t => (∀ v, t = v → sn_At p l e rmX9_cuts s m args below meth c Q D ct ad layM 5 v.1 57 [(1, .int v.2)] []) ∧ True) (fun z o hf k1 k2 => wX9_cuts_19 C  hf (fun v e => k1 v e) (fun v e => (k2 _ e).1 v rfl)) 5000 z t h ⟨kx, trivial⟩
theorem wX9_cuts_in (C : sn_C p s m args meth c RX9 cX9_cuts 5 (some .int) D ct ad layM) {σ : sn_S}  {o : (Int32 × sn_S)} (hf : fX9_cuts σ = some o) (kr : sn_Kr p l e rmX9_cuts s m args below meth c Q D ct ad layM cX9_cuts .ireturn (true) o.2 [.int o.1]) : sn_At p l e rmX9_cuts s m args below meth c Q D ct ad layM 5 σ 0 [(0, .ref (ad 0))] [] := by
  intro H locs ls hw hl
  have hx := C.1
  have hb := C.2.1
  unfold fX9_cuts at hf
  refine lv_aload_n hx hb dX9_cuts_0 rfl (lv_at hl 0 rfl) ?_
  obtain ⟨t_1, h_2, hf⟩ := sn_bd hf
  refine sn_callVi (rest := []) C hw (ctX9_asksHouse l  h_2) kl_RX9_272 layM_0 rfl rfl rfl rfl (Nat.le_of_ble_eq_true rfl) dX9_cuts_1 hl.1 (fun H locs hw => ?_)
  refine lv_if_ne (tgt := 10) hx hb dX9_cuts_4 (by decide) (fun c_3 => ?_) (fun c_3 => ?_)
  · have hf := sn_el c_3 hf
    refine lv_iconst (v := (-1)) hx hb dX9_cuts_10 rfl ?_
    refine lv_istore_n (lv' := [(1, .int (-1 : Int32)), (0, .ref (ad 0))]) hx hb dX9_cuts_11 rfl hl (by decide) rfl (fun ls hl => ?_)
    refine lv_aload_n hx hb dX9_cuts_12 rfl (lv_at hl 1 rfl) ?_
    obtain ⟨t_4, h_5, hf⟩ := sn_bd hf
    refine sn_callVi (rest := []) C hw (ctX9_allSneezes l  h_5) kl_RX9_290 layM_0 rfl rfl rfl rfl (Nat.le_of_ble_eq_true rfl) dX9_cuts_13 hl.1 (fun H locs hw => ?_)
    refine lv_istore_n (lv' := [(2, .int t_4), (1, .int (-1 : Int32)), (0, .ref (ad 0))]) hx hb dX9_cuts_16 rfl hl (by decide) rfl (fun ls hl => ?_)
    refine lv_iconst (v := 0) hx hb dX9_cuts_17 rfl ?_
    refine lv_istore_n (lv' := [(3, .int (0 : Int32)), (2, .int t_4), (1, .int (-1 : Int32)), (0, .ref (ad 0))]) hx hb dX9_cuts_18 rfl hl (by decide) rfl (fun ls hl => ?_)
    obtain ⟨t_6, h_7, hf⟩ := sn_bd hf
    exact wX9_cuts_L19 C  h_7 (fun v e => by cases e; exact wX9_cuts_57 C  hf kr) _ _ _ hw (lv_sub hl [3, 2, 1, 0] rfl)
  · have hf := sn_if c_3 hf
    refine lv_bipush (v := (-2)) hx hb dX9_cuts_7 (by decide) ?_
    cases hf
    exact kr _ _ _ _ hw rfl dX9_cuts_9
theorem ctX9_cuts (l : Launch) {σ : sn_S}  {o : (Int32 × sn_S)} (hf : fX9_cuts σ = some o) : sn_M l yX9_cuts cX9_cuts 5 (some .int) rmX9_cuts layM (fun ad => [.ref (ad 0)]) σ (some (fun _ => .int o.1)) o.2 :=
  sn_met (by decide) (fun _ => Nat.le_of_ble_eq_true rfl) (fun p e s m args below meth c ls D ct ad C hw hl => wX9_cuts_in C  hf (fun H locs ls pc hw ok hd => sn_iret C hw hd) _ _ _ hw hl)
-- X9_divisor
abbrev rmX9_divisor : Room := { frames := 0, cells := 0, slots := 0, locals := 0 }
def BX9_divisor_31 (x4 : Int64) : Option (Int64) :=
  (some x4)
def BX9_divisor_6 (x4 : Int64) (x6 : Int64) : Option ((Int64 × Int64) ⊕ (Int64)) :=
  (if (lg_cmp x6 (0 : Int64)) = 0 then
  (some (.inr (x4)))
  else
  (sn_gd (x6 != 0) (sn_lt (x4 - x4 / x6 * x6) fun y_3 => (some (.inl (x6, y_3))))))
def LX9_divisor_6  (s : Int64 × Int64) : Option ((Int64 × Int64) ⊕ (Int64)) := BX9_divisor_6 s.1 s.2
def fX9_divisor (x0 : Int64) (x2 : Int64) : Option Int64 :=
  ((sn_it (LX9_divisor_6 ) 5000 (x0, x2)).bind fun t_1 => (BX9_divisor_31 t_1))
theorem wX9_divisor_31 (C : sn_C p s m args meth c RX9 cX9_divisor 10 (some .long) D ct ad layM) {σ : sn_S} {x4 : Int64}  {o : Int64} (hf : BX9_divisor_31 x4 = some o) (kr : sn_Kr p l e rmX9_divisor s m args below meth c Q D ct ad layM cX9_divisor .lreturn (true) σ [.long o]) : sn_At p l e rmX9_divisor s m args below meth c Q D ct ad layM 10 σ 31 [(4, .long x4)] [] := by
  intro H locs ls hw hl
  have hx := C.1
  have hb := C.2.1
  unfold BX9_divisor_31 at hf
  refine lv_lload hx hb dX9_divisor_31 (lv_at hl 0 rfl) ?_
  cases hf
  exact kr _ _ _ _ hw rfl dX9_divisor_33
theorem wX9_divisor_6 (C : sn_C p s m args meth c RX9 cX9_divisor 10 (some .long) D ct ad layM) {σ : sn_S} {x4 : Int64} {x6 : Int64}  {o : (Int64 × Int64) ⊕ (Int64)} (hf : BX9_divisor_6 x4 x6 = some o) (kc : ∀ v, o = .inl v → sn_At p l e rmX9_divisor s m args below meth c Q D ct ad layM 10 σ 6 [(4, .long v.1), (6, .long v.2)] []) (kx : ∀ v, o = .inr v → sn_At p l e rmX9_divisor s m args below meth c Q D ct ad layM 10 σ 31 [(4, .long v)] []) : sn_At p l e rmX9_divisor s m args below meth c Q D ct ad layM 10 σ 6 [(4, .long x4), (6, .long x6)] [] := by
  intro H locs ls hw hl
  have hx := C.1
  have hb := C.2.1
  unfold BX9_divisor_6 at hf
  refine lv_lload hx hb dX9_divisor_6 (lv_at hl 1 rfl) ?_
  refine lv_lconst (v := 0) hx hb dX9_divisor_8 rfl ?_
  refine W.lcmp hx hb dX9_divisor_9 ?_
  refine lv_if_eq (tgt := 31) hx hb dX9_divisor_10 (by decide) (fun c_1 => ?_) (fun c_1 => ?_)
  · have hf := sn_if c_1 hf
    cases hf
    exact kx _ rfl _ _ _ hw (lv_sub hl [0] rfl)
  · have hf := sn_el c_1 hf
    refine lv_lload hx hb dX9_divisor_13 (lv_at hl 0 rfl) ?_
    refine lv_lload hx hb dX9_divisor_15 (lv_at hl 1 rfl) ?_
    obtain ⟨g_2, hf⟩ := sn_gdE hf
    refine lv_lrem hx hb dX9_divisor_17 (sn_nzL g_2) ?_
    obtain ⟨y_3, e_4, hf⟩ := sn_ltE hf
    refine lv_topl (fun y_3_ e_4_ => ?_)
    obtain rfl : y_3 = y_3_ := e_4.trans e_4_.symm
    refine lv_lstore (lv' := [(8, .long y_3), (4, .long x4), (6, .long x6)]) hx hb dX9_divisor_18 hl (by decide) rfl (fun ls hl => ?_)
    refine lv_lload hx hb dX9_divisor_20 (lv_at hl 2 rfl) ?_
    refine lv_lstore (lv' := [(4, .long x6), (8, .long y_3), (6, .long x6)]) hx hb dX9_divisor_22 hl (by decide) rfl (fun ls hl => ?_)
    refine lv_lload hx hb dX9_divisor_24 (lv_at hl 1 rfl) ?_
    refine lv_lstore (lv' := [(6, .long y_3), (4, .long x6), (8, .long y_3)]) hx hb dX9_divisor_26 hl (by decide) rfl (fun ls hl => ?_)
    refine lv_goto (tgt := 6) hx hb dX9_divisor_28 (by decide) ?_
    cases hf
    exact kc _ rfl _ _ _ hw (lv_sub hl [1, 0] rfl)
theorem wX9_divisor_L6 (C : sn_C p s m args meth c RX9 cX9_divisor 10 (some .long) D ct ad layM) {σ : sn_S}    {z : Int64 × Int64} {t : Int64} (h : sn_it (LX9_divisor_6 ) 5000 z = some t) (kx : ∀ v, t = v → sn_At p l e rmX9_divisor s m args below meth c Q D ct ad layM 10 σ 31 [(4, .long v)] []) : sn_At p l e rmX9_divisor s m args below meth c Q D ct ad layM 10 σ 6 [(4, .long z.1), (6, .long z.2)] [] :=
  sn_loop (f := LX9_divisor_6 ) (G := fun z => sn_At p l e rmX9_divisor s m args below meth c Q D ct ad layM 10 σ 6 [(4, .long z.1), (6, .long z.2)] []) (E := fun t => (∀ v, t = v → sn_At p l e rmX9_divisor s m args below meth c Q D ct ad layM 10 σ 31 [(4, .long v)] []) ∧ True) (fun z o hf k1 k2 => wX9_divisor_6 C  hf (fun v e => k1 v e) (fun v e => (k2 _ e).1 v rfl)) 5000 z t h ⟨kx, trivial⟩
theorem wX9_divisor_in (C : sn_C p s m args meth c RX9 cX9_divisor 10 (some .long) D ct ad layM) {σ : sn_S} {x0 : Int64} {x2 : Int64}  {o : Int64} (hf : fX9_divisor x0 x2 = some o) (kr : sn_Kr p l e rmX9_divisor s m args below meth c Q D ct ad layM cX9_divisor .lreturn (true) σ [.long o]) : sn_At p l e rmX9_divisor s m args below meth c Q D ct ad layM 10 σ 0 [(0, .long x0), (2, .long x2)] [] := by
  intro H locs ls hw hl
  have hx := C.1
  have hb := C.2.1
  unfold fX9_divisor at hf
  refine lv_lload_n hx hb dX9_divisor_0 rfl (lv_at hl 0 rfl) ?_
  refine lv_lstore (lv' := [(4, .long x0), (0, .long x0), (2, .long x2)]) hx hb dX9_divisor_1 hl (by decide) rfl (fun ls hl => ?_)
  refine lv_lload_n hx hb dX9_divisor_3 rfl (lv_at hl 2 rfl) ?_
  refine lv_lstore (lv' := [(6, .long x2), (4, .long x0), (0, .long x0), (2, .long x2)]) hx hb dX9_divisor_4 hl (by decide) rfl (fun ls hl => ?_)
  obtain ⟨t_1, h_2, hf⟩ := sn_bd hf
  exact wX9_divisor_L6 C  h_2 (fun v e => by cases e; exact wX9_divisor_31 C  hf kr) _ _ _ hw (lv_sub hl [1, 0] rfl)
theorem ctX9_divisor (l : Launch) {σ : sn_S} {x0 : Int64} {x2 : Int64}  {o : Int64} (hf : fX9_divisor x0 x2 = some o) : sn_M l yX9_divisor cX9_divisor 10 (some .long) rmX9_divisor layM (fun ad => [.long x0, .long x2]) σ (some (fun _ => .long o)) σ :=
  sn_met (by decide) (fun _ => Nat.le_of_ble_eq_true rfl) (fun p e s m args below meth c ls D ct ad C hw hl => wX9_divisor_in C  hf (fun H locs ls pc hw ok hd => sn_lret C hw hd) _ _ _ hw hl)
-- X9_part
abbrev rmX9_part : Room := { frames := 1, cells := 0, slots := 0, locals := 29 }
def BX9_part_10 (x0 : Int64) (x2 : Int64) (t0 : Int64) : Option (Int64) :=
  ((fX9_divisor x0 x2).bind fun t_1 => (sn_gd (t_1 != 0) (some (t0 / t_1))))
def fX9_part (x0 : Int64) (x2 : Int64) (x4 : Int32) : Option Int64 :=
  (if x4 = 0 then
  (BX9_part_10 x0 x2 x0)
  else
  (BX9_part_10 x0 x2 x2))
theorem wX9_part_10 (C : sn_C p s m args meth c RX9 cX9_part 5 (some .long) D ct ad layM) {σ : sn_S} {x0 : Int64} {x2 : Int64} {t0 : Int64}  {o : Int64} (hf : BX9_part_10 x0 x2 t0 = some o) (kr : sn_Kr p l e rmX9_part s m args below meth c Q D ct ad layM cX9_part .lreturn (true) σ [.long o]) : sn_At p l e rmX9_part s m args below meth c Q D ct ad layM 5 σ 10 [(0, .long x0), (2, .long x2)] [.long t0] := by
  intro H locs ls hw hl
  have hx := C.1
  have hb := C.2.1
  unfold BX9_part_10 at hf
  refine lv_lload_n hx hb dX9_part_10 rfl (lv_at hl 0 rfl) ?_
  refine lv_lload_n hx hb dX9_part_11 rfl (lv_at hl 1 rfl) ?_
  obtain ⟨t_1, h_2, hf⟩ := sn_bd hf
  refine sn_callSl (rest := [.long t0]) C hw (ctX9_divisor l  h_2) kl_RX9_394 rfl rfl rfl (Nat.le_of_ble_eq_true rfl) dX9_part_12 hl.1 (fun H locs hw => ?_)
  obtain ⟨g_3, hf⟩ := sn_gdE hf
  refine lv_ldiv hx hb dX9_part_15 (sn_nzL g_3) ?_
  cases hf
  exact kr _ _ _ _ hw rfl dX9_part_16
theorem wX9_part_in (C : sn_C p s m args meth c RX9 cX9_part 5 (some .long) D ct ad layM) {σ : sn_S} {x0 : Int64} {x2 : Int64} {x4 : Int32}  {o : Int64} (hf : fX9_part x0 x2 x4 = some o) (kr : sn_Kr p l e rmX9_part s m args below meth c Q D ct ad layM cX9_part .lreturn (true) σ [.long o]) : sn_At p l e rmX9_part s m args below meth c Q D ct ad layM 5 σ 0 [(0, .long x0), (2, .long x2), (4, .int x4)] [] := by
  intro H locs ls hw hl
  have hx := C.1
  have hb := C.2.1
  unfold fX9_part at hf
  refine lv_iload hx hb dX9_part_0 (lv_at hl 2 rfl) ?_
  refine lv_if_ne (tgt := 9) hx hb dX9_part_2 (by decide) (fun c_1 => ?_) (fun c_1 => ?_)
  · have hf := sn_el c_1 hf
    refine lv_lload_n hx hb dX9_part_9 rfl (lv_at hl 1 rfl) ?_
    exact wX9_part_10 C  hf kr _ _ _ hw (lv_sub hl [0, 1] rfl)
  · have hf := sn_if c_1 hf
    refine lv_lload_n hx hb dX9_part_5 rfl (lv_at hl 0 rfl) ?_
    refine lv_goto (tgt := 10) hx hb dX9_part_6 (by decide) ?_
    exact wX9_part_10 C  hf kr _ _ _ hw (lv_sub hl [0, 1] rfl)
theorem ctX9_part (l : Launch) {σ : sn_S} {x0 : Int64} {x2 : Int64} {x4 : Int32}  {o : Int64} (hf : fX9_part x0 x2 x4 = some o) : sn_M l yX9_part cX9_part 5 (some .long) rmX9_part layM (fun ad => [.long x0, .long x2, .int x4]) σ (some (fun _ => .long o)) σ :=
  sn_met (by decide) (fun _ => Nat.le_of_ble_eq_true rfl) (fun p e s m args below meth c ls D ct ad C hw hl => wX9_part_in C  hf (fun H locs ls pc hw ok hd => sn_lret C hw hd) _ _ _ hw hl)
-- X9_layPuffs
abbrev rmX9_layPuffs : Room := { frames := 5, cells := 0, slots := 0, locals := 117 }
def BX9_layPuffs_223 (σ : sn_S) : Option (sn_S) :=
  (some σ)
def BX9_layPuffs_217 (σ : sn_S) (x1 : Int32) (x2 : Int32) (x3 : Int32) (x4 : Int32) : Option ((sn_S × Int32) ⊕ (sn_S)) :=
  (sn_lt (x4 + 1) fun y_1 => (some (.inl (σ, y_1))))
def BX9_layPuffs_213 (σ : sn_S) (x1 : Int32) (x2 : Int32) (x3 : Int32) (x4 : Int32) (t1 : Int64) (t2 : Int64) : Option ((sn_S × Int32) ⊕ (sn_S)) :=
  (sn_lt (sn_pL σ 0 41 (t1 + t2)) fun σ_1 => (BX9_layPuffs_217 σ_1 x1 x2 x3 x4))
def BX9_layPuffs_190 (σ : sn_S) (x1 : Int32) (x2 : Int32) (x3 : Int32) (x4 : Int32) (x5 : Int64) (t1 : Int64) (t2 : Int64) : Option ((sn_S × Int32) ⊕ (sn_S)) :=
  (sn_lt (sn_pL σ 0 40 (t1 + t2)) fun σ_1 => ((fX9_ruinOf σ_1).bind fun t_3 => (if t_3.1 = (-1 : Int32) then
  (BX9_layPuffs_213 t_3.2 x1 x2 x3 x4 (sn_L σ_1 0 41) (0 : Int64))
  else
  (BX9_layPuffs_213 t_3.2 x1 x2 x3 x4 (sn_L σ_1 0 41) x5))))
def BX9_layPuffs_158 (σ : sn_S) (x1 : Int32) (x2 : Int32) (x3 : Int32) (x4 : Int32) (x5 : Int64) (t1 : Int64) (t2 : Int64) : Option ((sn_S × Int32) ⊕ (sn_S)) :=
  (sn_lt (sn_pL σ 0 39 (t1 + t2)) fun σ_1 => (sn_gd (sn_in (8 : Int32) 119) (if (sn_I σ_1 1 (8 : Int32).toNatClampNeg) ≤ 0 then
  (BX9_layPuffs_190 σ_1 x1 x2 x3 x4 x5 (sn_L σ_1 0 40) (0 : Int64))
  else
  ((fX9_claimOf_ σ_1 x3).bind fun t_5 => (BX9_layPuffs_190 t_5.2 x1 x2 x3 x4 x5 (sn_L σ_1 0 40) (x5 * t_5.1.toInt64))))))
def BX9_layPuffs_113 (σ : sn_S) (x1 : Int32) (x2 : Int32) (x3 : Int32) (x4 : Int32) (x5 : Int64) : Option ((sn_S × Int32) ⊕ (sn_S)) :=
  (if (lg_cmp x5 (0 : Int64)) = 0 then
  (BX9_layPuffs_217 σ x1 x2 x3 x4)
  else
  ((fX9_goAll σ).bind fun t_2 => (sn_lt (sn_pL t_2 0 38 ((sn_L t_2 0 38) + x5)) fun σ_4 => (sn_gd (sn_in x2 6) (if (sn_I σ_4 10 x2.toNatClampNeg) = 0 then
  (BX9_layPuffs_158 σ_4 x1 x2 x3 x4 x5 (sn_L σ_4 0 39) (0 : Int64))
  else
  (BX9_layPuffs_158 σ_4 x1 x2 x3 x4 x5 (sn_L σ_4 0 39) x5))))))
def BX9_layPuffs_104 (σ : sn_S) (x1 : Int32) (x2 : Int32) (x3 : Int32) (x4 : Int32) (x5 : Int64) (x7 : Int32) (t0 : Int64) (t1 : Int64) : Option ((sn_S × Int64 × Int32) ⊕ (sn_S × Int64)) :=
  (sn_lt (t0 * t1) fun y_1 => (sn_lt (x7 + 1) fun y_3 => (some (.inl (σ, y_1, y_3)))))
def BX9_layPuffs_46 (σ : sn_S) (x1 : Int32) (x2 : Int32) (x3 : Int32) (x4 : Int32) (x5 : Int64) (x7 : Int32) : Option ((sn_S × Int64 × Int32) ⊕ (sn_S × Int64)) :=
  (if x1 < x7 then
  (some (.inr (σ, x5)))
  else
  (sn_gd (sn_in x7 30) ((fX9_bit x4 x7).bind fun t_3 => (sn_gd (sn_in x7 30) (sn_lt (sn_pI σ 7 x7.toNatClampNeg ((sn_I σ 7 x7.toNatClampNeg) + ((3 : Int32) * t_3))) fun σ_6 => ((fX9_bit x4 x7).bind fun t_8 => (if t_8 = (1 : Int32) then
  (sn_gd (sn_in (4 : Int32) 119) (BX9_layPuffs_104 σ_6 x1 x2 x3 x4 x5 x7 x5 ((sn_I σ_6 1 (4 : Int32).toNatClampNeg).toInt64)))
  else
  (sn_gd (sn_in (4 : Int32) 119) (BX9_layPuffs_104 σ_6 x1 x2 x3 x4 x5 x7 x5 (((10 : Int32) - (sn_I σ_6 1 (4 : Int32).toNatClampNeg)).toInt64))))))))))
def LX9_layPuffs_46 (x1 : Int32) (x2 : Int32) (x3 : Int32) (x4 : Int32) (s : sn_S × Int64 × Int32) : Option ((sn_S × Int64 × Int32) ⊕ (sn_S × Int64)) := BX9_layPuffs_46 s.1 x1 x2 x3 x4 s.2.1 s.2.2
def BX9_layPuffs_23 (σ : sn_S) (x1 : Int32) (x2 : Int32) (x3 : Int32) (x4 : Int32) : Option ((sn_S × Int32) ⊕ (sn_S)) :=
  (if ((2 : Int32) <<< (x1 &&& 31)) ≤ x4 then
  (some (.inr (σ)))
  else
  ((fX9_asItIs σ).bind fun t_2 => (sn_lt (sn_pI t_2 0 22 x1) fun σ_4 => ((sn_it (LX9_layPuffs_46 x1 x2 x3 x4) 5000 (σ_4, (1 : Int64), (0 : Int32))).bind fun t_6 => (BX9_layPuffs_113 t_6.1 x1 x2 x3 x4 t_6.2)))))
def LX9_layPuffs_23 (x1 : Int32) (x2 : Int32) (x3 : Int32) (s : sn_S × Int32) : Option ((sn_S × Int32) ⊕ (sn_S)) := BX9_layPuffs_23 s.1 x1 x2 x3 s.2
def fX9_layPuffs (σ : sn_S) (x1 : Int32) (x2 : Int32) (x3 : Int32) : Option sn_S :=
  (sn_lt (sn_pL σ 0 38 (0 : Int64)) fun σ_1 => (sn_lt (sn_pL σ_1 0 39 (0 : Int64)) fun σ_3 => (sn_lt (sn_pL σ_3 0 40 (0 : Int64)) fun σ_5 => (sn_lt (sn_pL σ_5 0 41 (0 : Int64)) fun σ_7 => ((sn_it (LX9_layPuffs_23 x1 x2 x3) 5000 (σ_7, (0 : Int32))).bind fun t_9 => (BX9_layPuffs_223 t_9))))))
theorem wX9_layPuffs_223 (C : sn_C p s m args meth c RX9 cX9_layPuffs 8 none D ct ad layM) {σ : sn_S}  {o : sn_S} (hf : BX9_layPuffs_223 σ = some o) (kr : sn_Kr p l e rmX9_layPuffs s m args below meth c Q D ct ad layM cX9_layPuffs .return_ (true) o []) : sn_At p l e rmX9_layPuffs s m args below meth c Q D ct ad layM 8 σ 223 [] [] := by
  intro H locs ls hw hl
  have hx := C.1
  have hb := C.2.1
  unfold BX9_layPuffs_223 at hf
  cases hf
  exact kr _ _ _ _ hw rfl dX9_layPuffs_223
theorem wX9_layPuffs_217 (C : sn_C p s m args meth c RX9 cX9_layPuffs 8 none D ct ad layM) {σ : sn_S} {x1 : Int32} {x2 : Int32} {x3 : Int32} {x4 : Int32}  {o : (sn_S × Int32) ⊕ (sn_S)} (hf : BX9_layPuffs_217 σ x1 x2 x3 x4 = some o) (kc : ∀ v, o = .inl v → sn_At p l e rmX9_layPuffs s m args below meth c Q D ct ad layM 8 v.1 23 [(0, .ref (ad 0)), (1, .int x1), (2, .int x2), (3, .int x3), (4, .int v.2)] []) (kx : ∀ v, o = .inr v → sn_At p l e rmX9_layPuffs s m args below meth c Q D ct ad layM 8 v 223 [] []) : sn_At p l e rmX9_layPuffs s m args below meth c Q D ct ad layM 8 σ 217 [(0, .ref (ad 0)), (1, .int x1), (2, .int x2), (3, .int x3), (4, .int x4)] [] := by
  intro H locs ls hw hl
  have hx := C.1
  have hb := C.2.1
  unfold BX9_layPuffs_217 at hf
  obtain ⟨y_1, e_2, hf⟩ := sn_ltE hf
  refine lv_iinc (v := y_1) (lv' := [(4, .int y_1), (0, .ref (ad 0)), (1, .int x1), (2, .int x2), (3, .int x3)]) hx hb dX9_layPuffs_217 hl (k := 4) rfl (by rw [e_2]; rfl) (by decide) rfl (fun ls hl => ?_)
  refine lv_goto (tgt := 23) hx hb dX9_layPuffs_220 (by decide) ?_
  cases hf
  exact kc _ rfl _ _ _ hw (lv_sub hl [1, 2, 3, 4, 0] rfl)
theorem wX9_layPuffs_213 (C : sn_C p s m args meth c RX9 cX9_layPuffs 8 none D ct ad layM) {σ : sn_S} {x1 : Int32} {x2 : Int32} {x3 : Int32} {x4 : Int32} {t1 : Int64} {t2 : Int64}  {o : (sn_S × Int32) ⊕ (sn_S)} (hf : BX9_layPuffs_213 σ x1 x2 x3 x4 t1 t2 = some o) (kc : ∀ v, o = .inl v → sn_At p l e rmX9_layPuffs s m args below meth c Q D ct ad layM 8 v.1 23 [(0, .ref (ad 0)), (1, .int x1), (2, .int x2), (3, .int x3), (4, .int v.2)] []) (kx : ∀ v, o = .inr v → sn_At p l e rmX9_layPuffs s m args below meth c Q D ct ad layM 8 v 223 [] []) : sn_At p l e rmX9_layPuffs s m args below meth c Q D ct ad layM 8 σ 213 [(0, .ref (ad 0)), (1, .int x1), (2, .int x2), (3, .int x3), (4, .int x4)] [.long t2, .long t1, .ref (ad 0)] := by
  intro H locs ls hw hl
  have hx := C.1
  have hb := C.2.1
  unfold BX9_layPuffs_213 at hf
  refine lv_ladd hx hb dX9_layPuffs_213 ?_
  refine sn_putL C hw fp_RX9_408 layM_0 rfl dX9_layPuffs_214 (fun H locs hw => ?_)
  obtain ⟨σ_1, e_2, hf⟩ := sn_ltE hf
  rw [← e_2] at hw
  exact wX9_layPuffs_217 C  hf kc kx _ _ _ hw (lv_sub hl [0, 1, 2, 3, 4] rfl)
theorem wX9_layPuffs_190 (C : sn_C p s m args meth c RX9 cX9_layPuffs 8 none D ct ad layM) {σ : sn_S} {x1 : Int32} {x2 : Int32} {x3 : Int32} {x4 : Int32} {x5 : Int64} {t1 : Int64} {t2 : Int64}  {o : (sn_S × Int32) ⊕ (sn_S)} (hf : BX9_layPuffs_190 σ x1 x2 x3 x4 x5 t1 t2 = some o) (kc : ∀ v, o = .inl v → sn_At p l e rmX9_layPuffs s m args below meth c Q D ct ad layM 8 v.1 23 [(0, .ref (ad 0)), (1, .int x1), (2, .int x2), (3, .int x3), (4, .int v.2)] []) (kx : ∀ v, o = .inr v → sn_At p l e rmX9_layPuffs s m args below meth c Q D ct ad layM 8 v 223 [] []) : sn_At p l e rmX9_layPuffs s m args below meth c Q D ct ad layM 8 σ 190 [(0, .ref (ad 0)), (1, .int x1), (2, .int x2), (3, .int x3), (4, .int x4), (5, .long x5)] [.long t2, .long t1, .ref (ad 0)] := by
  intro H locs ls hw hl
  have hx := C.1
  have hb := C.2.1
  unfold BX9_layPuffs_190 at hf
  refine lv_ladd hx hb dX9_layPuffs_190 ?_
  refine sn_putL C hw fp_RX9_405 layM_0 rfl dX9_layPuffs_191 (fun H locs hw => ?_)
  obtain ⟨σ_1, e_2, hf⟩ := sn_ltE hf
  rw [← e_2] at hw
  refine lv_aload_n hx hb dX9_layPuffs_194 rfl (lv_at hl 0 rfl) ?_
  refine lv_dup hx hb dX9_layPuffs_195 rfl ?_
  refine sn_getL C hw fd_RX9_408 layM_0 rfl dX9_layPuffs_196 ?_
  refine lv_aload_n hx hb dX9_layPuffs_199 rfl (lv_at hl 0 rfl) ?_
  obtain ⟨t_3, h_4, hf⟩ := sn_bd hf
  refine sn_callVi (rest := [.long (sn_L σ_1 0 41), .ref (ad 0)]) C hw (ctX9_ruinOf l  h_4) kl_RX9_329 layM_0 rfl rfl rfl rfl (Nat.le_of_ble_eq_true rfl) dX9_layPuffs_200 hl.1 (fun H locs hw => ?_)
  refine lv_iconst (v := (-1)) hx hb dX9_layPuffs_203 rfl ?_
  refine lv_icmp_eq (tgt := 212) hx hb dX9_layPuffs_204 (by decide) (fun c_5 => ?_) (fun c_5 => ?_)
  · have hf := sn_if c_5 hf
    refine lv_lconst (v := 0) hx hb dX9_layPuffs_212 rfl ?_
    exact wX9_layPuffs_213 C  hf kc kx _ _ _ hw (lv_sub hl [0, 1, 2, 3, 4] rfl)
  · have hf := sn_el c_5 hf
    refine lv_lload hx hb dX9_layPuffs_207 (lv_at hl 5 rfl) ?_
    refine lv_goto (tgt := 213) hx hb dX9_layPuffs_209 (by decide) ?_
    exact wX9_layPuffs_213 C  hf kc kx _ _ _ hw (lv_sub hl [0, 1, 2, 3, 4] rfl)
theorem wX9_layPuffs_158 (C : sn_C p s m args meth c RX9 cX9_layPuffs 8 none D ct ad layM) {σ : sn_S} {x1 : Int32} {x2 : Int32} {x3 : Int32} {x4 : Int32} {x5 : Int64} {t1 : Int64} {t2 : Int64}  {o : (sn_S × Int32) ⊕ (sn_S)} (hf : BX9_layPuffs_158 σ x1 x2 x3 x4 x5 t1 t2 = some o) (kc : ∀ v, o = .inl v → sn_At p l e rmX9_layPuffs s m args below meth c Q D ct ad layM 8 v.1 23 [(0, .ref (ad 0)), (1, .int x1), (2, .int x2), (3, .int x3), (4, .int v.2)] []) (kx : ∀ v, o = .inr v → sn_At p l e rmX9_layPuffs s m args below meth c Q D ct ad layM 8 v 223 [] []) : sn_At p l e rmX9_layPuffs s m args below meth c Q D ct ad layM 8 σ 158 [(0, .ref (ad 0)), (1, .int x1), (2, .int x2), (3, .int x3), (4, .int x4), (5, .long x5)] [.long t2, .long t1, .ref (ad 0)] := by
  intro H locs ls hw hl
  have hx := C.1
  have hb := C.2.1
  unfold BX9_layPuffs_158 at hf
  refine lv_ladd hx hb dX9_layPuffs_158 ?_
  refine sn_putL C hw fp_RX9_402 layM_0 rfl dX9_layPuffs_159 (fun H locs hw => ?_)
  obtain ⟨σ_1, e_2, hf⟩ := sn_ltE hf
  rw [← e_2] at hw
  refine lv_aload_n hx hb dX9_layPuffs_162 rfl (lv_at hl 0 rfl) ?_
  refine lv_dup hx hb dX9_layPuffs_163 rfl ?_
  refine sn_getL C hw fd_RX9_405 layM_0 rfl dX9_layPuffs_164 ?_
  refine lv_aload_n hx hb dX9_layPuffs_167 rfl (lv_at hl 0 rfl) ?_
  refine sn_getC (r := 1) C hw fd_RX9_9 layM_0 rfl dX9_layPuffs_168 ?_
  refine lv_bipush (v := 8) hx hb dX9_layPuffs_171 (by decide) ?_
  obtain ⟨g_3, hf⟩ := sn_gdE hf
  refine sn_iald C hw layM_1 g_3 dX9_layPuffs_173 ?_
  refine lv_if_le (tgt := 189) hx hb dX9_layPuffs_174 (by decide) (fun c_4 => ?_) (fun c_4 => ?_)
  · have hf := sn_if c_4 hf
    refine lv_lconst (v := 0) hx hb dX9_layPuffs_189 rfl ?_
    exact wX9_layPuffs_190 C  hf kc kx _ _ _ hw (lv_sub hl [0, 1, 2, 3, 4, 5] rfl)
  · have hf := sn_el c_4 hf
    refine lv_lload hx hb dX9_layPuffs_177 (lv_at hl 5 rfl) ?_
    refine lv_aload_n hx hb dX9_layPuffs_179 rfl (lv_at hl 0 rfl) ?_
    refine lv_iload_n hx hb dX9_layPuffs_180 rfl (lv_at hl 3 rfl) ?_
    obtain ⟨t_5, h_6, hf⟩ := sn_bd hf
    refine sn_callVi (rest := [.long x5, .long (sn_L σ_1 0 40), .ref (ad 0)]) C hw (ctX9_claimOf_ l  h_6) kl_RX9_326 layM_0 rfl rfl rfl rfl (Nat.le_of_ble_eq_true rfl) dX9_layPuffs_181 hl.1 (fun H locs hw => ?_)
    refine lv_i2l hx hb dX9_layPuffs_184 rfl ?_
    refine lv_lmul hx hb dX9_layPuffs_185 ?_
    refine lv_goto (tgt := 190) hx hb dX9_layPuffs_186 (by decide) ?_
    exact wX9_layPuffs_190 C  hf kc kx _ _ _ hw (lv_sub hl [0, 1, 2, 3, 4, 5] rfl)
theorem wX9_layPuffs_113 (C : sn_C p s m args meth c RX9 cX9_layPuffs 8 none D ct ad layM) {σ : sn_S} {x1 : Int32} {x2 : Int32} {x3 : Int32} {x4 : Int32} {x5 : Int64}  {o : (sn_S × Int32) ⊕ (sn_S)} (hf : BX9_layPuffs_113 σ x1 x2 x3 x4 x5 = some o) (kc : ∀ v, o = .inl v → sn_At p l e rmX9_layPuffs s m args below meth c Q D ct ad layM 8 v.1 23 [(0, .ref (ad 0)), (1, .int x1), (2, .int x2), (3, .int x3), (4, .int v.2)] []) (kx : ∀ v, o = .inr v → sn_At p l e rmX9_layPuffs s m args below meth c Q D ct ad layM 8 v 223 [] []) : sn_At p l e rmX9_layPuffs s m args below meth c Q D ct ad layM 8 σ 113 [(0, .ref (ad 0)), (1, .int x1), (2, .int x2), (3, .int x3), (4, .int x4), (5, .long x5)] [] := by
  intro H locs ls hw hl
  have hx := C.1
  have hb := C.2.1
  unfold BX9_layPuffs_113 at hf
  refine lv_lload hx hb dX9_layPuffs_113 (lv_at hl 5 rfl) ?_
  refine lv_lconst (v := 0) hx hb dX9_layPuffs_115 rfl ?_
  refine W.lcmp hx hb dX9_layPuffs_116 ?_
  refine lv_if_ne (tgt := 123) hx hb dX9_layPuffs_117 (by decide) (fun c_1 => ?_) (fun c_1 => ?_)
  · have hf := sn_el c_1 hf
    refine lv_aload_n hx hb dX9_layPuffs_123 rfl (lv_at hl 0 rfl) ?_
    obtain ⟨t_2, h_3, hf⟩ := sn_bd hf
    refine sn_callVv (rest := []) C hw (ctX9_goAll l  h_3) kl_RX9_266 layM_0 rfl rfl rfl rfl (Nat.le_of_ble_eq_true rfl) dX9_layPuffs_124 hl.1 (fun H locs hw => ?_)
    refine lv_aload_n hx hb dX9_layPuffs_127 rfl (lv_at hl 0 rfl) ?_
    refine lv_dup hx hb dX9_layPuffs_128 rfl ?_
    refine sn_getL C hw fd_RX9_398 layM_0 rfl dX9_layPuffs_129 ?_
    refine lv_lload hx hb dX9_layPuffs_132 (lv_at hl 5 rfl) ?_
    refine lv_ladd hx hb dX9_layPuffs_134 ?_
    refine sn_putL C hw fp_RX9_398 layM_0 rfl dX9_layPuffs_135 (fun H locs hw => ?_)
    obtain ⟨σ_4, e_5, hf⟩ := sn_ltE hf
    rw [← e_5] at hw
    refine lv_aload_n hx hb dX9_layPuffs_138 rfl (lv_at hl 0 rfl) ?_
    refine lv_dup hx hb dX9_layPuffs_139 rfl ?_
    refine sn_getL C hw fd_RX9_402 layM_0 rfl dX9_layPuffs_140 ?_
    refine lv_aload_n hx hb dX9_layPuffs_143 rfl (lv_at hl 0 rfl) ?_
    refine sn_getC (r := 10) C hw fd_RX9_43 layM_0 rfl dX9_layPuffs_144 ?_
    refine lv_iload_n hx hb dX9_layPuffs_147 rfl (lv_at hl 2 rfl) ?_
    obtain ⟨g_6, hf⟩ := sn_gdE hf
    refine sn_iald C hw layM_10 g_6 dX9_layPuffs_148 ?_
    refine lv_if_eq (tgt := 157) hx hb dX9_layPuffs_149 (by decide) (fun c_7 => ?_) (fun c_7 => ?_)
    · have hf := sn_if c_7 hf
      refine lv_lconst (v := 0) hx hb dX9_layPuffs_157 rfl ?_
      exact wX9_layPuffs_158 C  hf kc kx _ _ _ hw (lv_sub hl [0, 1, 2, 3, 4, 5] rfl)
    · have hf := sn_el c_7 hf
      refine lv_lload hx hb dX9_layPuffs_152 (lv_at hl 5 rfl) ?_
      refine lv_goto (tgt := 158) hx hb dX9_layPuffs_154 (by decide) ?_
      exact wX9_layPuffs_158 C  hf kc kx _ _ _ hw (lv_sub hl [0, 1, 2, 3, 4, 5] rfl)
  · have hf := sn_if c_1 hf
    refine lv_goto (tgt := 217) hx hb dX9_layPuffs_120 (by decide) ?_
    exact wX9_layPuffs_217 C  hf kc kx _ _ _ hw (lv_sub hl [0, 1, 2, 3, 4] rfl)
theorem wX9_layPuffs_104 (C : sn_C p s m args meth c RX9 cX9_layPuffs 8 none D ct ad layM) {σ : sn_S} {x1 : Int32} {x2 : Int32} {x3 : Int32} {x4 : Int32} {x5 : Int64} {x7 : Int32} {t0 : Int64} {t1 : Int64}  {o : (sn_S × Int64 × Int32) ⊕ (sn_S × Int64)} (hf : BX9_layPuffs_104 σ x1 x2 x3 x4 x5 x7 t0 t1 = some o) (kc : ∀ v, o = .inl v → sn_At p l e rmX9_layPuffs s m args below meth c Q D ct ad layM 8 v.1 46 [(0, .ref (ad 0)), (1, .int x1), (2, .int x2), (3, .int x3), (4, .int x4), (5, .long v.2.1), (7, .int v.2.2)] []) (kx : ∀ v, o = .inr v → sn_At p l e rmX9_layPuffs s m args below meth c Q D ct ad layM 8 v.1 113 [(0, .ref (ad 0)), (1, .int x1), (2, .int x2), (3, .int x3), (4, .int x4), (5, .long v.2)] []) : sn_At p l e rmX9_layPuffs s m args below meth c Q D ct ad layM 8 σ 104 [(0, .ref (ad 0)), (1, .int x1), (2, .int x2), (3, .int x3), (4, .int x4), (5, .long x5), (7, .int x7)] [.long t1, .long t0] := by
  intro H locs ls hw hl
  have hx := C.1
  have hb := C.2.1
  unfold BX9_layPuffs_104 at hf
  refine lv_lmul hx hb dX9_layPuffs_104 ?_
  obtain ⟨y_1, e_2, hf⟩ := sn_ltE hf
  refine lv_topl (fun y_1_ e_2_ => ?_)
  obtain rfl : y_1 = y_1_ := e_2.trans e_2_.symm
  refine lv_lstore (lv' := [(5, .long y_1), (0, .ref (ad 0)), (1, .int x1), (2, .int x2), (3, .int x3), (4, .int x4), (7, .int x7)]) hx hb dX9_layPuffs_105 hl (by decide) rfl (fun ls hl => ?_)
  obtain ⟨y_3, e_4, hf⟩ := sn_ltE hf
  refine lv_iinc (v := y_3) (lv' := [(7, .int y_3), (5, .long y_1), (0, .ref (ad 0)), (1, .int x1), (2, .int x2), (3, .int x3), (4, .int x4)]) hx hb dX9_layPuffs_107 hl (k := 6) rfl (by rw [e_4]; rfl) (by decide) rfl (fun ls hl => ?_)
  refine lv_goto (tgt := 46) hx hb dX9_layPuffs_110 (by decide) ?_
  cases hf
  exact kc _ rfl _ _ _ hw (lv_sub hl [2, 3, 4, 5, 6, 1, 0] rfl)
theorem wX9_layPuffs_46 (C : sn_C p s m args meth c RX9 cX9_layPuffs 8 none D ct ad layM) {σ : sn_S} {x1 : Int32} {x2 : Int32} {x3 : Int32} {x4 : Int32} {x5 : Int64} {x7 : Int32}  {o : (sn_S × Int64 × Int32) ⊕ (sn_S × Int64)} (hf : BX9_layPuffs_46 σ x1 x2 x3 x4 x5 x7 = some o) (kc : ∀ v, o = .inl v → sn_At p l e rmX9_layPuffs s m args below meth c Q D ct ad layM 8 v.1 46 [(0, .ref (ad 0)), (1, .int x1), (2, .int x2), (3, .int x3), (4, .int x4), (5, .long v.2.1), (7, .int v.2.2)] []) (kx : ∀ v, o = .inr v → sn_At p l e rmX9_layPuffs s m args below meth c Q D ct ad layM 8 v.1 113 [(0, .ref (ad 0)), (1, .int x1), (2, .int x2), (3, .int x3), (4, .int x4), (5, .long v.2)] []) : sn_At p l e rmX9_layPuffs s m args below meth c Q D ct ad layM 8 σ 46 [(0, .ref (ad 0)), (1, .int x1), (2, .int x2), (3, .int x3), (4, .int x4), (5, .long x5), (7, .int x7)] [] := by
  intro H locs ls hw hl
  have hx := C.1
  have hb := C.2.1
  unfold BX9_layPuffs_46 at hf
  refine lv_iload hx hb dX9_layPuffs_46 (lv_at hl 6 rfl) ?_
  refine lv_iload_n hx hb dX9_layPuffs_48 rfl (lv_at hl 1 rfl) ?_
  refine lv_icmp_gt (tgt := 113) hx hb dX9_layPuffs_49 (by decide) (fun c_1 => ?_) (fun c_1 => ?_)
  · have hf := sn_if c_1 hf
    cases hf
    exact kx _ rfl _ _ _ hw (lv_sub hl [0, 1, 2, 3, 4, 5] rfl)
  · have hf := sn_el c_1 hf
    refine lv_aload_n hx hb dX9_layPuffs_52 rfl (lv_at hl 0 rfl) ?_
    refine sn_getC (r := 7) C hw fd_RX9_34 layM_0 rfl dX9_layPuffs_53 ?_
    refine lv_iload hx hb dX9_layPuffs_56 (lv_at hl 6 rfl) ?_
    refine lv_dup2_11 hx hb dX9_layPuffs_58 rfl rfl ?_
    obtain ⟨g_2, hf⟩ := sn_gdE hf
    refine sn_iald C hw layM_7 g_2 dX9_layPuffs_59 ?_
    refine lv_iconst (v := 3) hx hb dX9_layPuffs_60 rfl ?_
    refine lv_iload hx hb dX9_layPuffs_61 (lv_at hl 4 rfl) ?_
    refine lv_iload hx hb dX9_layPuffs_63 (lv_at hl 6 rfl) ?_
    obtain ⟨t_3, h_4, hf⟩ := sn_bd hf
    refine sn_callSi (rest := [.int (3 : Int32), .int (sn_I σ 7 x7.toNatClampNeg), .int x7, .ref (ad 7)]) C hw (ctX9_bit l  h_4) kl_RX9_254 rfl rfl rfl (Nat.le_of_ble_eq_true rfl) dX9_layPuffs_65 hl.1 (fun H locs hw => ?_)
    refine lv_imul hx hb dX9_layPuffs_68 ?_
    refine lv_iadd hx hb dX9_layPuffs_69 ?_
    obtain ⟨g_5, hf⟩ := sn_gdE hf
    refine sn_iast C hw layM_7 g_5 dX9_layPuffs_70 (fun H locs hw => ?_)
    obtain ⟨σ_6, e_7, hf⟩ := sn_ltE hf
    rw [← e_7] at hw
    refine lv_lload hx hb dX9_layPuffs_71 (lv_at hl 5 rfl) ?_
    refine lv_iload hx hb dX9_layPuffs_73 (lv_at hl 4 rfl) ?_
    refine lv_iload hx hb dX9_layPuffs_75 (lv_at hl 6 rfl) ?_
    obtain ⟨t_8, h_9, hf⟩ := sn_bd hf
    refine sn_callSi (rest := [.long x5]) C hw (ctX9_bit l  h_9) kl_RX9_254 rfl rfl rfl (Nat.le_of_ble_eq_true rfl) dX9_layPuffs_77 hl.1 (fun H locs hw => ?_)
    refine lv_iconst (v := 1) hx hb dX9_layPuffs_80 rfl ?_
    refine lv_icmp_ne (tgt := 94) hx hb dX9_layPuffs_81 (by decide) (fun c_10 => ?_) (fun c_10 => ?_)
    · have hf := sn_el c_10 hf
      refine lv_bipush (v := 10) hx hb dX9_layPuffs_94 (by decide) ?_
      refine lv_aload_n hx hb dX9_layPuffs_96 rfl (lv_at hl 0 rfl) ?_
      refine sn_getC (r := 1) C hw fd_RX9_9 layM_0 rfl dX9_layPuffs_97 ?_
      refine lv_iconst (v := 4) hx hb dX9_layPuffs_100 rfl ?_
      obtain ⟨g_11, hf⟩ := sn_gdE hf
      refine sn_iald C hw layM_1 g_11 dX9_layPuffs_101 ?_
      refine lv_isub hx hb dX9_layPuffs_102 ?_
      refine lv_i2l hx hb dX9_layPuffs_103 rfl ?_
      exact wX9_layPuffs_104 C  hf kc kx _ _ _ hw (lv_sub hl [0, 1, 2, 3, 4, 5, 6] rfl)
    · have hf := sn_if c_10 hf
      refine lv_aload_n hx hb dX9_layPuffs_84 rfl (lv_at hl 0 rfl) ?_
      refine sn_getC (r := 1) C hw fd_RX9_9 layM_0 rfl dX9_layPuffs_85 ?_
      refine lv_iconst (v := 4) hx hb dX9_layPuffs_88 rfl ?_
      obtain ⟨g_12, hf⟩ := sn_gdE hf
      refine sn_iald C hw layM_1 g_12 dX9_layPuffs_89 ?_
      refine lv_i2l hx hb dX9_layPuffs_90 rfl ?_
      refine lv_goto (tgt := 104) hx hb dX9_layPuffs_91 (by decide) ?_
      exact wX9_layPuffs_104 C  hf kc kx _ _ _ hw (lv_sub hl [0, 1, 2, 3, 4, 5, 6] rfl)
theorem wX9_layPuffs_L46 (C : sn_C p s m args meth c RX9 cX9_layPuffs 8 none D ct ad layM) {x1 : Int32} {x2 : Int32} {x3 : Int32} {x4 : Int32}   {z : sn_S × Int64 × Int32} {t : sn_S × Int64} (h : sn_it (LX9_layPuffs_46 x1 x2 x3 x4) 5000 z = some t) (kx : ∀ v, t = v → sn_At p l e rmX9_layPuffs s m args below meth c Q D ct ad layM 8 v.1 113 [(0, .ref (ad 0)), (1, .int x1), (2, .int x2), (3, .int x3), (4, .int x4), (5, .long v.2)] []) : sn_At p l e rmX9_layPuffs s m args below meth c Q D ct ad layM 8 z.1 46 [(0, .ref (ad 0)), (1, .int x1), (2, .int x2), (3, .int x3), (4, .int x4), (5, .long z.2.1), (7, .int z.2.2)] [] :=
  sn_loop (f := LX9_layPuffs_46 x1 x2 x3 x4) (G := fun z => sn_At p l e rmX9_layPuffs s m args below meth c Q D ct ad layM 8 z.1 46 [(0, .ref (ad 0)), (1, .int x1), (2, .int x2), (3, .int x3), (4, .int x4), (5, .long z.2.1), (7, .int z.2.2)] []) (E := fun t => (∀ v, t = v → sn_At p l e rmX9_layPuffs s m args below meth c Q D ct ad layM 8 v.1 113 [(0, .ref (ad 0)), (1, .int x1), (2, .int x2), (3, .int x3), (4, .int x4), (5, .long v.2)] []) ∧ True) (fun z o hf k1 k2 => wX9_layPuffs_46 C  hf (fun v e => k1 v e) (fun v e => (k2 _ e).1 v rfl)) 5000 z t h ⟨kx, trivial⟩
theorem wX9_layPuffs_23 (C : sn_C p s m args meth c RX9 cX9_layPuffs 8 none D ct ad layM) {σ : sn_S} {x1 : Int32} {x2 : Int32} {x3 : Int32} {x4 : Int32}  {o : (sn_S × Int32) ⊕ (sn_S)} (hf : BX9_layPuffs_23 σ x1 x2 x3 x4 = some o) (kc : ∀ v, o = .inl v → sn_At p l e rmX9_layPuffs s m args below meth c Q D ct ad layM 8 v.1 23 [(0, .ref (ad 0)), (1, .int x1), (2, .int x2), (3, .int x3), (4, .int v.2)] []) (kx : ∀ v, o = .inr v → sn_At p l e rmX9_layPuffs s m args below meth c Q D ct ad layM 8 v 223 [] []) : sn_At p l e rmX9_layPuffs s m args below meth c Q D ct ad layM 8 σ 23 [(0, .ref (ad 0)), (1, .int x1), (2, .int x2), (3, .int x3), (4, .int x4)] [] := by
  intro H locs ls hw hl
  have hx := C.1
  have hb := C.2.1
  unfold BX9_layPuffs_23 at hf
  refine lv_iload hx hb dX9_layPuffs_23 (lv_at hl 4 rfl) ?_
  refine lv_iconst (v := 2) hx hb dX9_layPuffs_25 rfl ?_
  refine lv_iload_n hx hb dX9_layPuffs_26 rfl (lv_at hl 1 rfl) ?_
  refine lv_ishl hx hb dX9_layPuffs_27 ?_
  refine lv_icmp_ge (tgt := 223) hx hb dX9_layPuffs_28 (by decide) (fun c_1 => ?_) (fun c_1 => ?_)
  · have hf := sn_if c_1 hf
    cases hf
    exact kx _ rfl _ _ _ hw (lv_sub hl [] rfl)
  · have hf := sn_el c_1 hf
    refine lv_lconst (v := 1) hx hb dX9_layPuffs_31 rfl ?_
    refine lv_lstore (lv' := [(5, .long (1 : Int64)), (0, .ref (ad 0)), (1, .int x1), (2, .int x2), (3, .int x3), (4, .int x4)]) hx hb dX9_layPuffs_32 hl (by decide) rfl (fun ls hl => ?_)
    refine lv_aload_n hx hb dX9_layPuffs_34 rfl (lv_at hl 1 rfl) ?_
    obtain ⟨t_2, h_3, hf⟩ := sn_bd hf
    refine sn_callVv (rest := []) C hw (ctX9_asItIs l  h_3) kl_RX9_263 layM_0 rfl rfl rfl rfl (Nat.le_of_ble_eq_true rfl) dX9_layPuffs_35 hl.1 (fun H locs hw => ?_)
    refine lv_aload_n hx hb dX9_layPuffs_38 rfl (lv_at hl 1 rfl) ?_
    refine lv_iload_n hx hb dX9_layPuffs_39 rfl (lv_at hl 2 rfl) ?_
    refine sn_putI C hw fp_RX9_251 layM_0 rfl dX9_layPuffs_40 (fun H locs hw => ?_)
    obtain ⟨σ_4, e_5, hf⟩ := sn_ltE hf
    rw [← e_5] at hw
    refine lv_iconst (v := 0) hx hb dX9_layPuffs_43 rfl ?_
    refine lv_istore (lv' := [(7, .int (0 : Int32)), (5, .long (1 : Int64)), (0, .ref (ad 0)), (1, .int x1), (2, .int x2), (3, .int x3), (4, .int x4)]) hx hb dX9_layPuffs_44 hl (by decide) rfl (fun ls hl => ?_)
    obtain ⟨t_6, h_7, hf⟩ := sn_bd hf
    exact wX9_layPuffs_L46 C  h_7 (fun v e => by cases e; exact wX9_layPuffs_113 C  hf kc kx) _ _ _ hw (lv_sub hl [2, 3, 4, 5, 6, 1, 0] rfl)
theorem wX9_layPuffs_L23 (C : sn_C p s m args meth c RX9 cX9_layPuffs 8 none D ct ad layM) {x1 : Int32} {x2 : Int32} {x3 : Int32}   {z : sn_S × Int32} {t : sn_S} (h : sn_it (LX9_layPuffs_23 x1 x2 x3) 5000 z = some t) (kx : ∀ v, t = v → sn_At p l e rmX9_layPuffs s m args below meth c Q D ct ad layM 8 v 223 [] []) : sn_At p l e rmX9_layPuffs s m args below meth c Q D ct ad layM 8 z.1 23 [(0, .ref (ad 0)), (1, .int x1), (2, .int x2), (3, .int x3), (4, .int z.2)] [] :=
  sn_loop (f := LX9_layPuffs_23 x1 x2 x3) (G := fun z => sn_At p l e rmX9_layPuffs s m args below meth c Q D ct ad layM 8 z.1 23 [(0, .ref (ad 0)), (1, .int x1), (2, .int x2), (3, .int x3), (4, .int z.2)] []) (E := fun t => (∀ v, t = v → sn_At p l e rmX9_layPuffs s m args below meth c Q D ct ad layM 8 v 223 [] []) ∧ True) (fun z o hf k1 k2 => wX9_layPuffs_23 C  hf (fun v e => k1 v e) (fun v e => (k2 _ e).1 v rfl)) 5000 z t h ⟨kx, trivial⟩
theorem wX9_layPuffs_in (C : sn_C p s m args meth c RX9 cX9_layPuffs 8 none D ct ad layM) {σ : sn_S} {x1 : Int32} {x2 : Int32} {x3 : Int32}  {o : sn_S} (hf : fX9_layPuffs σ x1 x2 x3 = some o) (kr : sn_Kr p l e rmX9_layPuffs s m args below meth c Q D ct ad layM cX9_layPuffs .return_ (true) o []) : sn_At p l e rmX9_layPuffs s m args below meth c Q D ct ad layM 8 σ 0 [(0, .ref (ad 0)), (1, .int x1), (2, .int x2), (3, .int x3)] [] := by
  intro H locs ls hw hl
  have hx := C.1
  have hb := C.2.1
  unfold fX9_layPuffs at hf
  refine lv_aload_n hx hb dX9_layPuffs_0 rfl (lv_at hl 0 rfl) ?_
  refine lv_lconst (v := 0) hx hb dX9_layPuffs_1 rfl ?_
  refine sn_putL C hw fp_RX9_398 layM_0 rfl dX9_layPuffs_2 (fun H locs hw => ?_)
  obtain ⟨σ_1, e_2, hf⟩ := sn_ltE hf
  rw [← e_2] at hw
  refine lv_aload_n hx hb dX9_layPuffs_5 rfl (lv_at hl 0 rfl) ?_
  refine lv_lconst (v := 0) hx hb dX9_layPuffs_6 rfl ?_
  refine sn_putL C hw fp_RX9_402 layM_0 rfl dX9_layPuffs_7 (fun H locs hw => ?_)
  obtain ⟨σ_3, e_4, hf⟩ := sn_ltE hf
  rw [← e_4] at hw
  refine lv_aload_n hx hb dX9_layPuffs_10 rfl (lv_at hl 0 rfl) ?_
  refine lv_lconst (v := 0) hx hb dX9_layPuffs_11 rfl ?_
  refine sn_putL C hw fp_RX9_405 layM_0 rfl dX9_layPuffs_12 (fun H locs hw => ?_)
  obtain ⟨σ_5, e_6, hf⟩ := sn_ltE hf
  rw [← e_6] at hw
  refine lv_aload_n hx hb dX9_layPuffs_15 rfl (lv_at hl 0 rfl) ?_
  refine lv_lconst (v := 0) hx hb dX9_layPuffs_16 rfl ?_
  refine sn_putL C hw fp_RX9_408 layM_0 rfl dX9_layPuffs_17 (fun H locs hw => ?_)
  obtain ⟨σ_7, e_8, hf⟩ := sn_ltE hf
  rw [← e_8] at hw
  refine lv_iconst (v := 0) hx hb dX9_layPuffs_20 rfl ?_
  refine lv_istore (lv' := [(4, .int (0 : Int32)), (0, .ref (ad 0)), (1, .int x1), (2, .int x2), (3, .int x3)]) hx hb dX9_layPuffs_21 hl (by decide) rfl (fun ls hl => ?_)
  obtain ⟨t_9, h_10, hf⟩ := sn_bd hf
  exact wX9_layPuffs_L23 C  h_10 (fun v e => by cases e; exact wX9_layPuffs_223 C  hf kr) _ _ _ hw (lv_sub hl [1, 2, 3, 4, 0] rfl)
theorem ctX9_layPuffs (l : Launch) {σ : sn_S} {x1 : Int32} {x2 : Int32} {x3 : Int32}  {o : sn_S} (hf : fX9_layPuffs σ x1 x2 x3 = some o) : sn_M l yX9_layPuffs cX9_layPuffs 8 none rmX9_layPuffs layM (fun ad => [.ref (ad 0), .int x1, .int x2, .int x3]) σ none o :=
  sn_met (by decide) (fun _ => Nat.le_of_ble_eq_true rfl) (fun p e s m args below meth c ls D ct ad C hw hl => wX9_layPuffs_in C  hf (fun H locs ls pc hw ok hd => sn_vret C hw hd) _ _ _ hw hl)
-- X9_isPuffs
abbrev rmX9_isPuffs : Room := { frames := 2, cells := 0, slots := 0, locals := 47 }
def fX9_isPuffs (σ : sn_S) (x1 : Int32) (x2 : Int32) : Option Int32 :=
  ((fX9_isMinute σ x1.toInt64).bind fun t_1 => (if t_1 = 0 then
  (sn_gd (sn_b01 (0 : Int32)) (some (0 : Int32)))
  else
  ((fX9_in x1.toInt64 (0 : Int64) (7 : Int64)).bind fun t_5 => (if t_5 = 0 then
  (sn_gd (sn_b01 (0 : Int32)) (some (0 : Int32)))
  else
  ((fX9_in x2.toInt64 (0 : Int64) (1 : Int64)).bind fun t_9 => (if t_9 = 0 then
  (sn_gd (sn_b01 (0 : Int32)) (some (0 : Int32)))
  else
  (sn_gd (sn_b01 (1 : Int32)) (some (1 : Int32)))))))))
theorem wX9_isPuffs_in (C : sn_C p s m args meth c RX9 cX9_isPuffs 3 (some .boolean) D ct ad layM) {σ : sn_S} {x1 : Int32} {x2 : Int32}  {o : Int32} (hf : fX9_isPuffs σ x1 x2 = some o) (kr : sn_Kr p l e rmX9_isPuffs s m args below meth c Q D ct ad layM cX9_isPuffs .ireturn (sn_b01 o) σ [.int o]) : sn_At p l e rmX9_isPuffs s m args below meth c Q D ct ad layM 3 σ 0 [(0, .ref (ad 0)), (1, .int x1), (2, .int x2)] [] := by
  intro H locs ls hw hl
  have hx := C.1
  have hb := C.2.1
  unfold fX9_isPuffs at hf
  refine lv_aload_n hx hb dX9_isPuffs_0 rfl (lv_at hl 0 rfl) ?_
  refine lv_iload_n hx hb dX9_isPuffs_1 rfl (lv_at hl 1 rfl) ?_
  refine lv_i2l hx hb dX9_isPuffs_2 rfl ?_
  obtain ⟨t_1, h_2, hf⟩ := sn_bd hf
  refine sn_callVi (rest := []) C hw (ctX9_isMinute l  h_2) kl_RX9_275 layM_0 rfl rfl rfl rfl (Nat.le_of_ble_eq_true rfl) dX9_isPuffs_3 hl.1 (fun H locs hw => ?_)
  refine lv_if_eq (tgt := 35) hx hb dX9_isPuffs_6 (by decide) (fun c_3 => ?_) (fun c_3 => ?_)
  · have hf := sn_if c_3 hf
    refine lv_iconst (v := 0) hx hb dX9_isPuffs_35 rfl ?_
    obtain ⟨g_4, hf⟩ := sn_gdE hf
    cases hf
    exact kr _ _ _ _ hw g_4 dX9_isPuffs_36
  · have hf := sn_el c_3 hf
    refine lv_iload_n hx hb dX9_isPuffs_9 rfl (lv_at hl 1 rfl) ?_
    refine lv_i2l hx hb dX9_isPuffs_10 rfl ?_
    refine lv_lconst (v := 0) hx hb dX9_isPuffs_11 rfl ?_
    refine lv_ldc2 hx hb C.2.2.2.1 (C.2.2.2.2.1 _ kk_RX9_411) dX9_isPuffs_12 ?_
    obtain ⟨t_5, h_6, hf⟩ := sn_bd hf
    refine sn_callSi (rest := []) C hw (ctX9_in l  h_6) kl_RX9_94 rfl rfl rfl (Nat.le_of_ble_eq_true rfl) dX9_isPuffs_15 hl.1 (fun H locs hw => ?_)
    refine lv_if_eq (tgt := 35) hx hb dX9_isPuffs_18 (by decide) (fun c_7 => ?_) (fun c_7 => ?_)
    · have hf := sn_if c_7 hf
      refine lv_iconst (v := 0) hx hb dX9_isPuffs_35 rfl ?_
      obtain ⟨g_8, hf⟩ := sn_gdE hf
      cases hf
      exact kr _ _ _ _ hw g_8 dX9_isPuffs_36
    · have hf := sn_el c_7 hf
      refine lv_iload_n hx hb dX9_isPuffs_21 rfl (lv_at hl 2 rfl) ?_
      refine lv_i2l hx hb dX9_isPuffs_22 rfl ?_
      refine lv_lconst (v := 0) hx hb dX9_isPuffs_23 rfl ?_
      refine lv_lconst (v := 1) hx hb dX9_isPuffs_24 rfl ?_
      obtain ⟨t_9, h_10, hf⟩ := sn_bd hf
      refine sn_callSi (rest := []) C hw (ctX9_in l  h_10) kl_RX9_94 rfl rfl rfl (Nat.le_of_ble_eq_true rfl) dX9_isPuffs_25 hl.1 (fun H locs hw => ?_)
      refine lv_if_eq (tgt := 35) hx hb dX9_isPuffs_28 (by decide) (fun c_11 => ?_) (fun c_11 => ?_)
      · have hf := sn_if c_11 hf
        refine lv_iconst (v := 0) hx hb dX9_isPuffs_35 rfl ?_
        obtain ⟨g_12, hf⟩ := sn_gdE hf
        cases hf
        exact kr _ _ _ _ hw g_12 dX9_isPuffs_36
      · have hf := sn_el c_11 hf
        refine lv_iconst (v := 1) hx hb dX9_isPuffs_31 rfl ?_
        refine lv_goto (tgt := 36) hx hb dX9_isPuffs_32 (by decide) ?_
        obtain ⟨g_13, hf⟩ := sn_gdE hf
        cases hf
        exact kr _ _ _ _ hw g_13 dX9_isPuffs_36
theorem ctX9_isPuffs (l : Launch) {σ : sn_S} {x1 : Int32} {x2 : Int32}  {o : Int32} (hf : fX9_isPuffs σ x1 x2 = some o) : sn_M l yX9_isPuffs cX9_isPuffs 3 (some .boolean) rmX9_isPuffs layM (fun ad => [.ref (ad 0), .int x1, .int x2]) σ (some (fun _ => .int o)) σ :=
  sn_met (by decide) (fun _ => Nat.le_of_ble_eq_true rfl) (fun p e s m args below meth c ls D ct ad C hw hl => wX9_isPuffs_in C  hf (fun H locs ls pc hw ok hd => sn_zret C hw ok hd) _ _ _ hw hl)
-- X9_chance
abbrev rmX9_chance : Room := { frames := 6, cells := 0, slots := 0, locals := 144 }
def fX9_chance (σ : sn_S) (x1 : Int32) (x2 : Int32) (x3 : Int32) : Option (Int64 × sn_S) :=
  ((fX9_isPerson σ x1.toInt64).bind fun t_1 => (if t_1 = 0 then
  (some ((-2 : Int64), σ))
  else
  ((fX9_isPuffs σ x2 x3).bind fun t_4 => (if t_4 = 0 then
  (some ((-2 : Int64), σ))
  else
  ((fX9_layPuffs σ x2 x1 (0 : Int32)).bind fun t_7 => ((fX9_part (sn_L t_7 0 39) (sn_L t_7 0 38) x3).bind fun t_9 => (some (t_9, t_7))))))))
theorem wX9_chance_in (C : sn_C p s m args meth c RX9 cX9_chance 4 (some .long) D ct ad layM) {σ : sn_S} {x1 : Int32} {x2 : Int32} {x3 : Int32}  {o : (Int64 × sn_S)} (hf : fX9_chance σ x1 x2 x3 = some o) (kr : sn_Kr p l e rmX9_chance s m args below meth c Q D ct ad layM cX9_chance .lreturn (true) o.2 [.long o.1]) : sn_At p l e rmX9_chance s m args below meth c Q D ct ad layM 4 σ 0 [(0, .ref (ad 0)), (1, .int x1), (2, .int x2), (3, .int x3)] [] := by
  intro H locs ls hw hl
  have hx := C.1
  have hb := C.2.1
  unfold fX9_chance at hf
  refine lv_aload_n hx hb dX9_chance_0 rfl (lv_at hl 0 rfl) ?_
  refine lv_iload_n hx hb dX9_chance_1 rfl (lv_at hl 1 rfl) ?_
  refine lv_i2l hx hb dX9_chance_2 rfl ?_
  obtain ⟨t_1, h_2, hf⟩ := sn_bd hf
  refine sn_callVi (rest := []) C hw (ctX9_isPerson l  h_2) kl_RX9_224 layM_0 rfl rfl rfl rfl (Nat.le_of_ble_eq_true rfl) dX9_chance_3 hl.1 (fun H locs hw => ?_)
  refine lv_if_eq (tgt := 18) hx hb dX9_chance_6 (by decide) (fun c_3 => ?_) (fun c_3 => ?_)
  · have hf := sn_if c_3 hf
    refine lv_ldc2 hx hb C.2.2.2.1 (C.2.2.2.2.1 _ kk_RX9_416) dX9_chance_18 ?_
    cases hf
    exact kr _ _ _ _ hw rfl dX9_chance_21
  · have hf := sn_el c_3 hf
    refine lv_aload_n hx hb dX9_chance_9 rfl (lv_at hl 0 rfl) ?_
    refine lv_iload_n hx hb dX9_chance_10 rfl (lv_at hl 2 rfl) ?_
    refine lv_iload_n hx hb dX9_chance_11 rfl (lv_at hl 3 rfl) ?_
    obtain ⟨t_4, h_5, hf⟩ := sn_bd hf
    refine sn_callVi (rest := []) C hw (ctX9_isPuffs l  h_5) kl_RX9_413 layM_0 rfl rfl rfl rfl (Nat.le_of_ble_eq_true rfl) dX9_chance_12 hl.1 (fun H locs hw => ?_)
    refine lv_if_ne (tgt := 22) hx hb dX9_chance_15 (by decide) (fun c_6 => ?_) (fun c_6 => ?_)
    · have hf := sn_el c_6 hf
      refine lv_aload_n hx hb dX9_chance_22 rfl (lv_at hl 0 rfl) ?_
      refine lv_iload_n hx hb dX9_chance_23 rfl (lv_at hl 2 rfl) ?_
      refine lv_iload_n hx hb dX9_chance_24 rfl (lv_at hl 1 rfl) ?_
      refine lv_iconst (v := 0) hx hb dX9_chance_25 rfl ?_
      obtain ⟨t_7, h_8, hf⟩ := sn_bd hf
      refine sn_callVv (rest := []) C hw (ctX9_layPuffs l  h_8) kl_RX9_418 layM_0 rfl rfl rfl rfl (Nat.le_of_ble_eq_true rfl) dX9_chance_26 hl.1 (fun H locs hw => ?_)
      refine lv_aload_n hx hb dX9_chance_29 rfl (lv_at hl 0 rfl) ?_
      refine sn_getL C hw fd_RX9_402 layM_0 rfl dX9_chance_30 ?_
      refine lv_aload_n hx hb dX9_chance_33 rfl (lv_at hl 0 rfl) ?_
      refine sn_getL C hw fd_RX9_398 layM_0 rfl dX9_chance_34 ?_
      refine lv_iload_n hx hb dX9_chance_37 rfl (lv_at hl 3 rfl) ?_
      obtain ⟨t_9, h_10, hf⟩ := sn_bd hf
      refine sn_callSl (rest := []) C hw (ctX9_part l  h_10) kl_RX9_422 rfl rfl rfl (Nat.le_of_ble_eq_true rfl) dX9_chance_38 hl.1 (fun H locs hw => ?_)
      cases hf
      exact kr _ _ _ _ hw rfl dX9_chance_41
    · have hf := sn_if c_6 hf
      refine lv_ldc2 hx hb C.2.2.2.1 (C.2.2.2.2.1 _ kk_RX9_416) dX9_chance_18 ?_
      cases hf
      exact kr _ _ _ _ hw rfl dX9_chance_21
theorem ctX9_chance (l : Launch) {σ : sn_S} {x1 : Int32} {x2 : Int32} {x3 : Int32}  {o : (Int64 × sn_S)} (hf : fX9_chance σ x1 x2 x3 = some o) : sn_M l yX9_chance cX9_chance 4 (some .long) rmX9_chance layM (fun ad => [.ref (ad 0), .int x1, .int x2, .int x3]) σ (some (fun _ => .long o.1)) o.2 :=
  sn_met (by decide) (fun _ => Nat.le_of_ble_eq_true rfl) (fun p e s m args below meth c ls D ct ad C hw hl => wX9_chance_in C  hf (fun H locs ls pc hw ok hd => sn_lret C hw hd) _ _ _ hw hl)
-- X9_fair
abbrev rmX9_fair : Room := { frames := 6, cells := 0, slots := 0, locals := 144 }
def fX9_fair (σ : sn_S) (x1 : Int32) (x2 : Int32) (x3 : Int32) : Option (Int64 × sn_S) :=
  ((fX9_isPolicy σ x1).bind fun t_1 => (if t_1 = 0 then
  (some ((-2 : Int64), σ))
  else
  ((fX9_isPuffs σ x2 x3).bind fun t_4 => (if t_4 = 0 then
  (some ((-2 : Int64), σ))
  else
  ((fX9_layPuffs σ x2 (0 : Int32) x1).bind fun t_7 => ((fX9_part (sn_L t_7 0 40) (sn_L t_7 0 38) x3).bind fun t_9 => (some (t_9, t_7))))))))
theorem wX9_fair_in (C : sn_C p s m args meth c RX9 cX9_fair 4 (some .long) D ct ad layM) {σ : sn_S} {x1 : Int32} {x2 : Int32} {x3 : Int32}  {o : (Int64 × sn_S)} (hf : fX9_fair σ x1 x2 x3 = some o) (kr : sn_Kr p l e rmX9_fair s m args below meth c Q D ct ad layM cX9_fair .lreturn (true) o.2 [.long o.1]) : sn_At p l e rmX9_fair s m args below meth c Q D ct ad layM 4 σ 0 [(0, .ref (ad 0)), (1, .int x1), (2, .int x2), (3, .int x3)] [] := by
  intro H locs ls hw hl
  have hx := C.1
  have hb := C.2.1
  unfold fX9_fair at hf
  refine lv_aload_n hx hb dX9_fair_0 rfl (lv_at hl 0 rfl) ?_
  refine lv_iload_n hx hb dX9_fair_1 rfl (lv_at hl 1 rfl) ?_
  obtain ⟨t_1, h_2, hf⟩ := sn_bd hf
  refine sn_callVi (rest := []) C hw (ctX9_isPolicy l  h_2) kl_RX9_228 layM_0 rfl rfl rfl rfl (Nat.le_of_ble_eq_true rfl) dX9_fair_2 hl.1 (fun H locs hw => ?_)
  refine lv_if_eq (tgt := 17) hx hb dX9_fair_5 (by decide) (fun c_3 => ?_) (fun c_3 => ?_)
  · have hf := sn_if c_3 hf
    refine lv_ldc2 hx hb C.2.2.2.1 (C.2.2.2.2.1 _ kk_RX9_416) dX9_fair_17 ?_
    cases hf
    exact kr _ _ _ _ hw rfl dX9_fair_20
  · have hf := sn_el c_3 hf
    refine lv_aload_n hx hb dX9_fair_8 rfl (lv_at hl 0 rfl) ?_
    refine lv_iload_n hx hb dX9_fair_9 rfl (lv_at hl 2 rfl) ?_
    refine lv_iload_n hx hb dX9_fair_10 rfl (lv_at hl 3 rfl) ?_
    obtain ⟨t_4, h_5, hf⟩ := sn_bd hf
    refine sn_callVi (rest := []) C hw (ctX9_isPuffs l  h_5) kl_RX9_413 layM_0 rfl rfl rfl rfl (Nat.le_of_ble_eq_true rfl) dX9_fair_11 hl.1 (fun H locs hw => ?_)
    refine lv_if_ne (tgt := 21) hx hb dX9_fair_14 (by decide) (fun c_6 => ?_) (fun c_6 => ?_)
    · have hf := sn_el c_6 hf
      refine lv_aload_n hx hb dX9_fair_21 rfl (lv_at hl 0 rfl) ?_
      refine lv_iload_n hx hb dX9_fair_22 rfl (lv_at hl 2 rfl) ?_
      refine lv_iconst (v := 0) hx hb dX9_fair_23 rfl ?_
      refine lv_iload_n hx hb dX9_fair_24 rfl (lv_at hl 1 rfl) ?_
      obtain ⟨t_7, h_8, hf⟩ := sn_bd hf
      refine sn_callVv (rest := []) C hw (ctX9_layPuffs l  h_8) kl_RX9_418 layM_0 rfl rfl rfl rfl (Nat.le_of_ble_eq_true rfl) dX9_fair_25 hl.1 (fun H locs hw => ?_)
      refine lv_aload_n hx hb dX9_fair_28 rfl (lv_at hl 0 rfl) ?_
      refine sn_getL C hw fd_RX9_405 layM_0 rfl dX9_fair_29 ?_
      refine lv_aload_n hx hb dX9_fair_32 rfl (lv_at hl 0 rfl) ?_
      refine sn_getL C hw fd_RX9_398 layM_0 rfl dX9_fair_33 ?_
      refine lv_iload_n hx hb dX9_fair_36 rfl (lv_at hl 3 rfl) ?_
      obtain ⟨t_9, h_10, hf⟩ := sn_bd hf
      refine sn_callSl (rest := []) C hw (ctX9_part l  h_10) kl_RX9_422 rfl rfl rfl (Nat.le_of_ble_eq_true rfl) dX9_fair_37 hl.1 (fun H locs hw => ?_)
      cases hf
      exact kr _ _ _ _ hw rfl dX9_fair_40
    · have hf := sn_if c_6 hf
      refine lv_ldc2 hx hb C.2.2.2.1 (C.2.2.2.2.1 _ kk_RX9_416) dX9_fair_17 ?_
      cases hf
      exact kr _ _ _ _ hw rfl dX9_fair_20
theorem ctX9_fair (l : Launch) {σ : sn_S} {x1 : Int32} {x2 : Int32} {x3 : Int32}  {o : (Int64 × sn_S)} (hf : fX9_fair σ x1 x2 x3 = some o) : sn_M l yX9_fair cX9_fair 4 (some .long) rmX9_fair layM (fun ad => [.ref (ad 0), .int x1, .int x2, .int x3]) σ (some (fun _ => .long o.1)) o.2 :=
  sn_met (by decide) (fun _ => Nat.le_of_ble_eq_true rfl) (fun p e s m args below meth c ls D ct ad C hw hl => wX9_fair_in C  hf (fun H locs ls pc hw ok hd => sn_lret C hw hd) _ _ _ hw hl)
-- X9_risk
abbrev rmX9_risk : Room := { frames := 6, cells := 0, slots := 0, locals := 144 }
def fX9_risk (σ : sn_S) (x1 : Int32) (x2 : Int32) : Option (Int64 × sn_S) :=
  ((fX9_isPuffs σ x1 x2).bind fun t_1 => (if t_1 = 0 then
  (some ((-2 : Int64), σ))
  else
  ((fX9_layPuffs σ x1 (0 : Int32) (0 : Int32)).bind fun t_4 => ((fX9_part (sn_L t_4 0 41) (sn_L t_4 0 38) x2).bind fun t_6 => (some (t_6, t_4))))))
theorem wX9_risk_in (C : sn_C p s m args meth c RX9 cX9_risk 3 (some .long) D ct ad layM) {σ : sn_S} {x1 : Int32} {x2 : Int32}  {o : (Int64 × sn_S)} (hf : fX9_risk σ x1 x2 = some o) (kr : sn_Kr p l e rmX9_risk s m args below meth c Q D ct ad layM cX9_risk .lreturn (true) o.2 [.long o.1]) : sn_At p l e rmX9_risk s m args below meth c Q D ct ad layM 3 σ 0 [(0, .ref (ad 0)), (1, .int x1), (2, .int x2)] [] := by
  intro H locs ls hw hl
  have hx := C.1
  have hb := C.2.1
  unfold fX9_risk at hf
  refine lv_aload_n hx hb dX9_risk_0 rfl (lv_at hl 0 rfl) ?_
  refine lv_iload_n hx hb dX9_risk_1 rfl (lv_at hl 1 rfl) ?_
  refine lv_iload_n hx hb dX9_risk_2 rfl (lv_at hl 2 rfl) ?_
  obtain ⟨t_1, h_2, hf⟩ := sn_bd hf
  refine sn_callVi (rest := []) C hw (ctX9_isPuffs l  h_2) kl_RX9_413 layM_0 rfl rfl rfl rfl (Nat.le_of_ble_eq_true rfl) dX9_risk_3 hl.1 (fun H locs hw => ?_)
  refine lv_if_ne (tgt := 13) hx hb dX9_risk_6 (by decide) (fun c_3 => ?_) (fun c_3 => ?_)
  · have hf := sn_el c_3 hf
    refine lv_aload_n hx hb dX9_risk_13 rfl (lv_at hl 0 rfl) ?_
    refine lv_iload_n hx hb dX9_risk_14 rfl (lv_at hl 1 rfl) ?_
    refine lv_iconst (v := 0) hx hb dX9_risk_15 rfl ?_
    refine lv_iconst (v := 0) hx hb dX9_risk_16 rfl ?_
    obtain ⟨t_4, h_5, hf⟩ := sn_bd hf
    refine sn_callVv (rest := []) C hw (ctX9_layPuffs l  h_5) kl_RX9_418 layM_0 rfl rfl rfl rfl (Nat.le_of_ble_eq_true rfl) dX9_risk_17 hl.1 (fun H locs hw => ?_)
    refine lv_aload_n hx hb dX9_risk_20 rfl (lv_at hl 0 rfl) ?_
    refine sn_getL C hw fd_RX9_408 layM_0 rfl dX9_risk_21 ?_
    refine lv_aload_n hx hb dX9_risk_24 rfl (lv_at hl 0 rfl) ?_
    refine sn_getL C hw fd_RX9_398 layM_0 rfl dX9_risk_25 ?_
    refine lv_iload_n hx hb dX9_risk_28 rfl (lv_at hl 2 rfl) ?_
    obtain ⟨t_6, h_7, hf⟩ := sn_bd hf
    refine sn_callSl (rest := []) C hw (ctX9_part l  h_7) kl_RX9_422 rfl rfl rfl (Nat.le_of_ble_eq_true rfl) dX9_risk_29 hl.1 (fun H locs hw => ?_)
    cases hf
    exact kr _ _ _ _ hw rfl dX9_risk_32
  · have hf := sn_if c_3 hf
    refine lv_ldc2 hx hb C.2.2.2.1 (C.2.2.2.2.1 _ kk_RX9_416) dX9_risk_9 ?_
    cases hf
    exact kr _ _ _ _ hw rfl dX9_risk_12
theorem ctX9_risk (l : Launch) {σ : sn_S} {x1 : Int32} {x2 : Int32}  {o : (Int64 × sn_S)} (hf : fX9_risk σ x1 x2 = some o) : sn_M l yX9_risk cX9_risk 3 (some .long) rmX9_risk layM (fun ad => [.ref (ad 0), .int x1, .int x2]) σ (some (fun _ => .long o.1)) o.2 :=
  sn_met (by decide) (fun _ => Nat.le_of_ble_eq_true rfl) (fun p e s m args below meth c ls D ct ad C hw hl => wX9_risk_in C  hf (fun H locs ls pc hw ok hd => sn_lret C hw hd) _ _ _ hw hl)
-- X9_keepAct
abbrev rmX9_keepAct : Room := { frames := 5, cells := 0, slots := 0, locals := 115 }
def fX9_keepAct (σ : sn_S) (x1 : Int32) : Option (Int32 × sn_S) :=
  (sn_gd (sn_in (9 : Int32) 119) (if (sn_I σ 1 (9 : Int32).toNatClampNeg) = (40 : Int32) then
  (some ((-5 : Int32), σ))
  else
  (sn_gd (sn_in (9 : Int32) 119) (sn_gd (sn_in ((79 : Int32) + (sn_I σ 1 (9 : Int32).toNatClampNeg)) 119) (sn_lt (sn_pI σ 1 ((79 : Int32) + (sn_I σ 1 (9 : Int32).toNatClampNeg)).toNatClampNeg x1) fun σ_5 => (sn_gd (sn_in (9 : Int32) 119) (sn_gd (sn_in (9 : Int32) 119) (sn_lt (sn_pI σ_5 1 (9 : Int32).toNatClampNeg ((sn_I σ_5 1 (9 : Int32).toNatClampNeg) + (1 : Int32))) fun σ_9 => ((fX9_asksHouse σ_9).bind fun t_11 => (some ((0 : Int32), t_11.2)))))))))))
theorem wX9_keepAct_in (C : sn_C p s m args meth c RX9 cX9_keepAct 2 (some .int) D ct ad layM) {σ : sn_S} {x1 : Int32}  {o : (Int32 × sn_S)} (hf : fX9_keepAct σ x1 = some o) (kr : sn_Kr p l e rmX9_keepAct s m args below meth c Q D ct ad layM cX9_keepAct .ireturn (true) o.2 [.int o.1]) : sn_At p l e rmX9_keepAct s m args below meth c Q D ct ad layM 2 σ 0 [(0, .ref (ad 0)), (1, .int x1)] [] := by
  intro H locs ls hw hl
  have hx := C.1
  have hb := C.2.1
  unfold fX9_keepAct at hf
  refine lv_aload_n hx hb dX9_keepAct_0 rfl (lv_at hl 0 rfl) ?_
  refine sn_getC (r := 1) C hw fd_RX9_9 layM_0 rfl dX9_keepAct_1 ?_
  refine lv_bipush (v := 9) hx hb dX9_keepAct_4 (by decide) ?_
  obtain ⟨g_1, hf⟩ := sn_gdE hf
  refine sn_iald C hw layM_1 g_1 dX9_keepAct_6 ?_
  refine lv_bipush (v := 40) hx hb dX9_keepAct_7 (by decide) ?_
  refine lv_icmp_ne (tgt := 15) hx hb dX9_keepAct_9 (by decide) (fun c_2 => ?_) (fun c_2 => ?_)
  · have hf := sn_el c_2 hf
    refine lv_aload_n hx hb dX9_keepAct_15 rfl (lv_at hl 0 rfl) ?_
    refine sn_getC (r := 1) C hw fd_RX9_9 layM_0 rfl dX9_keepAct_16 ?_
    refine lv_bipush (v := 79) hx hb dX9_keepAct_19 (by decide) ?_
    refine lv_aload_n hx hb dX9_keepAct_21 rfl (lv_at hl 0 rfl) ?_
    refine sn_getC (r := 1) C hw fd_RX9_9 layM_0 rfl dX9_keepAct_22 ?_
    refine lv_bipush (v := 9) hx hb dX9_keepAct_25 (by decide) ?_
    obtain ⟨g_3, hf⟩ := sn_gdE hf
    refine sn_iald C hw layM_1 g_3 dX9_keepAct_27 ?_
    refine lv_iadd hx hb dX9_keepAct_28 ?_
    refine lv_iload_n hx hb dX9_keepAct_29 rfl (lv_at hl 1 rfl) ?_
    obtain ⟨g_4, hf⟩ := sn_gdE hf
    refine sn_iast C hw layM_1 g_4 dX9_keepAct_30 (fun H locs hw => ?_)
    obtain ⟨σ_5, e_6, hf⟩ := sn_ltE hf
    rw [← e_6] at hw
    refine lv_aload_n hx hb dX9_keepAct_31 rfl (lv_at hl 0 rfl) ?_
    refine sn_getC (r := 1) C hw fd_RX9_9 layM_0 rfl dX9_keepAct_32 ?_
    refine lv_bipush (v := 9) hx hb dX9_keepAct_35 (by decide) ?_
    refine lv_dup2_11 hx hb dX9_keepAct_37 rfl rfl ?_
    obtain ⟨g_7, hf⟩ := sn_gdE hf
    refine sn_iald C hw layM_1 g_7 dX9_keepAct_38 ?_
    refine lv_iconst (v := 1) hx hb dX9_keepAct_39 rfl ?_
    refine lv_iadd hx hb dX9_keepAct_40 ?_
    obtain ⟨g_8, hf⟩ := sn_gdE hf
    refine sn_iast C hw layM_1 g_8 dX9_keepAct_41 (fun H locs hw => ?_)
    obtain ⟨σ_9, e_10, hf⟩ := sn_ltE hf
    rw [← e_10] at hw
    refine lv_aload_n hx hb dX9_keepAct_42 rfl (lv_at hl 0 rfl) ?_
    obtain ⟨t_11, h_12, hf⟩ := sn_bd hf
    refine sn_callVi (rest := []) C hw (ctX9_asksHouse l  h_12) kl_RX9_272 layM_0 rfl rfl rfl rfl (Nat.le_of_ble_eq_true rfl) dX9_keepAct_43 hl.1 (fun H locs hw => ?_)
    refine lv_pop hx hb dX9_keepAct_46 rfl ?_
    refine lv_iconst (v := 0) hx hb dX9_keepAct_47 rfl ?_
    cases hf
    exact kr _ _ _ _ hw rfl dX9_keepAct_48
  · have hf := sn_if c_2 hf
    refine lv_bipush (v := (-5)) hx hb dX9_keepAct_12 (by decide) ?_
    cases hf
    exact kr _ _ _ _ hw rfl dX9_keepAct_14
theorem ctX9_keepAct (l : Launch) {σ : sn_S} {x1 : Int32}  {o : (Int32 × sn_S)} (hf : fX9_keepAct σ x1 = some o) : sn_M l yX9_keepAct cX9_keepAct 2 (some .int) rmX9_keepAct layM (fun ad => [.ref (ad 0), .int x1]) σ (some (fun _ => .int o.1)) o.2 :=
  sn_met (by decide) (fun _ => Nat.le_of_ble_eq_true rfl) (fun p e s m args below meth c ls D ct ad C hw hl => wX9_keepAct_in C  hf (fun H locs ls pc hw ok hd => sn_iret C hw hd) _ _ _ hw hl)
-- X9_stifle
abbrev rmX9_stifle : Room := { frames := 6, cells := 0, slots := 0, locals := 136 }
def fX9_stifle (σ : sn_S) (x1 : Int32) (x2 : Int32) : Option (Int32 × sn_S) :=
  ((fX9_isPerson σ x1.toInt64).bind fun t_1 => (if t_1 = 0 then
  (some ((-2 : Int32), σ))
  else
  ((fX9_isMinute σ x2.toInt64).bind fun t_4 => (if t_4 = 0 then
  (some ((-2 : Int32), σ))
  else
  ((fX9_keepAct σ (((200 : Int32) * x1) + ((2 : Int32) * x2))).bind fun t_7 => (if 0 ≤ t_7.1 then
  (sn_gd (sn_in (((6 : Int32) * x2) + x1) 180) (some ((sn_I t_7.2 12 (((6 : Int32) * x2) + x1).toNatClampNeg), t_7.2)))
  else
  (some ((-5 : Int32), t_7.2))))))))
theorem wX9_stifle_in (C : sn_C p s m args meth c RX9 cX9_stifle 3 (some .int) D ct ad layM) {σ : sn_S} {x1 : Int32} {x2 : Int32}  {o : (Int32 × sn_S)} (hf : fX9_stifle σ x1 x2 = some o) (kr : sn_Kr p l e rmX9_stifle s m args below meth c Q D ct ad layM cX9_stifle .ireturn (true) o.2 [.int o.1]) : sn_At p l e rmX9_stifle s m args below meth c Q D ct ad layM 3 σ 0 [(0, .ref (ad 0)), (1, .int x1), (2, .int x2)] [] := by
  intro H locs ls hw hl
  have hx := C.1
  have hb := C.2.1
  unfold fX9_stifle at hf
  refine lv_aload_n hx hb dX9_stifle_0 rfl (lv_at hl 0 rfl) ?_
  refine lv_iload_n hx hb dX9_stifle_1 rfl (lv_at hl 1 rfl) ?_
  refine lv_i2l hx hb dX9_stifle_2 rfl ?_
  obtain ⟨t_1, h_2, hf⟩ := sn_bd hf
  refine sn_callVi (rest := []) C hw (ctX9_isPerson l  h_2) kl_RX9_224 layM_0 rfl rfl rfl rfl (Nat.le_of_ble_eq_true rfl) dX9_stifle_3 hl.1 (fun H locs hw => ?_)
  refine lv_if_eq (tgt := 18) hx hb dX9_stifle_6 (by decide) (fun c_3 => ?_) (fun c_3 => ?_)
  · have hf := sn_if c_3 hf
    refine lv_bipush (v := (-2)) hx hb dX9_stifle_18 (by decide) ?_
    cases hf
    exact kr _ _ _ _ hw rfl dX9_stifle_20
  · have hf := sn_el c_3 hf
    refine lv_aload_n hx hb dX9_stifle_9 rfl (lv_at hl 0 rfl) ?_
    refine lv_iload_n hx hb dX9_stifle_10 rfl (lv_at hl 2 rfl) ?_
    refine lv_i2l hx hb dX9_stifle_11 rfl ?_
    obtain ⟨t_4, h_5, hf⟩ := sn_bd hf
    refine sn_callVi (rest := []) C hw (ctX9_isMinute l  h_5) kl_RX9_275 layM_0 rfl rfl rfl rfl (Nat.le_of_ble_eq_true rfl) dX9_stifle_12 hl.1 (fun H locs hw => ?_)
    refine lv_if_ne (tgt := 21) hx hb dX9_stifle_15 (by decide) (fun c_6 => ?_) (fun c_6 => ?_)
    · have hf := sn_el c_6 hf
      refine lv_aload_n hx hb dX9_stifle_21 rfl (lv_at hl 0 rfl) ?_
      refine lv_sipush (v := 200) hx hb dX9_stifle_22 (by decide) ?_
      refine lv_iload_n hx hb dX9_stifle_25 rfl (lv_at hl 1 rfl) ?_
      refine lv_imul hx hb dX9_stifle_26 ?_
      refine lv_iconst (v := 2) hx hb dX9_stifle_27 rfl ?_
      refine lv_iload_n hx hb dX9_stifle_28 rfl (lv_at hl 2 rfl) ?_
      refine lv_imul hx hb dX9_stifle_29 ?_
      refine lv_iadd hx hb dX9_stifle_30 ?_
      obtain ⟨t_7, h_8, hf⟩ := sn_bd hf
      refine sn_callVi (rest := []) C hw (ctX9_keepAct l  h_8) kl_RX9_426 layM_0 rfl rfl rfl rfl (Nat.le_of_ble_eq_true rfl) dX9_stifle_31 hl.1 (fun H locs hw => ?_)
      refine lv_if_ge (tgt := 42) hx hb dX9_stifle_34 (by decide) (fun c_9 => ?_) (fun c_9 => ?_)
      · have hf := sn_if c_9 hf
        refine lv_aload_n hx hb dX9_stifle_42 rfl (lv_at hl 0 rfl) ?_
        refine sn_getC (r := 12) C hw fd_RX9_49 layM_0 rfl dX9_stifle_43 ?_
        refine lv_bipush (v := 6) hx hb dX9_stifle_46 (by decide) ?_
        refine lv_iload_n hx hb dX9_stifle_48 rfl (lv_at hl 2 rfl) ?_
        refine lv_imul hx hb dX9_stifle_49 ?_
        refine lv_iload_n hx hb dX9_stifle_50 rfl (lv_at hl 1 rfl) ?_
        refine lv_iadd hx hb dX9_stifle_51 ?_
        obtain ⟨g_10, hf⟩ := sn_gdE hf
        refine sn_iald C hw layM_12 g_10 dX9_stifle_52 ?_
        cases hf
        exact kr _ _ _ _ hw rfl dX9_stifle_53
      · have hf := sn_el c_9 hf
        refine lv_bipush (v := (-5)) hx hb dX9_stifle_37 (by decide) ?_
        refine lv_goto (tgt := 53) hx hb dX9_stifle_39 (by decide) ?_
        cases hf
        exact kr _ _ _ _ hw rfl dX9_stifle_53
    · have hf := sn_if c_6 hf
      refine lv_bipush (v := (-2)) hx hb dX9_stifle_18 (by decide) ?_
      cases hf
      exact kr _ _ _ _ hw rfl dX9_stifle_20
theorem ctX9_stifle (l : Launch) {σ : sn_S} {x1 : Int32} {x2 : Int32}  {o : (Int32 × sn_S)} (hf : fX9_stifle σ x1 x2 = some o) : sn_M l yX9_stifle cX9_stifle 3 (some .int) rmX9_stifle layM (fun ad => [.ref (ad 0), .int x1, .int x2]) σ (some (fun _ => .int o.1)) o.2 :=
  sn_met (by decide) (fun _ => Nat.le_of_ble_eq_true rfl) (fun p e s m args below meth c ls D ct ad C hw hl => wX9_stifle_in C  hf (fun H locs ls pc hw ok hd => sn_iret C hw hd) _ _ _ hw hl)
end
