section
variable {p : Program} {l : Launch} {e : Env} {s : State} {m : MethodId} {args : Array Value} {below : List Frame} {meth : Method} {c : Code} {Q : State → Prop} {D : va_G} {ct : Nat → ClassId} {ad : Nat → Nat}
-- X9_reserve
abbrev rmX9_reserve : Room := { frames := 5, cells := 0, slots := 0, locals := 117 }
def BX9_reserve_46 (σ : sn_S) : Option ((Int32 × sn_S)) :=
  (if (1000 : Int32) ≤ (sn_I σ 0 21) then
  (some ((-1 : Int32), σ))
  else
  (some ((sn_I σ 0 21), σ)))
def BX9_reserve_15 (σ : sn_S) : Option ((sn_S) ⊕ (sn_S)) :=
  (if (1000 : Int32) ≤ (sn_I σ 0 21) then
  (some (.inr (σ)))
  else
  ((fX9_ruinOf σ).bind fun t_2 => (if t_2.1 = (-1 : Int32) then
  (some (.inr (t_2.2)))
  else
  (sn_lt (sn_pI t_2.2 0 21 ((sn_I t_2.2 0 21) + (1 : Int32))) fun σ_5 => (some (.inl (σ_5)))))))
def LX9_reserve_15  (s : sn_S) : Option ((sn_S) ⊕ (sn_S)) := BX9_reserve_15 s
def fX9_reserve (σ : sn_S) : Option (Int32 × sn_S) :=
  ((fX9_asksHouse σ).bind fun t_1 => (if t_1.1 = 0 then
  (some ((-2 : Int32), t_1.2))
  else
  (sn_lt (sn_pI t_1.2 0 21 (0 : Int32)) fun σ_4 => ((sn_it (LX9_reserve_15 ) 5000 (σ_4)).bind fun t_6 => (BX9_reserve_46 t_6)))))
theorem wX9_reserve_46 (C : sn_C p s m args meth c RX9 cX9_reserve 1 (some .int) D ct ad layM) {σ : sn_S}  {o : (Int32 × sn_S)} (hf : BX9_reserve_46 σ = some o) (kr : sn_Kr p l e rmX9_reserve s m args below meth c Q D ct ad layM cX9_reserve .ireturn (true) o.2 [.int o.1]) : sn_At p l e rmX9_reserve s m args below meth c Q D ct ad layM 1 σ 46 [(0, .ref (ad 0))] [] := by
  intro H locs ls hw hl
  have hx := C.1
  have hb := C.2.1
  unfold BX9_reserve_46 at hf
  refine lv_aload_n hx hb dX9_reserve_46 rfl (lv_at hl 0 rfl) ?_
  refine sn_getI C hw fd_RX9_246 layM_0 rfl dX9_reserve_47 ?_
  refine lv_sipush (v := 1000) hx hb dX9_reserve_50 (by decide) ?_
  refine lv_icmp_ge (tgt := 63) hx hb dX9_reserve_53 (by decide) (fun c_1 => ?_) (fun c_1 => ?_)
  · have hf := sn_if c_1 hf
    refine lv_iconst (v := (-1)) hx hb dX9_reserve_63 rfl ?_
    cases hf
    exact kr _ _ _ _ hw rfl dX9_reserve_64
  · have hf := sn_el c_1 hf
    refine lv_aload_n hx hb dX9_reserve_56 rfl (lv_at hl 0 rfl) ?_
    refine sn_getI C hw fd_RX9_246 layM_0 rfl dX9_reserve_57 ?_
    refine lv_goto (tgt := 64) hx hb dX9_reserve_60 (by decide) ?_
    cases hf
    exact kr _ _ _ _ hw rfl dX9_reserve_64
theorem wX9_reserve_15 (C : sn_C p s m args meth c RX9 cX9_reserve 1 (some .int) D ct ad layM) {σ : sn_S}  {o : (sn_S) ⊕ (sn_S)} (hf : BX9_reserve_15 σ = some o) (kc : ∀ v, o = .inl v → sn_At p l e rmX9_reserve s m args below meth c Q D ct ad layM 1 v 15 [(0, .ref (ad 0))] []) (kx : ∀ v, o = .inr v → sn_At p l e rmX9_reserve s m args below meth c Q D ct ad layM 1 v 46 [(0, .ref (ad 0))] []) : sn_At p l e rmX9_reserve s m args below meth c Q D ct ad layM 1 σ 15 [(0, .ref (ad 0))] [] := by
  intro H locs ls hw hl
  have hx := C.1
  have hb := C.2.1
  unfold BX9_reserve_15 at hf
  refine lv_aload_n hx hb dX9_reserve_15 rfl (lv_at hl 0 rfl) ?_
  refine sn_getI C hw fd_RX9_246 layM_0 rfl dX9_reserve_16 ?_
  refine lv_sipush (v := 1000) hx hb dX9_reserve_19 (by decide) ?_
  refine lv_icmp_ge (tgt := 46) hx hb dX9_reserve_22 (by decide) (fun c_1 => ?_) (fun c_1 => ?_)
  · have hf := sn_if c_1 hf
    cases hf
    exact kx _ rfl _ _ _ hw (lv_sub hl [0] rfl)
  · have hf := sn_el c_1 hf
    refine lv_aload_n hx hb dX9_reserve_25 rfl (lv_at hl 0 rfl) ?_
    obtain ⟨t_2, h_3, hf⟩ := sn_bd hf
    refine sn_callVi (rest := []) C hw (ctX9_ruinOf l  h_3) kl_RX9_329 layM_0 rfl rfl rfl rfl (Nat.le_of_ble_eq_true rfl) dX9_reserve_26 hl.1 (fun H locs hw => ?_)
    refine lv_iconst (v := (-1)) hx hb dX9_reserve_29 rfl ?_
    refine lv_icmp_eq (tgt := 46) hx hb dX9_reserve_30 (by decide) (fun c_4 => ?_) (fun c_4 => ?_)
    · have hf := sn_if c_4 hf
      cases hf
      exact kx _ rfl _ _ _ hw (lv_sub hl [0] rfl)
    · have hf := sn_el c_4 hf
      refine lv_aload_n hx hb dX9_reserve_33 rfl (lv_at hl 0 rfl) ?_
      refine lv_dup hx hb dX9_reserve_34 rfl ?_
      refine sn_getI C hw fd_RX9_246 layM_0 rfl dX9_reserve_35 ?_
      refine lv_iconst (v := 1) hx hb dX9_reserve_38 rfl ?_
      refine lv_iadd hx hb dX9_reserve_39 ?_
      refine sn_putI C hw fp_RX9_246 layM_0 rfl dX9_reserve_40 (fun H locs hw => ?_)
      obtain ⟨σ_5, e_6, hf⟩ := sn_ltE hf
      rw [← e_6] at hw
      refine lv_goto (tgt := 15) hx hb dX9_reserve_43 (by decide) ?_
      cases hf
      exact kc _ rfl _ _ _ hw (lv_sub hl [0] rfl)
theorem wX9_reserve_L15 (C : sn_C p s m args meth c RX9 cX9_reserve 1 (some .int) D ct ad layM)    {z : sn_S} {t : sn_S} (h : sn_it (LX9_reserve_15 ) 5000 z = some t) (kx : ∀ v, t = v → sn_At p l e rmX9_reserve s m args below meth c Q D ct ad layM 1 v 46 [(0, .ref (ad 0))] []) : sn_At p l e rmX9_reserve s m args below meth c Q D ct ad layM 1 z 15 [(0, .ref (ad 0))] [] :=
  sn_loop (f := LX9_reserve_15 ) (G := fun z => sn_At p l e rmX9_reserve s m args below meth c Q D ct ad layM 1 z 15 [(0, .ref (ad 0))] []) (E := fun t => (∀ v, t = v → sn_At p l e rmX9_reserve s m args below meth c Q D ct ad layM 1 v 46 [(0, .ref (ad 0))] []) ∧ True) (fun z o hf k1 k2 => wX9_reserve_15 C  hf (fun v e => k1 v e) (fun v e => (k2 _ e).1 v rfl)) 5000 z t h ⟨kx, trivial⟩
theorem wX9_reserve_in (C : sn_C p s m args meth c RX9 cX9_reserve 1 (some .int) D ct ad layM) {σ : sn_S}  {o : (Int32 × sn_S)} (hf : fX9_reserve σ = some o) (kr : sn_Kr p l e rmX9_reserve s m args below meth c Q D ct ad layM cX9_reserve .ireturn (true) o.2 [.int o.1]) : sn_At p l e rmX9_reserve s m args below meth c Q D ct ad layM 1 σ 0 [(0, .ref (ad 0))] [] := by
  intro H locs ls hw hl
  have hx := C.1
  have hb := C.2.1
  unfold fX9_reserve at hf
  refine lv_aload_n hx hb dX9_reserve_0 rfl (lv_at hl 0 rfl) ?_
  obtain ⟨t_1, h_2, hf⟩ := sn_bd hf
  refine sn_callVi (rest := []) C hw (ctX9_asksHouse l  h_2) kl_RX9_272 layM_0 rfl rfl rfl rfl (Nat.le_of_ble_eq_true rfl) dX9_reserve_1 hl.1 (fun H locs hw => ?_)
  refine lv_if_ne (tgt := 10) hx hb dX9_reserve_4 (by decide) (fun c_3 => ?_) (fun c_3 => ?_)
  · have hf := sn_el c_3 hf
    refine lv_aload_n hx hb dX9_reserve_10 rfl (lv_at hl 0 rfl) ?_
    refine lv_iconst (v := 0) hx hb dX9_reserve_11 rfl ?_
    refine sn_putI C hw fp_RX9_246 layM_0 rfl dX9_reserve_12 (fun H locs hw => ?_)
    obtain ⟨σ_4, e_5, hf⟩ := sn_ltE hf
    rw [← e_5] at hw
    obtain ⟨t_6, h_7, hf⟩ := sn_bd hf
    exact wX9_reserve_L15 C  h_7 (fun v e => by cases e; exact wX9_reserve_46 C  hf kr) _ _ _ hw (lv_sub hl [0] rfl)
  · have hf := sn_if c_3 hf
    refine lv_bipush (v := (-2)) hx hb dX9_reserve_7 (by decide) ?_
    cases hf
    exact kr _ _ _ _ hw rfl dX9_reserve_9
theorem ctX9_reserve (l : Launch) {σ : sn_S}  {o : (Int32 × sn_S)} (hf : fX9_reserve σ = some o) : sn_M l yX9_reserve cX9_reserve 1 (some .int) rmX9_reserve layM (fun ad => [.ref (ad 0)]) σ (some (fun _ => .int o.1)) o.2 :=
  sn_met (by decide) (fun _ => Nat.le_of_ble_eq_true rfl) (fun p e s m args below meth c ls D ct ad C hw hl => wX9_reserve_in C  hf (fun H locs ls pc hw ok hd => sn_iret C hw hd) _ _ _ hw hl)
-- X9_byLaw
abbrev rmX9_byLaw : Room := { frames := 4, cells := 0, slots := 0, locals := 96 }
def fX9_byLaw (σ : sn_S) (x1 : Int32) : Option (Int32 × sn_S) :=
  (sn_lt (sn_pI σ 0 20 x1) fun σ_1 => ((fX9_layPaid σ_1).bind fun t_3 => ((fX9_moneyAt t_3 (sn_I t_3 0 22)).bind fun t_5 => (some (t_5, t_3)))))
theorem wX9_byLaw_in (C : sn_C p s m args meth c RX9 cX9_byLaw 2 (some .int) D ct ad layM) {σ : sn_S} {x1 : Int32}  {o : (Int32 × sn_S)} (hf : fX9_byLaw σ x1 = some o) (kr : sn_Kr p l e rmX9_byLaw s m args below meth c Q D ct ad layM cX9_byLaw .ireturn (true) o.2 [.int o.1]) : sn_At p l e rmX9_byLaw s m args below meth c Q D ct ad layM 2 σ 0 [(0, .ref (ad 0)), (1, .int x1)] [] := by
  intro H locs ls hw hl
  have hx := C.1
  have hb := C.2.1
  unfold fX9_byLaw at hf
  refine lv_aload_n hx hb dX9_byLaw_0 rfl (lv_at hl 0 rfl) ?_
  refine lv_iload_n hx hb dX9_byLaw_1 rfl (lv_at hl 1 rfl) ?_
  refine sn_putI C hw fp_RX9_243 layM_0 rfl dX9_byLaw_2 (fun H locs hw => ?_)
  obtain ⟨σ_1, e_2, hf⟩ := sn_ltE hf
  rw [← e_2] at hw
  refine lv_aload_n hx hb dX9_byLaw_5 rfl (lv_at hl 0 rfl) ?_
  obtain ⟨t_3, h_4, hf⟩ := sn_bd hf
  refine sn_callVv (rest := []) C hw (ctX9_layPaid l  h_4) kl_RX9_317 layM_0 rfl rfl rfl rfl (Nat.le_of_ble_eq_true rfl) dX9_byLaw_6 hl.1 (fun H locs hw => ?_)
  refine lv_aload_n hx hb dX9_byLaw_9 rfl (lv_at hl 0 rfl) ?_
  refine lv_aload_n hx hb dX9_byLaw_10 rfl (lv_at hl 0 rfl) ?_
  refine sn_getI C hw fd_RX9_251 layM_0 rfl dX9_byLaw_11 ?_
  obtain ⟨t_5, h_6, hf⟩ := sn_bd hf
  refine sn_callVi (rest := []) C hw (ctX9_moneyAt l  h_6) kl_RX9_320 layM_0 rfl rfl rfl rfl (Nat.le_of_ble_eq_true rfl) dX9_byLaw_14 hl.1 (fun H locs hw => ?_)
  cases hf
  exact kr _ _ _ _ hw rfl dX9_byLaw_17
theorem ctX9_byLaw (l : Launch) {σ : sn_S} {x1 : Int32}  {o : (Int32 × sn_S)} (hf : fX9_byLaw σ x1 = some o) : sn_M l yX9_byLaw cX9_byLaw 2 (some .int) rmX9_byLaw layM (fun ad => [.ref (ad 0), .int x1]) σ (some (fun _ => .int o.1)) o.2 :=
  sn_met (by decide) (fun _ => Nat.le_of_ble_eq_true rfl) (fun p e s m args below meth c ls D ct ad C hw hl => wX9_byLaw_in C  hf (fun H locs ls pc hw ok hd => sn_iret C hw hd) _ _ _ hw hl)
-- X9_by
abbrev rmX9_by : Room := { frames := 5, cells := 0, slots := 0, locals := 117 }
def BX9_by_22 (σ : sn_S) : Option ((Int32 × sn_S)) :=
  (some ((-100000 : Int32), σ))
def fX9_by (σ : sn_S) (x1 : Int32) : Option (Int32 × sn_S) :=
  ((fX9_asksHouse σ).bind fun t_1 => (if t_1.1 = 0 then
  (BX9_by_22 t_1.2)
  else
  ((fX9_isLaw x1).bind fun t_4 => (if t_4 = 0 then
  (BX9_by_22 t_1.2)
  else
  ((fX9_byLaw t_1.2 x1).bind fun t_7 => (some (t_7.1, t_7.2)))))))
theorem wX9_by_22 (C : sn_C p s m args meth c RX9 cX9_by 2 (some .int) D ct ad layM) {σ : sn_S}  {o : (Int32 × sn_S)} (hf : BX9_by_22 σ = some o) (kr : sn_Kr p l e rmX9_by s m args below meth c Q D ct ad layM cX9_by .ireturn (true) o.2 [.int o.1]) : sn_At p l e rmX9_by s m args below meth c Q D ct ad layM 2 σ 22 [] [] := by
  intro H locs ls hw hl
  have hx := C.1
  have hb := C.2.1
  unfold BX9_by_22 at hf
  refine lv_ldcw hx hb C.2.2.2.1 (C.2.2.2.2.1 _ kk_RX9_328) dX9_by_22 ?_
  cases hf
  exact kr _ _ _ _ hw rfl dX9_by_25
theorem wX9_by_in (C : sn_C p s m args meth c RX9 cX9_by 2 (some .int) D ct ad layM) {σ : sn_S} {x1 : Int32}  {o : (Int32 × sn_S)} (hf : fX9_by σ x1 = some o) (kr : sn_Kr p l e rmX9_by s m args below meth c Q D ct ad layM cX9_by .ireturn (true) o.2 [.int o.1]) : sn_At p l e rmX9_by s m args below meth c Q D ct ad layM 2 σ 0 [(0, .ref (ad 0)), (1, .int x1)] [] := by
  intro H locs ls hw hl
  have hx := C.1
  have hb := C.2.1
  unfold fX9_by at hf
  refine lv_aload_n hx hb dX9_by_0 rfl (lv_at hl 0 rfl) ?_
  obtain ⟨t_1, h_2, hf⟩ := sn_bd hf
  refine sn_callVi (rest := []) C hw (ctX9_asksHouse l  h_2) kl_RX9_272 layM_0 rfl rfl rfl rfl (Nat.le_of_ble_eq_true rfl) dX9_by_1 hl.1 (fun H locs hw => ?_)
  refine lv_if_eq (tgt := 22) hx hb dX9_by_4 (by decide) (fun c_3 => ?_) (fun c_3 => ?_)
  · have hf := sn_if c_3 hf
    exact wX9_by_22 C  hf kr _ _ _ hw (lv_sub hl [] rfl)
  · have hf := sn_el c_3 hf
    refine lv_iload_n hx hb dX9_by_7 rfl (lv_at hl 1 rfl) ?_
    obtain ⟨t_4, h_5, hf⟩ := sn_bd hf
    refine sn_callSi (rest := []) C hw (ctX9_isLaw l  h_5) kl_RX9_335 rfl rfl rfl (Nat.le_of_ble_eq_true rfl) dX9_by_8 hl.1 (fun H locs hw => ?_)
    refine lv_if_eq (tgt := 22) hx hb dX9_by_11 (by decide) (fun c_6 => ?_) (fun c_6 => ?_)
    · have hf := sn_if c_6 hf
      exact wX9_by_22 C  hf kr _ _ _ hw (lv_sub hl [] rfl)
    · have hf := sn_el c_6 hf
      refine lv_aload_n hx hb dX9_by_14 rfl (lv_at hl 0 rfl) ?_
      refine lv_iload_n hx hb dX9_by_15 rfl (lv_at hl 1 rfl) ?_
      obtain ⟨t_7, h_8, hf⟩ := sn_bd hf
      refine sn_callVi (rest := []) C hw (ctX9_byLaw l  h_8) kl_RX9_338 layM_0 rfl rfl rfl rfl (Nat.le_of_ble_eq_true rfl) dX9_by_16 hl.1 (fun H locs hw => ?_)
      refine lv_goto (tgt := 25) hx hb dX9_by_19 (by decide) ?_
      cases hf
      exact kr _ _ _ _ hw rfl dX9_by_25
theorem ctX9_by (l : Launch) {σ : sn_S} {x1 : Int32}  {o : (Int32 × sn_S)} (hf : fX9_by σ x1 = some o) : sn_M l yX9_by cX9_by 2 (some .int) rmX9_by layM (fun ad => [.ref (ad 0), .int x1]) σ (some (fun _ => .int o.1)) o.2 :=
  sn_met (by decide) (fun _ => Nat.le_of_ble_eq_true rfl) (fun p e s m args below meth c ls D ct ad C hw hl => wX9_by_in C  hf (fun H locs ls pc hw ok hd => sn_iret C hw hd) _ _ _ hw hl)
-- X9_law
abbrev rmX9_law : Room := { frames := 5, cells := 0, slots := 0, locals := 117 }
def BX9_law_44 (σ : sn_S) (x1 : Int32) : Option ((Int32 × sn_S)) :=
  (some (x1, σ))
def BX9_law_37 (σ : sn_S) (x1 : Int32) (x2 : Int32) (t0 : Int32) : Option ((sn_S × Int32 × Int32) ⊕ (sn_S × Int32)) :=
  (sn_lt (x2 + 1) fun y_1 => (some (.inl (σ, t0, y_1))))
def BX9_law_14 (σ : sn_S) (x1 : Int32) (x2 : Int32) : Option ((sn_S × Int32 × Int32) ⊕ (sn_S × Int32)) :=
  (if (4 : Int32) ≤ x2 then
  (some (.inr (σ, x1)))
  else
  ((fX9_byLaw σ x2).bind fun t_2 => ((fX9_byLaw t_2.2 x1).bind fun t_4 => (if t_2.1 ≤ t_4.1 then
  (BX9_law_37 t_4.2 x1 x2 x1)
  else
  (BX9_law_37 t_4.2 x1 x2 x2)))))
def LX9_law_14  (s : sn_S × Int32 × Int32) : Option ((sn_S × Int32 × Int32) ⊕ (sn_S × Int32)) := BX9_law_14 s.1 s.2.1 s.2.2
def fX9_law (σ : sn_S) : Option (Int32 × sn_S) :=
  ((fX9_asksHouse σ).bind fun t_1 => (if t_1.1 = 0 then
  (some ((-2 : Int32), t_1.2))
  else
  ((sn_it (LX9_law_14 ) 5000 (t_1.2, (0 : Int32), (1 : Int32))).bind fun t_4 => (BX9_law_44 t_4.1 t_4.2))))
theorem wX9_law_44 (C : sn_C p s m args meth c RX9 cX9_law 3 (some .int) D ct ad layM) {σ : sn_S} {x1 : Int32}  {o : (Int32 × sn_S)} (hf : BX9_law_44 σ x1 = some o) (kr : sn_Kr p l e rmX9_law s m args below meth c Q D ct ad layM cX9_law .ireturn (true) o.2 [.int o.1]) : sn_At p l e rmX9_law s m args below meth c Q D ct ad layM 3 σ 44 [(1, .int x1)] [] := by
  intro H locs ls hw hl
  have hx := C.1
  have hb := C.2.1
  unfold BX9_law_44 at hf
  refine lv_iload_n hx hb dX9_law_44 rfl (lv_at hl 0 rfl) ?_
  cases hf
  exact kr _ _ _ _ hw rfl dX9_law_45
theorem wX9_law_37 (C : sn_C p s m args meth c RX9 cX9_law 3 (some .int) D ct ad layM) {σ : sn_S} {x1 : Int32} {x2 : Int32} {t0 : Int32}  {o : (sn_S × Int32 × Int32) ⊕ (sn_S × Int32)} (hf : BX9_law_37 σ x1 x2 t0 = some o) (kc : ∀ v, o = .inl v → sn_At p l e rmX9_law s m args below meth c Q D ct ad layM 3 v.1 14 [(0, .ref (ad 0)), (1, .int v.2.1), (2, .int v.2.2)] []) (kx : ∀ v, o = .inr v → sn_At p l e rmX9_law s m args below meth c Q D ct ad layM 3 v.1 44 [(1, .int v.2)] []) : sn_At p l e rmX9_law s m args below meth c Q D ct ad layM 3 σ 37 [(0, .ref (ad 0)), (1, .int x1), (2, .int x2)] [.int t0] := by
  intro H locs ls hw hl
  have hx := C.1
  have hb := C.2.1
  unfold BX9_law_37 at hf
  refine lv_istore_n (lv' := [(1, .int t0), (0, .ref (ad 0)), (2, .int x2)]) hx hb dX9_law_37 rfl hl (by decide) rfl (fun ls hl => ?_)
  obtain ⟨y_1, e_2, hf⟩ := sn_ltE hf
  refine lv_iinc (v := y_1) (lv' := [(2, .int y_1), (1, .int t0), (0, .ref (ad 0))]) hx hb dX9_law_38 hl (k := 2) rfl (by rw [e_2]; rfl) (by decide) rfl (fun ls hl => ?_)
  refine lv_goto (tgt := 14) hx hb dX9_law_41 (by decide) ?_
  cases hf
  exact kc _ rfl _ _ _ hw (lv_sub hl [2, 1, 0] rfl)
theorem wX9_law_14 (C : sn_C p s m args meth c RX9 cX9_law 3 (some .int) D ct ad layM) {σ : sn_S} {x1 : Int32} {x2 : Int32}  {o : (sn_S × Int32 × Int32) ⊕ (sn_S × Int32)} (hf : BX9_law_14 σ x1 x2 = some o) (kc : ∀ v, o = .inl v → sn_At p l e rmX9_law s m args below meth c Q D ct ad layM 3 v.1 14 [(0, .ref (ad 0)), (1, .int v.2.1), (2, .int v.2.2)] []) (kx : ∀ v, o = .inr v → sn_At p l e rmX9_law s m args below meth c Q D ct ad layM 3 v.1 44 [(1, .int v.2)] []) : sn_At p l e rmX9_law s m args below meth c Q D ct ad layM 3 σ 14 [(0, .ref (ad 0)), (1, .int x1), (2, .int x2)] [] := by
  intro H locs ls hw hl
  have hx := C.1
  have hb := C.2.1
  unfold BX9_law_14 at hf
  refine lv_iload_n hx hb dX9_law_14 rfl (lv_at hl 2 rfl) ?_
  refine lv_iconst (v := 4) hx hb dX9_law_15 rfl ?_
  refine lv_icmp_ge (tgt := 44) hx hb dX9_law_16 (by decide) (fun c_1 => ?_) (fun c_1 => ?_)
  · have hf := sn_if c_1 hf
    cases hf
    exact kx _ rfl _ _ _ hw (lv_sub hl [1] rfl)
  · have hf := sn_el c_1 hf
    refine lv_aload_n hx hb dX9_law_19 rfl (lv_at hl 0 rfl) ?_
    refine lv_iload_n hx hb dX9_law_20 rfl (lv_at hl 2 rfl) ?_
    obtain ⟨t_2, h_3, hf⟩ := sn_bd hf
    refine sn_callVi (rest := []) C hw (ctX9_byLaw l  h_3) kl_RX9_338 layM_0 rfl rfl rfl rfl (Nat.le_of_ble_eq_true rfl) dX9_law_21 hl.1 (fun H locs hw => ?_)
    refine lv_aload_n hx hb dX9_law_24 rfl (lv_at hl 0 rfl) ?_
    refine lv_iload_n hx hb dX9_law_25 rfl (lv_at hl 1 rfl) ?_
    obtain ⟨t_4, h_5, hf⟩ := sn_bd hf
    refine sn_callVi (rest := [.int t_2.1]) C hw (ctX9_byLaw l  h_5) kl_RX9_338 layM_0 rfl rfl rfl rfl (Nat.le_of_ble_eq_true rfl) dX9_law_26 hl.1 (fun H locs hw => ?_)
    refine lv_icmp_le (tgt := 36) hx hb dX9_law_29 (by decide) (fun c_6 => ?_) (fun c_6 => ?_)
    · have hf := sn_if c_6 hf
      refine lv_iload_n hx hb dX9_law_36 rfl (lv_at hl 1 rfl) ?_
      exact wX9_law_37 C  hf kc kx _ _ _ hw (lv_sub hl [0, 1, 2] rfl)
    · have hf := sn_el c_6 hf
      refine lv_iload_n hx hb dX9_law_32 rfl (lv_at hl 2 rfl) ?_
      refine lv_goto (tgt := 37) hx hb dX9_law_33 (by decide) ?_
      exact wX9_law_37 C  hf kc kx _ _ _ hw (lv_sub hl [0, 1, 2] rfl)
theorem wX9_law_L14 (C : sn_C p s m args meth c RX9 cX9_law 3 (some .int) D ct ad layM)    {z : sn_S × Int32 × Int32} {t : sn_S × Int32} (h : sn_it (LX9_law_14 ) 5000 z = some t) (kx : ∀ v, t = v → sn_At p l e rmX9_law s m args below meth c Q D ct ad layM 3 v.1 44 [(1, .int v.2)] []) : sn_At p l e rmX9_law s m args below meth c Q D ct ad layM 3 z.1 14 [(0, .ref (ad 0)), (1, .int z.2.1), (2, .int z.2.2)] [] :=
  sn_loop (f := LX9_law_14 ) (G := fun z => sn_At p l e rmX9_law s m args below meth c Q D ct ad layM 3 z.1 14 [(0, .ref (ad 0)), (1, .int z.2.1), (2, .int z.2.2)] []) (E := fun t => (∀ v, t = v → sn_At p l e rmX9_law s m args below meth c Q D ct ad layM 3 v.1 44 [(1, .int v.2)] []) ∧ True) (fun z o hf k1 k2 => wX9_law_14 C  hf (fun v e => k1 v e) (fun v e => (k2 _ e).1 v rfl)) 5000 z t h ⟨kx, trivial⟩
theorem wX9_law_in (C : sn_C p s m args meth c RX9 cX9_law 3 (some .int) D ct ad layM) {σ : sn_S}  {o : (Int32 × sn_S)} (hf : fX9_law σ = some o) (kr : sn_Kr p l e rmX9_law s m args below meth c Q D ct ad layM cX9_law .ireturn (true) o.2 [.int o.1]) : sn_At p l e rmX9_law s m args below meth c Q D ct ad layM 3 σ 0 [(0, .ref (ad 0))] [] := by
  intro H locs ls hw hl
  have hx := C.1
  have hb := C.2.1
  unfold fX9_law at hf
  refine lv_aload_n hx hb dX9_law_0 rfl (lv_at hl 0 rfl) ?_
  obtain ⟨t_1, h_2, hf⟩ := sn_bd hf
  refine sn_callVi (rest := []) C hw (ctX9_asksHouse l  h_2) kl_RX9_272 layM_0 rfl rfl rfl rfl (Nat.le_of_ble_eq_true rfl) dX9_law_1 hl.1 (fun H locs hw => ?_)
  refine lv_if_ne (tgt := 10) hx hb dX9_law_4 (by decide) (fun c_3 => ?_) (fun c_3 => ?_)
  · have hf := sn_el c_3 hf
    refine lv_iconst (v := 0) hx hb dX9_law_10 rfl ?_
    refine lv_istore_n (lv' := [(1, .int (0 : Int32)), (0, .ref (ad 0))]) hx hb dX9_law_11 rfl hl (by decide) rfl (fun ls hl => ?_)
    refine lv_iconst (v := 1) hx hb dX9_law_12 rfl ?_
    refine lv_istore_n (lv' := [(2, .int (1 : Int32)), (1, .int (0 : Int32)), (0, .ref (ad 0))]) hx hb dX9_law_13 rfl hl (by decide) rfl (fun ls hl => ?_)
    obtain ⟨t_4, h_5, hf⟩ := sn_bd hf
    exact wX9_law_L14 C  h_5 (fun v e => by cases e; exact wX9_law_44 C  hf kr) _ _ _ hw (lv_sub hl [2, 1, 0] rfl)
  · have hf := sn_if c_3 hf
    refine lv_bipush (v := (-2)) hx hb dX9_law_7 (by decide) ?_
    cases hf
    exact kr _ _ _ _ hw rfl dX9_law_9
theorem ctX9_law (l : Launch) {σ : sn_S}  {o : (Int32 × sn_S)} (hf : fX9_law σ = some o) : sn_M l yX9_law cX9_law 3 (some .int) rmX9_law layM (fun ad => [.ref (ad 0)]) σ (some (fun _ => .int o.1)) o.2 :=
  sn_met (by decide) (fun _ => Nat.le_of_ble_eq_true rfl) (fun p e s m args below meth c ls D ct ad C hw hl => wX9_law_in C  hf (fun H locs ls pc hw ok hd => sn_iret C hw hd) _ _ _ hw hl)
-- X9_takesBy
abbrev rmX9_takesBy : Room := { frames := 3, cells := 0, slots := 0, locals := 75 }
def BX9_takesBy_79 (σ : sn_S) (x4 : Int32) : Option ((Int32 × sn_S)) :=
  (some (x4, σ))
def BX9_takesBy_73 (σ : sn_S) (x1 : Int32) (x2 : Int32) (x3 : Int32) (x4 : Int32) (x5 : Int32) : Option ((sn_S × Int32 × Int32) ⊕ (sn_S × Int32)) :=
  (sn_lt (x5 + 1) fun y_1 => (some (.inl (σ, x4, y_1))))
def BX9_takesBy_48 (σ : sn_S) (x1 : Int32) (x2 : Int32) (x3 : Int32) (x4 : Int32) (x5 : Int32) (t0 : Int32) (t1 : Int32) : Option ((sn_S × Int32 × Int32) ⊕ (sn_S × Int32)) :=
  (sn_lt (t0 - t1) fun y_1 => (if (sn_I σ 0 31) < y_1 then
  (sn_lt (sn_pI σ 0 31 y_1) fun σ_4 => (BX9_takesBy_73 σ_4 x1 x2 x3 x5 x5))
  else
  (BX9_takesBy_73 σ x1 x2 x3 x4 x5)))
def BX9_takesBy_11 (σ : sn_S) (x1 : Int32) (x2 : Int32) (x3 : Int32) (x4 : Int32) (x5 : Int32) : Option ((sn_S × Int32 × Int32) ⊕ (sn_S × Int32)) :=
  (sn_gd (sn_in (8 : Int32) 119) (if (sn_I σ 1 (8 : Int32).toNatClampNeg) ≤ x5 then
  (some (.inr (σ, x4)))
  else
  ((fX9_claimOf σ x5 x1 (0 : Int32)).bind fun t_3 => (if x5 = x2 then
  (BX9_takesBy_48 t_3.2 x1 x2 x3 x4 x5 t_3.1 x3)
  else
  ((fX9_of t_3.2 x5 (4 : Int32)).bind fun t_6 => (BX9_takesBy_48 t_3.2 x1 x2 x3 x4 x5 t_3.1 t_6))))))
def LX9_takesBy_11 (x1 : Int32) (x2 : Int32) (x3 : Int32) (s : sn_S × Int32 × Int32) : Option ((sn_S × Int32 × Int32) ⊕ (sn_S × Int32)) := BX9_takesBy_11 s.1 x1 x2 x3 s.2.1 s.2.2
def fX9_takesBy (σ : sn_S) (x1 : Int32) (x2 : Int32) (x3 : Int32) : Option (Int32 × sn_S) :=
  (sn_lt (sn_pI σ 0 31 (0 : Int32)) fun σ_1 => ((sn_it (LX9_takesBy_11 x1 x2 x3) 5000 (σ_1, (-1 : Int32), (0 : Int32))).bind fun t_3 => (BX9_takesBy_79 t_3.1 t_3.2)))
theorem wX9_takesBy_79 (C : sn_C p s m args meth c RX9 cX9_takesBy 7 (some .int) D ct ad layM) {σ : sn_S} {x4 : Int32}  {o : (Int32 × sn_S)} (hf : BX9_takesBy_79 σ x4 = some o) (kr : sn_Kr p l e rmX9_takesBy s m args below meth c Q D ct ad layM cX9_takesBy .ireturn (true) o.2 [.int o.1]) : sn_At p l e rmX9_takesBy s m args below meth c Q D ct ad layM 7 σ 79 [(4, .int x4)] [] := by
  intro H locs ls hw hl
  have hx := C.1
  have hb := C.2.1
  unfold BX9_takesBy_79 at hf
  refine lv_iload hx hb dX9_takesBy_79 (lv_at hl 0 rfl) ?_
  cases hf
  exact kr _ _ _ _ hw rfl dX9_takesBy_81
theorem wX9_takesBy_73 (C : sn_C p s m args meth c RX9 cX9_takesBy 7 (some .int) D ct ad layM) {σ : sn_S} {x1 : Int32} {x2 : Int32} {x3 : Int32} {x4 : Int32} {x5 : Int32}  {o : (sn_S × Int32 × Int32) ⊕ (sn_S × Int32)} (hf : BX9_takesBy_73 σ x1 x2 x3 x4 x5 = some o) (kc : ∀ v, o = .inl v → sn_At p l e rmX9_takesBy s m args below meth c Q D ct ad layM 7 v.1 11 [(0, .ref (ad 0)), (1, .int x1), (2, .int x2), (3, .int x3), (4, .int v.2.1), (5, .int v.2.2)] []) (kx : ∀ v, o = .inr v → sn_At p l e rmX9_takesBy s m args below meth c Q D ct ad layM 7 v.1 79 [(4, .int v.2)] []) : sn_At p l e rmX9_takesBy s m args below meth c Q D ct ad layM 7 σ 73 [(0, .ref (ad 0)), (1, .int x1), (2, .int x2), (3, .int x3), (4, .int x4), (5, .int x5)] [] := by
  intro H locs ls hw hl
  have hx := C.1
  have hb := C.2.1
  unfold BX9_takesBy_73 at hf
  obtain ⟨y_1, e_2, hf⟩ := sn_ltE hf
  refine lv_iinc (v := y_1) (lv' := [(5, .int y_1), (0, .ref (ad 0)), (1, .int x1), (2, .int x2), (3, .int x3), (4, .int x4)]) hx hb dX9_takesBy_73 hl (k := 5) rfl (by rw [e_2]; rfl) (by decide) rfl (fun ls hl => ?_)
  refine lv_goto (tgt := 11) hx hb dX9_takesBy_76 (by decide) ?_
  cases hf
  exact kc _ rfl _ _ _ hw (lv_sub hl [1, 2, 3, 4, 5, 0] rfl)
theorem wX9_takesBy_48 (C : sn_C p s m args meth c RX9 cX9_takesBy 7 (some .int) D ct ad layM) {σ : sn_S} {x1 : Int32} {x2 : Int32} {x3 : Int32} {x4 : Int32} {x5 : Int32} {t0 : Int32} {t1 : Int32}  {o : (sn_S × Int32 × Int32) ⊕ (sn_S × Int32)} (hf : BX9_takesBy_48 σ x1 x2 x3 x4 x5 t0 t1 = some o) (kc : ∀ v, o = .inl v → sn_At p l e rmX9_takesBy s m args below meth c Q D ct ad layM 7 v.1 11 [(0, .ref (ad 0)), (1, .int x1), (2, .int x2), (3, .int x3), (4, .int v.2.1), (5, .int v.2.2)] []) (kx : ∀ v, o = .inr v → sn_At p l e rmX9_takesBy s m args below meth c Q D ct ad layM 7 v.1 79 [(4, .int v.2)] []) : sn_At p l e rmX9_takesBy s m args below meth c Q D ct ad layM 7 σ 48 [(0, .ref (ad 0)), (1, .int x1), (2, .int x2), (3, .int x3), (4, .int x4), (5, .int x5)] [.int t1, .int t0] := by
  intro H locs ls hw hl
  have hx := C.1
  have hb := C.2.1
  unfold BX9_takesBy_48 at hf
  refine lv_isub hx hb dX9_takesBy_48 ?_
  obtain ⟨y_1, e_2, hf⟩ := sn_ltE hf
  refine lv_topi (fun y_1_ e_2_ => ?_)
  obtain rfl : y_1 = y_1_ := e_2.trans e_2_.symm
  refine lv_istore (lv' := [(6, .int y_1), (0, .ref (ad 0)), (1, .int x1), (2, .int x2), (3, .int x3), (4, .int x4), (5, .int x5)]) hx hb dX9_takesBy_49 hl (by decide) rfl (fun ls hl => ?_)
  refine lv_iload hx hb dX9_takesBy_51 (lv_at hl 0 rfl) ?_
  refine lv_aload_n hx hb dX9_takesBy_53 rfl (lv_at hl 1 rfl) ?_
  refine sn_getI C hw fd_RX9_341 layM_0 rfl dX9_takesBy_54 ?_
  refine lv_icmp_gt (tgt := 63) hx hb dX9_takesBy_57 (by decide) (fun c_3 => ?_) (fun c_3 => ?_)
  · have hf := sn_if c_3 hf
    refine lv_aload_n hx hb dX9_takesBy_63 rfl (lv_at hl 1 rfl) ?_
    refine lv_iload hx hb dX9_takesBy_64 (lv_at hl 0 rfl) ?_
    refine sn_putI C hw fp_RX9_341 layM_0 rfl dX9_takesBy_66 (fun H locs hw => ?_)
    obtain ⟨σ_4, e_5, hf⟩ := sn_ltE hf
    rw [← e_5] at hw
    refine lv_iload hx hb dX9_takesBy_69 (lv_at hl 6 rfl) ?_
    refine lv_istore (lv' := [(4, .int x5), (6, .int y_1), (0, .ref (ad 0)), (1, .int x1), (2, .int x2), (3, .int x3), (5, .int x5)]) hx hb dX9_takesBy_71 hl (by decide) rfl (fun ls hl => ?_)
    exact wX9_takesBy_73 C  hf kc kx _ _ _ hw (lv_sub hl [2, 3, 4, 5, 0, 6] rfl)
  · have hf := sn_el c_3 hf
    refine lv_goto (tgt := 73) hx hb dX9_takesBy_60 (by decide) ?_
    exact wX9_takesBy_73 C  hf kc kx _ _ _ hw (lv_sub hl [1, 2, 3, 4, 5, 6] rfl)
theorem wX9_takesBy_11 (C : sn_C p s m args meth c RX9 cX9_takesBy 7 (some .int) D ct ad layM) {σ : sn_S} {x1 : Int32} {x2 : Int32} {x3 : Int32} {x4 : Int32} {x5 : Int32}  {o : (sn_S × Int32 × Int32) ⊕ (sn_S × Int32)} (hf : BX9_takesBy_11 σ x1 x2 x3 x4 x5 = some o) (kc : ∀ v, o = .inl v → sn_At p l e rmX9_takesBy s m args below meth c Q D ct ad layM 7 v.1 11 [(0, .ref (ad 0)), (1, .int x1), (2, .int x2), (3, .int x3), (4, .int v.2.1), (5, .int v.2.2)] []) (kx : ∀ v, o = .inr v → sn_At p l e rmX9_takesBy s m args below meth c Q D ct ad layM 7 v.1 79 [(4, .int v.2)] []) : sn_At p l e rmX9_takesBy s m args below meth c Q D ct ad layM 7 σ 11 [(0, .ref (ad 0)), (1, .int x1), (2, .int x2), (3, .int x3), (4, .int x4), (5, .int x5)] [] := by
  intro H locs ls hw hl
  have hx := C.1
  have hb := C.2.1
  unfold BX9_takesBy_11 at hf
  refine lv_iload hx hb dX9_takesBy_11 (lv_at hl 5 rfl) ?_
  refine lv_aload_n hx hb dX9_takesBy_13 rfl (lv_at hl 0 rfl) ?_
  refine sn_getC (r := 1) C hw fd_RX9_9 layM_0 rfl dX9_takesBy_14 ?_
  refine lv_bipush (v := 8) hx hb dX9_takesBy_17 (by decide) ?_
  obtain ⟨g_1, hf⟩ := sn_gdE hf
  refine sn_iald C hw layM_1 g_1 dX9_takesBy_19 ?_
  refine lv_icmp_ge (tgt := 79) hx hb dX9_takesBy_20 (by decide) (fun c_2 => ?_) (fun c_2 => ?_)
  · have hf := sn_if c_2 hf
    cases hf
    exact kx _ rfl _ _ _ hw (lv_sub hl [4] rfl)
  · have hf := sn_el c_2 hf
    refine lv_aload_n hx hb dX9_takesBy_23 rfl (lv_at hl 0 rfl) ?_
    refine lv_iload hx hb dX9_takesBy_24 (lv_at hl 5 rfl) ?_
    refine lv_iload_n hx hb dX9_takesBy_26 rfl (lv_at hl 1 rfl) ?_
    refine lv_iconst (v := 0) hx hb dX9_takesBy_27 rfl ?_
    obtain ⟨t_3, h_4, hf⟩ := sn_bd hf
    refine sn_callVi (rest := []) C hw (ctX9_claimOf l  h_4) kl_RX9_313 layM_0 rfl rfl rfl rfl (Nat.le_of_ble_eq_true rfl) dX9_takesBy_28 hl.1 (fun H locs hw => ?_)
    refine lv_iload hx hb dX9_takesBy_31 (lv_at hl 5 rfl) ?_
    refine lv_iload_n hx hb dX9_takesBy_33 rfl (lv_at hl 2 rfl) ?_
    refine lv_icmp_ne (tgt := 41) hx hb dX9_takesBy_34 (by decide) (fun c_5 => ?_) (fun c_5 => ?_)
    · have hf := sn_el c_5 hf
      refine lv_aload_n hx hb dX9_takesBy_41 rfl (lv_at hl 0 rfl) ?_
      refine lv_iload hx hb dX9_takesBy_42 (lv_at hl 5 rfl) ?_
      refine lv_iconst (v := 4) hx hb dX9_takesBy_44 rfl ?_
      obtain ⟨t_6, h_7, hf⟩ := sn_bd hf
      refine sn_callVi (rest := [.int t_3.1]) C hw (ctX9_of l  h_7) kl_RX9_234 layM_0 rfl rfl rfl rfl (Nat.le_of_ble_eq_true rfl) dX9_takesBy_45 hl.1 (fun H locs hw => ?_)
      exact wX9_takesBy_48 C  hf kc kx _ _ _ hw (lv_sub hl [0, 1, 2, 3, 4, 5] rfl)
    · have hf := sn_if c_5 hf
      refine lv_iload_n hx hb dX9_takesBy_37 rfl (lv_at hl 3 rfl) ?_
      refine lv_goto (tgt := 48) hx hb dX9_takesBy_38 (by decide) ?_
      exact wX9_takesBy_48 C  hf kc kx _ _ _ hw (lv_sub hl [0, 1, 2, 3, 4, 5] rfl)
theorem wX9_takesBy_L11 (C : sn_C p s m args meth c RX9 cX9_takesBy 7 (some .int) D ct ad layM) {x1 : Int32} {x2 : Int32} {x3 : Int32}   {z : sn_S × Int32 × Int32} {t : sn_S × Int32} (h : sn_it (LX9_takesBy_11 x1 x2 x3) 5000 z = some t) (kx : ∀ v, t = v → sn_At p l e rmX9_takesBy s m args below meth c Q D ct ad layM 7 v.1 79 [(4, .int v.2)] []) : sn_At p l e rmX9_takesBy s m args below meth c Q D ct ad layM 7 z.1 11 [(0, .ref (ad 0)), (1, .int x1), (2, .int x2), (3, .int x3), (4, .int z.2.1), (5, .int z.2.2)] [] :=
  sn_loop (f := LX9_takesBy_11 x1 x2 x3) (G := fun z => sn_At p l e rmX9_takesBy s m args below meth c Q D ct ad layM 7 z.1 11 [(0, .ref (ad 0)), (1, .int x1), (2, .int x2), (3, .int x3), (4, .int z.2.1), (5, .int z.2.2)] []) (E := fun t => (∀ v, t = v → sn_At p l e rmX9_takesBy s m args below meth c Q D ct ad layM 7 v.1 79 [(4, .int v.2)] []) ∧ True) (fun z o hf k1 k2 => wX9_takesBy_11 C  hf (fun v e => k1 v e) (fun v e => (k2 _ e).1 v rfl)) 5000 z t h ⟨kx, trivial⟩
theorem wX9_takesBy_in (C : sn_C p s m args meth c RX9 cX9_takesBy 7 (some .int) D ct ad layM) {σ : sn_S} {x1 : Int32} {x2 : Int32} {x3 : Int32}  {o : (Int32 × sn_S)} (hf : fX9_takesBy σ x1 x2 x3 = some o) (kr : sn_Kr p l e rmX9_takesBy s m args below meth c Q D ct ad layM cX9_takesBy .ireturn (true) o.2 [.int o.1]) : sn_At p l e rmX9_takesBy s m args below meth c Q D ct ad layM 7 σ 0 [(0, .ref (ad 0)), (1, .int x1), (2, .int x2), (3, .int x3)] [] := by
  intro H locs ls hw hl
  have hx := C.1
  have hb := C.2.1
  unfold fX9_takesBy at hf
  refine lv_iconst (v := (-1)) hx hb dX9_takesBy_0 rfl ?_
  refine lv_istore (lv' := [(4, .int (-1 : Int32)), (0, .ref (ad 0)), (1, .int x1), (2, .int x2), (3, .int x3)]) hx hb dX9_takesBy_1 hl (by decide) rfl (fun ls hl => ?_)
  refine lv_aload_n hx hb dX9_takesBy_3 rfl (lv_at hl 1 rfl) ?_
  refine lv_iconst (v := 0) hx hb dX9_takesBy_4 rfl ?_
  refine sn_putI C hw fp_RX9_341 layM_0 rfl dX9_takesBy_5 (fun H locs hw => ?_)
  obtain ⟨σ_1, e_2, hf⟩ := sn_ltE hf
  rw [← e_2] at hw
  refine lv_iconst (v := 0) hx hb dX9_takesBy_8 rfl ?_
  refine lv_istore (lv' := [(5, .int (0 : Int32)), (4, .int (-1 : Int32)), (0, .ref (ad 0)), (1, .int x1), (2, .int x2), (3, .int x3)]) hx hb dX9_takesBy_9 hl (by decide) rfl (fun ls hl => ?_)
  obtain ⟨t_3, h_4, hf⟩ := sn_bd hf
  exact wX9_takesBy_L11 C  h_4 (fun v e => by cases e; exact wX9_takesBy_79 C  hf kr) _ _ _ hw (lv_sub hl [2, 3, 4, 5, 1, 0] rfl)
theorem ctX9_takesBy (l : Launch) {σ : sn_S} {x1 : Int32} {x2 : Int32} {x3 : Int32}  {o : (Int32 × sn_S)} (hf : fX9_takesBy σ x1 x2 x3 = some o) : sn_M l yX9_takesBy cX9_takesBy 7 (some .int) rmX9_takesBy layM (fun ad => [.ref (ad 0), .int x1, .int x2, .int x3]) σ (some (fun _ => .int o.1)) o.2 :=
  sn_met (by decide) (fun _ => Nat.le_of_ble_eq_true rfl) (fun p e s m args below meth c ls D ct ad C hw hl => wX9_takesBy_in C  hf (fun H locs ls pc hw ok hd => sn_iret C hw hd) _ _ _ hw hl)
-- X9_takes_
abbrev rmX9_takes_ : Room := { frames := 6, cells := 0, slots := 0, locals := 136 }
def fX9_takes_ (σ : sn_S) (x1 : Int32) : Option (Int32 × sn_S) :=
  ((fX9_asksPerson σ x1).bind fun t_1 => (if t_1.1 = 0 then
  (some ((-2 : Int32), t_1.2))
  else
  ((fX9_takesBy t_1.2 x1 (-1 : Int32) (0 : Int32)).bind fun t_4 => (some (t_4.1, t_4.2)))))
theorem wX9_takes__in (C : sn_C p s m args meth c RX9 cX9_takes_ 2 (some .int) D ct ad layM) {σ : sn_S} {x1 : Int32}  {o : (Int32 × sn_S)} (hf : fX9_takes_ σ x1 = some o) (kr : sn_Kr p l e rmX9_takes_ s m args below meth c Q D ct ad layM cX9_takes_ .ireturn (true) o.2 [.int o.1]) : sn_At p l e rmX9_takes_ s m args below meth c Q D ct ad layM 2 σ 0 [(0, .ref (ad 0)), (1, .int x1)] [] := by
  intro H locs ls hw hl
  have hx := C.1
  have hb := C.2.1
  unfold fX9_takes_ at hf
  refine lv_aload_n hx hb dX9_takes__0 rfl (lv_at hl 0 rfl) ?_
  refine lv_iload_n hx hb dX9_takes__1 rfl (lv_at hl 1 rfl) ?_
  obtain ⟨t_1, h_2, hf⟩ := sn_bd hf
  refine sn_callVi (rest := []) C hw (ctX9_asksPerson l  h_2) kl_RX9_284 layM_0 rfl rfl rfl rfl (Nat.le_of_ble_eq_true rfl) dX9_takes__2 hl.1 (fun H locs hw => ?_)
  refine lv_if_eq (tgt := 18) hx hb dX9_takes__5 (by decide) (fun c_3 => ?_) (fun c_3 => ?_)
  · have hf := sn_if c_3 hf
    refine lv_bipush (v := (-2)) hx hb dX9_takes__18 (by decide) ?_
    cases hf
    exact kr _ _ _ _ hw rfl dX9_takes__20
  · have hf := sn_el c_3 hf
    refine lv_aload_n hx hb dX9_takes__8 rfl (lv_at hl 0 rfl) ?_
    refine lv_iload_n hx hb dX9_takes__9 rfl (lv_at hl 1 rfl) ?_
    refine lv_iconst (v := (-1)) hx hb dX9_takes__10 rfl ?_
    refine lv_iconst (v := 0) hx hb dX9_takes__11 rfl ?_
    obtain ⟨t_4, h_5, hf⟩ := sn_bd hf
    refine sn_callVi (rest := []) C hw (ctX9_takesBy l  h_5) kl_RX9_344 layM_0 rfl rfl rfl rfl (Nat.le_of_ble_eq_true rfl) dX9_takes__12 hl.1 (fun H locs hw => ?_)
    refine lv_goto (tgt := 20) hx hb dX9_takes__15 (by decide) ?_
    cases hf
    exact kr _ _ _ _ hw rfl dX9_takes__20
theorem ctX9_takes_ (l : Launch) {σ : sn_S} {x1 : Int32}  {o : (Int32 × sn_S)} (hf : fX9_takes_ σ x1 = some o) : sn_M l yX9_takes_ cX9_takes_ 2 (some .int) rmX9_takes_ layM (fun ad => [.ref (ad 0), .int x1]) σ (some (fun _ => .int o.1)) o.2 :=
  sn_met (by decide) (fun _ => Nat.le_of_ble_eq_true rfl) (fun p e s m args below meth c ls D ct ad C hw hl => wX9_takes__in C  hf (fun H locs ls pc hw ok hd => sn_iret C hw hd) _ _ _ hw hl)
-- X9_gains
abbrev rmX9_gains : Room := { frames := 6, cells := 0, slots := 0, locals := 136 }
def fX9_gains (σ : sn_S) (x1 : Int32) : Option (Int32 × sn_S) :=
  ((fX9_asksPerson σ x1).bind fun t_1 => (if t_1.1 = 0 then
  (some ((-2 : Int32), t_1.2))
  else
  ((fX9_takesBy t_1.2 x1 (-1 : Int32) (0 : Int32)).bind fun t_4 => (some ((sn_I t_4.2 0 31), t_4.2)))))
theorem wX9_gains_in (C : sn_C p s m args meth c RX9 cX9_gains 2 (some .int) D ct ad layM) {σ : sn_S} {x1 : Int32}  {o : (Int32 × sn_S)} (hf : fX9_gains σ x1 = some o) (kr : sn_Kr p l e rmX9_gains s m args below meth c Q D ct ad layM cX9_gains .ireturn (true) o.2 [.int o.1]) : sn_At p l e rmX9_gains s m args below meth c Q D ct ad layM 2 σ 0 [(0, .ref (ad 0)), (1, .int x1)] [] := by
  intro H locs ls hw hl
  have hx := C.1
  have hb := C.2.1
  unfold fX9_gains at hf
  refine lv_aload_n hx hb dX9_gains_0 rfl (lv_at hl 0 rfl) ?_
  refine lv_iload_n hx hb dX9_gains_1 rfl (lv_at hl 1 rfl) ?_
  obtain ⟨t_1, h_2, hf⟩ := sn_bd hf
  refine sn_callVi (rest := []) C hw (ctX9_asksPerson l  h_2) kl_RX9_284 layM_0 rfl rfl rfl rfl (Nat.le_of_ble_eq_true rfl) dX9_gains_2 hl.1 (fun H locs hw => ?_)
  refine lv_if_ne (tgt := 11) hx hb dX9_gains_5 (by decide) (fun c_3 => ?_) (fun c_3 => ?_)
  · have hf := sn_el c_3 hf
    refine lv_aload_n hx hb dX9_gains_11 rfl (lv_at hl 0 rfl) ?_
    refine lv_iload_n hx hb dX9_gains_12 rfl (lv_at hl 1 rfl) ?_
    refine lv_iconst (v := (-1)) hx hb dX9_gains_13 rfl ?_
    refine lv_iconst (v := 0) hx hb dX9_gains_14 rfl ?_
    obtain ⟨t_4, h_5, hf⟩ := sn_bd hf
    refine sn_callVi (rest := []) C hw (ctX9_takesBy l  h_5) kl_RX9_344 layM_0 rfl rfl rfl rfl (Nat.le_of_ble_eq_true rfl) dX9_gains_15 hl.1 (fun H locs hw => ?_)
    refine lv_pop hx hb dX9_gains_18 rfl ?_
    refine lv_aload_n hx hb dX9_gains_19 rfl (lv_at hl 0 rfl) ?_
    refine sn_getI C hw fd_RX9_341 layM_0 rfl dX9_gains_20 ?_
    cases hf
    exact kr _ _ _ _ hw rfl dX9_gains_23
  · have hf := sn_if c_3 hf
    refine lv_bipush (v := (-2)) hx hb dX9_gains_8 (by decide) ?_
    cases hf
    exact kr _ _ _ _ hw rfl dX9_gains_10
theorem ctX9_gains (l : Launch) {σ : sn_S} {x1 : Int32}  {o : (Int32 × sn_S)} (hf : fX9_gains σ x1 = some o) : sn_M l yX9_gains cX9_gains 2 (some .int) rmX9_gains layM (fun ad => [.ref (ad 0), .int x1]) σ (some (fun _ => .int o.1)) o.2 :=
  sn_met (by decide) (fun _ => Nat.le_of_ble_eq_true rfl) (fun p e s m args below meth c ls D ct ad C hw hl => wX9_gains_in C  hf (fun H locs ls pc hw ok hd => sn_iret C hw hd) _ _ _ hw hl)
-- X9_isTaken
abbrev rmX9_isTaken : Room := { frames := 4, cells := 0, slots := 0, locals := 101 }
def BX9_isTaken_31 (σ : sn_S) : Option ((Int32 × sn_S)) :=
  (sn_gd (sn_b01 (0 : Int32)) (some ((0 : Int32), σ)))
def BX9_isTaken_2 (σ : sn_S) (x1 : Int32) (x2 : Int32) (x3 : Int32) : Option ((sn_S × Int32) ⊕ ((sn_S) ⊕ (Int32 × sn_S))) :=
  (sn_gd (sn_in (5 : Int32) 119) (if (sn_I σ 1 (5 : Int32).toNatClampNeg) ≤ x3 then
  (some (.inr (.inl (σ))))
  else
  ((fX9_takesBy σ x3 x1 x2).bind fun t_3 => (if t_3.1 = x1 then
  (sn_gd (sn_b01 (1 : Int32)) (some (.inr (.inr ((1 : Int32), t_3.2)))))
  else
  (sn_lt (x3 + 1) fun y_6 => (some (.inl (t_3.2, y_6))))))))
def LX9_isTaken_2 (x1 : Int32) (x2 : Int32) (s : sn_S × Int32) : Option ((sn_S × Int32) ⊕ ((sn_S) ⊕ (Int32 × sn_S))) := BX9_isTaken_2 s.1 x1 x2 s.2
def fX9_isTaken (σ : sn_S) (x1 : Int32) (x2 : Int32) : Option (Int32 × sn_S) :=
  ((sn_it (LX9_isTaken_2 x1 x2) 5000 (σ, (0 : Int32))).bind fun t_1 => Sum.elim (fun v_3 => (BX9_isTaken_31 v_3)) (fun r_4 => (some r_4)) t_1)
theorem wX9_isTaken_31 (C : sn_C p s m args meth c RX9 cX9_isTaken 4 (some .boolean) D ct ad layM) {σ : sn_S}  {o : (Int32 × sn_S)} (hf : BX9_isTaken_31 σ = some o) (kr : sn_Kr p l e rmX9_isTaken s m args below meth c Q D ct ad layM cX9_isTaken .ireturn (sn_b01 o.1) o.2 [.int o.1]) : sn_At p l e rmX9_isTaken s m args below meth c Q D ct ad layM 4 σ 31 [] [] := by
  intro H locs ls hw hl
  have hx := C.1
  have hb := C.2.1
  unfold BX9_isTaken_31 at hf
  refine lv_iconst (v := 0) hx hb dX9_isTaken_31 rfl ?_
  obtain ⟨g_1, hf⟩ := sn_gdE hf
  cases hf
  exact kr _ _ _ _ hw g_1 dX9_isTaken_32
theorem wX9_isTaken_2 (C : sn_C p s m args meth c RX9 cX9_isTaken 4 (some .boolean) D ct ad layM) {σ : sn_S} {x1 : Int32} {x2 : Int32} {x3 : Int32}  {o : (sn_S × Int32) ⊕ ((sn_S) ⊕ (Int32 × sn_S))} (hf : BX9_isTaken_2 σ x1 x2 x3 = some o) (kc : ∀ v, o = .inl v → sn_At p l e rmX9_isTaken s m args below meth c Q D ct ad layM 4 v.1 2 [(0, .ref (ad 0)), (1, .int x1), (2, .int x2), (3, .int v.2)] []) (kx : ∀ v, o = .inr (.inl v) → sn_At p l e rmX9_isTaken s m args below meth c Q D ct ad layM 4 v 31 [] []) (kr : ∀ r, o = .inr (.inr r) → sn_Kr p l e rmX9_isTaken s m args below meth c Q D ct ad layM cX9_isTaken .ireturn (sn_b01 r.1) r.2 [.int r.1]) : sn_At p l e rmX9_isTaken s m args below meth c Q D ct ad layM 4 σ 2 [(0, .ref (ad 0)), (1, .int x1), (2, .int x2), (3, .int x3)] [] := by
  intro H locs ls hw hl
  have hx := C.1
  have hb := C.2.1
  unfold BX9_isTaken_2 at hf
  refine lv_iload_n hx hb dX9_isTaken_2 rfl (lv_at hl 3 rfl) ?_
  refine lv_aload_n hx hb dX9_isTaken_3 rfl (lv_at hl 0 rfl) ?_
  refine sn_getC (r := 1) C hw fd_RX9_9 layM_0 rfl dX9_isTaken_4 ?_
  refine lv_iconst (v := 5) hx hb dX9_isTaken_7 rfl ?_
  obtain ⟨g_1, hf⟩ := sn_gdE hf
  refine sn_iald C hw layM_1 g_1 dX9_isTaken_8 ?_
  refine lv_icmp_ge (tgt := 31) hx hb dX9_isTaken_9 (by decide) (fun c_2 => ?_) (fun c_2 => ?_)
  · have hf := sn_if c_2 hf
    cases hf
    exact kx _ rfl _ _ _ hw (lv_sub hl [] rfl)
  · have hf := sn_el c_2 hf
    refine lv_aload_n hx hb dX9_isTaken_12 rfl (lv_at hl 0 rfl) ?_
    refine lv_iload_n hx hb dX9_isTaken_13 rfl (lv_at hl 3 rfl) ?_
    refine lv_iload_n hx hb dX9_isTaken_14 rfl (lv_at hl 1 rfl) ?_
    refine lv_iload_n hx hb dX9_isTaken_15 rfl (lv_at hl 2 rfl) ?_
    obtain ⟨t_3, h_4, hf⟩ := sn_bd hf
    refine sn_callVi (rest := []) C hw (ctX9_takesBy l  h_4) kl_RX9_344 layM_0 rfl rfl rfl rfl (Nat.le_of_ble_eq_true rfl) dX9_isTaken_16 hl.1 (fun H locs hw => ?_)
    refine lv_iload_n hx hb dX9_isTaken_19 rfl (lv_at hl 1 rfl) ?_
    refine lv_icmp_ne (tgt := 25) hx hb dX9_isTaken_20 (by decide) (fun c_5 => ?_) (fun c_5 => ?_)
    · have hf := sn_el c_5 hf
      obtain ⟨y_6, e_7, hf⟩ := sn_ltE hf
      refine lv_iinc (v := y_6) (lv' := [(3, .int y_6), (0, .ref (ad 0)), (1, .int x1), (2, .int x2)]) hx hb dX9_isTaken_25 hl (k := 3) rfl (by rw [e_7]; rfl) (by decide) rfl (fun ls hl => ?_)
      refine lv_goto (tgt := 2) hx hb dX9_isTaken_28 (by decide) ?_
      cases hf
      exact kc _ rfl _ _ _ hw (lv_sub hl [1, 2, 3, 0] rfl)
    · have hf := sn_if c_5 hf
      refine lv_iconst (v := 1) hx hb dX9_isTaken_23 rfl ?_
      obtain ⟨g_8, hf⟩ := sn_gdE hf
      cases hf
      exact kr _ rfl _ _ _ _ hw g_8 dX9_isTaken_24
theorem wX9_isTaken_L2 (C : sn_C p s m args meth c RX9 cX9_isTaken 4 (some .boolean) D ct ad layM) {x1 : Int32} {x2 : Int32}   {z : sn_S × Int32} {t : (sn_S) ⊕ (Int32 × sn_S)} (h : sn_it (LX9_isTaken_2 x1 x2) 5000 z = some t) (kx : ∀ v, t = .inl v → sn_At p l e rmX9_isTaken s m args below meth c Q D ct ad layM 4 v 31 [] []) (kr : ∀ r, t = .inr r → sn_Kr p l e rmX9_isTaken s m args below meth c Q D ct ad layM cX9_isTaken .ireturn (sn_b01 r.1) r.2 [.int r.1]) : sn_At p l e rmX9_isTaken s m args below meth c Q D ct ad layM 4 z.1 2 [(0, .ref (ad 0)), (1, .int x1), (2, .int x2), (3, .int z.2)] [] :=
  sn_loop (f := LX9_isTaken_2 x1 x2) (G := fun z => sn_At p l e rmX9_isTaken s m args below meth c Q D ct ad layM 4 z.1 2 [(0, .ref (ad 0)), (1, .int x1), (2, .int x2), (3, .int z.2)] []) (E := fun t => (∀ v, t = .inl v → sn_At p l e rmX9_isTaken s m args below meth c Q D ct ad layM 4 v 31 [] []) ∧ (∀ r, t = .inr r → sn_Kr p l e rmX9_isTaken s m args below meth c Q D ct ad layM cX9_isTaken .ireturn (sn_b01 r.1) r.2 [.int r.1])) (fun z o hf k1 k2 => wX9_isTaken_2 C  hf (fun v e => k1 v e) (fun v e => (k2 _ e).1 v rfl) (fun r e => (k2 _ e).2 r rfl)) 5000 z t h ⟨kx, kr⟩
theorem wX9_isTaken_in (C : sn_C p s m args meth c RX9 cX9_isTaken 4 (some .boolean) D ct ad layM) {σ : sn_S} {x1 : Int32} {x2 : Int32}  {o : (Int32 × sn_S)} (hf : fX9_isTaken σ x1 x2 = some o) (kr : sn_Kr p l e rmX9_isTaken s m args below meth c Q D ct ad layM cX9_isTaken .ireturn (sn_b01 o.1) o.2 [.int o.1]) : sn_At p l e rmX9_isTaken s m args below meth c Q D ct ad layM 4 σ 0 [(0, .ref (ad 0)), (1, .int x1), (2, .int x2)] [] := by
  intro H locs ls hw hl
  have hx := C.1
  have hb := C.2.1
  unfold fX9_isTaken at hf
  refine lv_iconst (v := 0) hx hb dX9_isTaken_0 rfl ?_
  refine lv_istore_n (lv' := [(3, .int (0 : Int32)), (0, .ref (ad 0)), (1, .int x1), (2, .int x2)]) hx hb dX9_isTaken_1 rfl hl (by decide) rfl (fun ls hl => ?_)
  obtain ⟨t_1, h_2, hf⟩ := sn_bd hf
  rcases t_1 with v_3 | r_4
  · rw [Sum.elim_inl] at hf
    exact wX9_isTaken_L2 C  h_2 (fun v e => by cases e; exact wX9_isTaken_31 C  hf kr) (fun r e => by cases e) _ _ _ hw (lv_sub hl [1, 2, 3, 0] rfl)
  · rw [Sum.elim_inr] at hf
    cases hf
    exact wX9_isTaken_L2 C  h_2 (fun v e => by cases e) (fun r e => by cases e; exact kr) _ _ _ hw (lv_sub hl [1, 2, 3, 0] rfl)
theorem ctX9_isTaken (l : Launch) {σ : sn_S} {x1 : Int32} {x2 : Int32}  {o : (Int32 × sn_S)} (hf : fX9_isTaken σ x1 x2 = some o) : sn_M l yX9_isTaken cX9_isTaken 4 (some .boolean) rmX9_isTaken layM (fun ad => [.ref (ad 0), .int x1, .int x2]) σ (some (fun _ => .int o.1)) o.2 :=
  sn_met (by decide) (fun _ => Nat.le_of_ble_eq_true rfl) (fun p e s m args below meth c ls D ct ad C hw hl => wX9_isTaken_in C  hf (fun H locs ls pc hw ok hd => sn_zret C hw ok hd) _ _ _ hw hl)
-- X9_price
abbrev rmX9_price : Room := { frames := 6, cells := 0, slots := 0, locals := 136 }
def BX9_price_28 (σ : sn_S) (x2 : Int32) : Option ((Int32 × sn_S)) :=
  (some (x2, σ))
def BX9_price_13 (σ : sn_S) (x1 : Int32) (x2 : Int32) : Option ((sn_S × Int32) ⊕ (sn_S × Int32)) :=
  ((fX9_isTaken σ x1 x2).bind fun t_1 => (if t_1.1 = 0 then
  (some (.inr (t_1.2, x2)))
  else
  (sn_lt (x2 + 1) fun y_4 => (some (.inl (t_1.2, y_4))))))
def LX9_price_13 (x1 : Int32) (s : sn_S × Int32) : Option ((sn_S × Int32) ⊕ (sn_S × Int32)) := BX9_price_13 s.1 x1 s.2
def fX9_price (σ : sn_S) (x1 : Int32) : Option (Int32 × sn_S) :=
  ((fX9_asksPolicy σ x1).bind fun t_1 => (if t_1.1 = 0 then
  (some ((-2 : Int32), t_1.2))
  else
  ((sn_it (LX9_price_13 x1) 5000 (t_1.2, (0 : Int32))).bind fun t_4 => (BX9_price_28 t_4.1 t_4.2))))
theorem wX9_price_28 (C : sn_C p s m args meth c RX9 cX9_price 3 (some .int) D ct ad layM) {σ : sn_S} {x2 : Int32}  {o : (Int32 × sn_S)} (hf : BX9_price_28 σ x2 = some o) (kr : sn_Kr p l e rmX9_price s m args below meth c Q D ct ad layM cX9_price .ireturn (true) o.2 [.int o.1]) : sn_At p l e rmX9_price s m args below meth c Q D ct ad layM 3 σ 28 [(2, .int x2)] [] := by
  intro H locs ls hw hl
  have hx := C.1
  have hb := C.2.1
  unfold BX9_price_28 at hf
  refine lv_iload_n hx hb dX9_price_28 rfl (lv_at hl 0 rfl) ?_
  cases hf
  exact kr _ _ _ _ hw rfl dX9_price_29
theorem wX9_price_13 (C : sn_C p s m args meth c RX9 cX9_price 3 (some .int) D ct ad layM) {σ : sn_S} {x1 : Int32} {x2 : Int32}  {o : (sn_S × Int32) ⊕ (sn_S × Int32)} (hf : BX9_price_13 σ x1 x2 = some o) (kc : ∀ v, o = .inl v → sn_At p l e rmX9_price s m args below meth c Q D ct ad layM 3 v.1 13 [(0, .ref (ad 0)), (1, .int x1), (2, .int v.2)] []) (kx : ∀ v, o = .inr v → sn_At p l e rmX9_price s m args below meth c Q D ct ad layM 3 v.1 28 [(2, .int v.2)] []) : sn_At p l e rmX9_price s m args below meth c Q D ct ad layM 3 σ 13 [(0, .ref (ad 0)), (1, .int x1), (2, .int x2)] [] := by
  intro H locs ls hw hl
  have hx := C.1
  have hb := C.2.1
  unfold BX9_price_13 at hf
  refine lv_aload_n hx hb dX9_price_13 rfl (lv_at hl 0 rfl) ?_
  refine lv_iload_n hx hb dX9_price_14 rfl (lv_at hl 1 rfl) ?_
  refine lv_iload_n hx hb dX9_price_15 rfl (lv_at hl 2 rfl) ?_
  obtain ⟨t_1, h_2, hf⟩ := sn_bd hf
  refine sn_callVi (rest := []) C hw (ctX9_isTaken l  h_2) kl_RX9_348 layM_0 rfl rfl rfl rfl (Nat.le_of_ble_eq_true rfl) dX9_price_16 hl.1 (fun H locs hw => ?_)
  refine lv_if_eq (tgt := 28) hx hb dX9_price_19 (by decide) (fun c_3 => ?_) (fun c_3 => ?_)
  · have hf := sn_if c_3 hf
    cases hf
    exact kx _ rfl _ _ _ hw (lv_sub hl [2] rfl)
  · have hf := sn_el c_3 hf
    obtain ⟨y_4, e_5, hf⟩ := sn_ltE hf
    refine lv_iinc (v := y_4) (lv' := [(2, .int y_4), (0, .ref (ad 0)), (1, .int x1)]) hx hb dX9_price_22 hl (k := 2) rfl (by rw [e_5]; rfl) (by decide) rfl (fun ls hl => ?_)
    refine lv_goto (tgt := 13) hx hb dX9_price_25 (by decide) ?_
    cases hf
    exact kc _ rfl _ _ _ hw (lv_sub hl [1, 2, 0] rfl)
theorem wX9_price_L13 (C : sn_C p s m args meth c RX9 cX9_price 3 (some .int) D ct ad layM) {x1 : Int32}   {z : sn_S × Int32} {t : sn_S × Int32} (h : sn_it (LX9_price_13 x1) 5000 z = some t) (kx : ∀ v, t = v → sn_At p l e rmX9_price s m args below meth c Q D ct ad layM 3 v.1 28 [(2, .int v.2)] []) : sn_At p l e rmX9_price s m args below meth c Q D ct ad layM 3 z.1 13 [(0, .ref (ad 0)), (1, .int x1), (2, .int z.2)] [] :=
  sn_loop (f := LX9_price_13 x1) (G := fun z => sn_At p l e rmX9_price s m args below meth c Q D ct ad layM 3 z.1 13 [(0, .ref (ad 0)), (1, .int x1), (2, .int z.2)] []) (E := fun t => (∀ v, t = v → sn_At p l e rmX9_price s m args below meth c Q D ct ad layM 3 v.1 28 [(2, .int v.2)] []) ∧ True) (fun z o hf k1 k2 => wX9_price_13 C  hf (fun v e => k1 v e) (fun v e => (k2 _ e).1 v rfl)) 5000 z t h ⟨kx, trivial⟩
theorem wX9_price_in (C : sn_C p s m args meth c RX9 cX9_price 3 (some .int) D ct ad layM) {σ : sn_S} {x1 : Int32}  {o : (Int32 × sn_S)} (hf : fX9_price σ x1 = some o) (kr : sn_Kr p l e rmX9_price s m args below meth c Q D ct ad layM cX9_price .ireturn (true) o.2 [.int o.1]) : sn_At p l e rmX9_price s m args below meth c Q D ct ad layM 3 σ 0 [(0, .ref (ad 0)), (1, .int x1)] [] := by
  intro H locs ls hw hl
  have hx := C.1
  have hb := C.2.1
  unfold fX9_price at hf
  refine lv_aload_n hx hb dX9_price_0 rfl (lv_at hl 0 rfl) ?_
  refine lv_iload_n hx hb dX9_price_1 rfl (lv_at hl 1 rfl) ?_
  obtain ⟨t_1, h_2, hf⟩ := sn_bd hf
  refine sn_callVi (rest := []) C hw (ctX9_asksPolicy l  h_2) kl_RX9_323 layM_0 rfl rfl rfl rfl (Nat.le_of_ble_eq_true rfl) dX9_price_2 hl.1 (fun H locs hw => ?_)
  refine lv_if_ne (tgt := 11) hx hb dX9_price_5 (by decide) (fun c_3 => ?_) (fun c_3 => ?_)
  · have hf := sn_el c_3 hf
    refine lv_iconst (v := 0) hx hb dX9_price_11 rfl ?_
    refine lv_istore_n (lv' := [(2, .int (0 : Int32)), (0, .ref (ad 0)), (1, .int x1)]) hx hb dX9_price_12 rfl hl (by decide) rfl (fun ls hl => ?_)
    obtain ⟨t_4, h_5, hf⟩ := sn_bd hf
    exact wX9_price_L13 C  h_5 (fun v e => by cases e; exact wX9_price_28 C  hf kr) _ _ _ hw (lv_sub hl [1, 2, 0] rfl)
  · have hf := sn_if c_3 hf
    refine lv_bipush (v := (-2)) hx hb dX9_price_8 (by decide) ?_
    cases hf
    exact kr _ _ _ _ hw rfl dX9_price_10
theorem ctX9_price (l : Launch) {σ : sn_S} {x1 : Int32}  {o : (Int32 × sn_S)} (hf : fX9_price σ x1 = some o) : sn_M l yX9_price cX9_price 3 (some .int) rmX9_price layM (fun ad => [.ref (ad 0), .int x1]) σ (some (fun _ => .int o.1)) o.2 :=
  sn_met (by decide) (fun _ => Nat.le_of_ble_eq_true rfl) (fun p e s m args below meth c ls D ct ad C hw hl => wX9_price_in C  hf (fun H locs ls pc hw ok hd => sn_iret C hw hd) _ _ _ hw hl)
-- X9_tickleSince
abbrev rmX9_tickleSince : Room := { frames := 0, cells := 0, slots := 0, locals := 0 }
def BX9_tickleSince_35 (σ : sn_S) (x4 : Int32) : Option (Int32) :=
  (some x4)
def BX9_tickleSince_6 (σ : sn_S) (x1 : Int32) (x3 : Int32) (x4 : Int32) (x5 : Int32) : Option ((Int32 × Int32) ⊕ (Int32)) :=
  (if x3 < x5 then
  (some (.inr (x4)))
  else
  (sn_gd (sn_in (((6 : Int32) * x5) + x1) 180) (sn_lt (x4 + (sn_I σ 13 (((6 : Int32) * x5) + x1).toNatClampNeg)) fun y_3 => (sn_lt (x5 + 1) fun y_5 => (some (.inl (y_3, y_5)))))))
def LX9_tickleSince_6 (σ : sn_S) (x1 : Int32) (x3 : Int32) (s : Int32 × Int32) : Option ((Int32 × Int32) ⊕ (Int32)) := BX9_tickleSince_6 σ x1 x3 s.1 s.2
def fX9_tickleSince (σ : sn_S) (x1 : Int32) (x2 : Int32) (x3 : Int32) : Option Int32 :=
  ((sn_it (LX9_tickleSince_6 σ x1 x3) 5000 ((0 : Int32), x2)).bind fun t_1 => (BX9_tickleSince_35 σ t_1))
theorem wX9_tickleSince_35 (C : sn_C p s m args meth c RX9 cX9_tickleSince 6 (some .int) D ct ad layM) {σ : sn_S} {x4 : Int32}  {o : Int32} (hf : BX9_tickleSince_35 σ x4 = some o) (kr : sn_Kr p l e rmX9_tickleSince s m args below meth c Q D ct ad layM cX9_tickleSince .ireturn (true) σ [.int o]) : sn_At p l e rmX9_tickleSince s m args below meth c Q D ct ad layM 6 σ 35 [(4, .int x4)] [] := by
  intro H locs ls hw hl
  have hx := C.1
  have hb := C.2.1
  unfold BX9_tickleSince_35 at hf
  refine lv_iload hx hb dX9_tickleSince_35 (lv_at hl 0 rfl) ?_
  cases hf
  exact kr _ _ _ _ hw rfl dX9_tickleSince_37
theorem wX9_tickleSince_6 (C : sn_C p s m args meth c RX9 cX9_tickleSince 6 (some .int) D ct ad layM) {σ : sn_S} {x1 : Int32} {x3 : Int32} {x4 : Int32} {x5 : Int32}  {o : (Int32 × Int32) ⊕ (Int32)} (hf : BX9_tickleSince_6 σ x1 x3 x4 x5 = some o) (kc : ∀ v, o = .inl v → sn_At p l e rmX9_tickleSince s m args below meth c Q D ct ad layM 6 σ 6 [(0, .ref (ad 0)), (1, .int x1), (3, .int x3), (4, .int v.1), (5, .int v.2)] []) (kx : ∀ v, o = .inr v → sn_At p l e rmX9_tickleSince s m args below meth c Q D ct ad layM 6 σ 35 [(4, .int v)] []) : sn_At p l e rmX9_tickleSince s m args below meth c Q D ct ad layM 6 σ 6 [(0, .ref (ad 0)), (1, .int x1), (3, .int x3), (4, .int x4), (5, .int x5)] [] := by
  intro H locs ls hw hl
  have hx := C.1
  have hb := C.2.1
  unfold BX9_tickleSince_6 at hf
  refine lv_iload hx hb dX9_tickleSince_6 (lv_at hl 4 rfl) ?_
  refine lv_iload_n hx hb dX9_tickleSince_8 rfl (lv_at hl 2 rfl) ?_
  refine lv_icmp_gt (tgt := 35) hx hb dX9_tickleSince_9 (by decide) (fun c_1 => ?_) (fun c_1 => ?_)
  · have hf := sn_if c_1 hf
    cases hf
    exact kx _ rfl _ _ _ hw (lv_sub hl [3] rfl)
  · have hf := sn_el c_1 hf
    refine lv_iload hx hb dX9_tickleSince_12 (lv_at hl 3 rfl) ?_
    refine lv_aload_n hx hb dX9_tickleSince_14 rfl (lv_at hl 0 rfl) ?_
    refine sn_getC (r := 13) C hw fd_RX9_52 layM_0 rfl dX9_tickleSince_15 ?_
    refine lv_bipush (v := 6) hx hb dX9_tickleSince_18 (by decide) ?_
    refine lv_iload hx hb dX9_tickleSince_20 (lv_at hl 4 rfl) ?_
    refine lv_imul hx hb dX9_tickleSince_22 ?_
    refine lv_iload_n hx hb dX9_tickleSince_23 rfl (lv_at hl 1 rfl) ?_
    refine lv_iadd hx hb dX9_tickleSince_24 ?_
    obtain ⟨g_2, hf⟩ := sn_gdE hf
    refine sn_iald C hw layM_13 g_2 dX9_tickleSince_25 ?_
    refine lv_iadd hx hb dX9_tickleSince_26 ?_
    obtain ⟨y_3, e_4, hf⟩ := sn_ltE hf
    refine lv_topi (fun y_3_ e_4_ => ?_)
    obtain rfl : y_3 = y_3_ := e_4.trans e_4_.symm
    refine lv_istore (lv' := [(4, .int y_3), (0, .ref (ad 0)), (1, .int x1), (3, .int x3), (5, .int x5)]) hx hb dX9_tickleSince_27 hl (by decide) rfl (fun ls hl => ?_)
    obtain ⟨y_5, e_6, hf⟩ := sn_ltE hf
    refine lv_iinc (v := y_5) (lv' := [(5, .int y_5), (4, .int y_3), (0, .ref (ad 0)), (1, .int x1), (3, .int x3)]) hx hb dX9_tickleSince_29 hl (k := 4) rfl (by rw [e_6]; rfl) (by decide) rfl (fun ls hl => ?_)
    refine lv_goto (tgt := 6) hx hb dX9_tickleSince_32 (by decide) ?_
    cases hf
    exact kc _ rfl _ _ _ hw (lv_sub hl [2, 3, 4, 1, 0] rfl)
theorem wX9_tickleSince_L6 (C : sn_C p s m args meth c RX9 cX9_tickleSince 6 (some .int) D ct ad layM) {σ : sn_S} {x1 : Int32} {x3 : Int32}   {z : Int32 × Int32} {t : Int32} (h : sn_it (LX9_tickleSince_6 σ x1 x3) 5000 z = some t) (kx : ∀ v, t = v → sn_At p l e rmX9_tickleSince s m args below meth c Q D ct ad layM 6 σ 35 [(4, .int v)] []) : sn_At p l e rmX9_tickleSince s m args below meth c Q D ct ad layM 6 σ 6 [(0, .ref (ad 0)), (1, .int x1), (3, .int x3), (4, .int z.1), (5, .int z.2)] [] :=
  sn_loop (f := LX9_tickleSince_6 σ x1 x3) (G := fun z => sn_At p l e rmX9_tickleSince s m args below meth c Q D ct ad layM 6 σ 6 [(0, .ref (ad 0)), (1, .int x1), (3, .int x3), (4, .int z.1), (5, .int z.2)] []) (E := fun t => (∀ v, t = v → sn_At p l e rmX9_tickleSince s m args below meth c Q D ct ad layM 6 σ 35 [(4, .int v)] []) ∧ True) (fun z o hf k1 k2 => wX9_tickleSince_6 C  hf (fun v e => k1 v e) (fun v e => (k2 _ e).1 v rfl)) 5000 z t h ⟨kx, trivial⟩
theorem wX9_tickleSince_in (C : sn_C p s m args meth c RX9 cX9_tickleSince 6 (some .int) D ct ad layM) {σ : sn_S} {x1 : Int32} {x2 : Int32} {x3 : Int32}  {o : Int32} (hf : fX9_tickleSince σ x1 x2 x3 = some o) (kr : sn_Kr p l e rmX9_tickleSince s m args below meth c Q D ct ad layM cX9_tickleSince .ireturn (true) σ [.int o]) : sn_At p l e rmX9_tickleSince s m args below meth c Q D ct ad layM 6 σ 0 [(0, .ref (ad 0)), (1, .int x1), (2, .int x2), (3, .int x3)] [] := by
  intro H locs ls hw hl
  have hx := C.1
  have hb := C.2.1
  unfold fX9_tickleSince at hf
  refine lv_iconst (v := 0) hx hb dX9_tickleSince_0 rfl ?_
  refine lv_istore (lv' := [(4, .int (0 : Int32)), (0, .ref (ad 0)), (1, .int x1), (2, .int x2), (3, .int x3)]) hx hb dX9_tickleSince_1 hl (by decide) rfl (fun ls hl => ?_)
  refine lv_iload_n hx hb dX9_tickleSince_3 rfl (lv_at hl 3 rfl) ?_
  refine lv_istore (lv' := [(5, .int x2), (4, .int (0 : Int32)), (0, .ref (ad 0)), (1, .int x1), (2, .int x2), (3, .int x3)]) hx hb dX9_tickleSince_4 hl (by decide) rfl (fun ls hl => ?_)
  obtain ⟨t_1, h_2, hf⟩ := sn_bd hf
  exact wX9_tickleSince_L6 C  h_2 (fun v e => by cases e; exact wX9_tickleSince_35 C  hf kr) _ _ _ hw (lv_sub hl [2, 3, 5, 1, 0] rfl)
theorem ctX9_tickleSince (l : Launch) {σ : sn_S} {x1 : Int32} {x2 : Int32} {x3 : Int32}  {o : Int32} (hf : fX9_tickleSince σ x1 x2 x3 = some o) : sn_M l yX9_tickleSince cX9_tickleSince 6 (some .int) rmX9_tickleSince layM (fun ad => [.ref (ad 0), .int x1, .int x2, .int x3]) σ (some (fun _ => .int o)) σ :=
  sn_met (by decide) (fun _ => Nat.le_of_ble_eq_true rfl) (fun p e s m args below meth c ls D ct ad C hw hl => wX9_tickleSince_in C  hf (fun H locs ls pc hw ok hd => sn_iret C hw hd) _ _ _ hw hl)
-- X9_layHold
abbrev rmX9_layHold : Room := { frames := 1, cells := 0, slots := 0, locals := 25 }
def BX9_layHold_185 (σ : sn_S) (x5 : Int32) (x7 : Int32) (t0 : Int32) : Option (sn_S) :=
  (if t0 = 0 then
  (some σ)
  else
  (sn_gd (sn_in x7 961) (sn_gd (sn_in x5 961) (sn_lt (sn_pI σ 17 x5.toNatClampNeg (sn_I σ 17 x7.toNatClampNeg)) fun σ_4 => (sn_gd (sn_in x7 961) (sn_gd (sn_in x5 961) (sn_lt (sn_pI σ_4 18 x5.toNatClampNeg (sn_I σ_4 18 x7.toNatClampNeg)) fun σ_8 => (some σ_8))))))))
def BX9_layHold_184 (σ : sn_S) (x5 : Int32) (x7 : Int32) : Option (sn_S) :=
  (BX9_layHold_185 σ x5 x7 (0 : Int32))
def BX9_layHold_180 (σ : sn_S) (x5 : Int32) (x7 : Int32) : Option (sn_S) :=
  (BX9_layHold_185 σ x5 x7 (1 : Int32))
def fX9_layHold (σ : sn_S) (x1 : Int32) (x2 : Int32) (x3 : Int32) (x4 : Int32) : Option sn_S :=
  (sn_lt (((31 : Int32) * x3) + x4) fun y_1 => (sn_lt (((31 : Int32) * (x3 + (1 : Int32))) + x4) fun y_3 => (sn_gd (sn_in y_3 961) (sn_gd (sn_in y_1 961) (sn_lt (sn_pI σ 17 y_1.toNatClampNeg (sn_I σ 17 y_3.toNatClampNeg)) fun σ_7 => (sn_gd (sn_in y_3 961) (sn_gd (sn_in y_1 961) (sn_lt (sn_pI σ_7 18 y_1.toNatClampNeg (sn_I σ_7 18 y_3.toNatClampNeg)) fun σ_11 => ((fX9_tickleSince σ_11 x1 x4 x3).bind fun t_13 => (sn_gd (sn_in (((11 : Int32) + ((2 : Int32) * x1)) + (1 : Int32)) 119) (if (sn_I σ_11 1 (((11 : Int32) + ((2 : Int32) * x1)) + (1 : Int32)).toNatClampNeg) ≤ t_13 then
  (sn_gd (sn_in y_3 961) (sn_gd (sn_in y_1 961) (sn_lt (sn_pI σ_11 17 y_1.toNatClampNeg ((sn_I σ_11 17 y_3.toNatClampNeg) + (1 : Int32))) fun σ_19 => (sn_gd (sn_in y_3 961) (sn_gd (sn_in y_1 961) (sn_lt (sn_pI σ_19 18 y_1.toNatClampNeg ((sn_I σ_19 18 y_3.toNatClampNeg) ||| ((1 : Int32) <<< (x3 &&& 31)))) fun σ_23 => ((fX9_bit x2 x3).bind fun t_25 => (if t_25 = (1 : Int32) then
  (some σ_23)
  else
  (sn_lt ((((31 : Int32) * (x3 + (1 : Int32))) + x3) + (1 : Int32)) fun y_28 => (sn_gd (sn_in y_28 961) (sn_gd (sn_in y_1 961) (if (sn_I σ_23 17 y_28.toNatClampNeg) < (sn_I σ_23 17 y_1.toNatClampNeg) then
  (BX9_layHold_180 σ_23 y_1 y_28)
  else
  (sn_gd (sn_in y_28 961) (sn_gd (sn_in y_1 961) (if (sn_I σ_23 17 y_28.toNatClampNeg) = (sn_I σ_23 17 y_1.toNatClampNeg) then
  (sn_gd (sn_in y_28 961) (sn_gd (sn_in y_1 961) (if (sn_I σ_23 18 y_1.toNatClampNeg) ≤ (sn_I σ_23 18 y_28.toNatClampNeg) then
  (BX9_layHold_184 σ_23 y_1 y_28)
  else
  (BX9_layHold_180 σ_23 y_1 y_28))))
  else
  (BX9_layHold_184 σ_23 y_1 y_28))))))))))))))))
  else
  (some σ_11))))))))))))
theorem wX9_layHold_185 (C : sn_C p s m args meth c RX9 cX9_layHold 9 none D ct ad layM) {σ : sn_S} {x5 : Int32} {x7 : Int32} {t0 : Int32}  {o : sn_S} (hf : BX9_layHold_185 σ x5 x7 t0 = some o) (kr : sn_Kr p l e rmX9_layHold s m args below meth c Q D ct ad layM cX9_layHold .return_ (true) o []) : sn_At p l e rmX9_layHold s m args below meth c Q D ct ad layM 9 σ 185 [(0, .ref (ad 0)), (5, .int x5), (7, .int x7)] [.int t0] := by
  intro H locs ls hw hl
  have hx := C.1
  have hb := C.2.1
  unfold BX9_layHold_185 at hf
  refine lv_istore (lv' := [(8, .int t0), (0, .ref (ad 0)), (5, .int x5), (7, .int x7)]) hx hb dX9_layHold_185 hl (by decide) rfl (fun ls hl => ?_)
  refine lv_iload hx hb dX9_layHold_187 (lv_at hl 0 rfl) ?_
  refine lv_if_ne (tgt := 193) hx hb dX9_layHold_189 (by decide) (fun c_1 => ?_) (fun c_1 => ?_)
  · have hf := sn_el c_1 hf
    refine lv_aload_n hx hb dX9_layHold_193 rfl (lv_at hl 1 rfl) ?_
    refine sn_getC (r := 17) C hw fd_RX9_64 layM_0 rfl dX9_layHold_194 ?_
    refine lv_iload hx hb dX9_layHold_197 (lv_at hl 2 rfl) ?_
    refine lv_aload_n hx hb dX9_layHold_199 rfl (lv_at hl 1 rfl) ?_
    refine sn_getC (r := 17) C hw fd_RX9_64 layM_0 rfl dX9_layHold_200 ?_
    refine lv_iload hx hb dX9_layHold_203 (lv_at hl 3 rfl) ?_
    obtain ⟨g_2, hf⟩ := sn_gdE hf
    refine sn_iald C hw layM_17 g_2 dX9_layHold_205 ?_
    obtain ⟨g_3, hf⟩ := sn_gdE hf
    refine sn_iast C hw layM_17 g_3 dX9_layHold_206 (fun H locs hw => ?_)
    obtain ⟨σ_4, e_5, hf⟩ := sn_ltE hf
    rw [← e_5] at hw
    refine lv_aload_n hx hb dX9_layHold_207 rfl (lv_at hl 1 rfl) ?_
    refine sn_getC (r := 18) C hw fd_RX9_67 layM_0 rfl dX9_layHold_208 ?_
    refine lv_iload hx hb dX9_layHold_211 (lv_at hl 2 rfl) ?_
    refine lv_aload_n hx hb dX9_layHold_213 rfl (lv_at hl 1 rfl) ?_
    refine sn_getC (r := 18) C hw fd_RX9_67 layM_0 rfl dX9_layHold_214 ?_
    refine lv_iload hx hb dX9_layHold_217 (lv_at hl 3 rfl) ?_
    obtain ⟨g_6, hf⟩ := sn_gdE hf
    refine sn_iald C hw layM_18 g_6 dX9_layHold_219 ?_
    obtain ⟨g_7, hf⟩ := sn_gdE hf
    refine sn_iast C hw layM_18 g_7 dX9_layHold_220 (fun H locs hw => ?_)
    obtain ⟨σ_8, e_9, hf⟩ := sn_ltE hf
    rw [← e_9] at hw
    cases hf
    exact kr _ _ _ _ hw rfl dX9_layHold_221
  · have hf := sn_if c_1 hf
    cases hf
    exact kr _ _ _ _ hw rfl dX9_layHold_192
theorem wX9_layHold_184 (C : sn_C p s m args meth c RX9 cX9_layHold 9 none D ct ad layM) {σ : sn_S} {x5 : Int32} {x7 : Int32}  {o : sn_S} (hf : BX9_layHold_184 σ x5 x7 = some o) (kr : sn_Kr p l e rmX9_layHold s m args below meth c Q D ct ad layM cX9_layHold .return_ (true) o []) : sn_At p l e rmX9_layHold s m args below meth c Q D ct ad layM 9 σ 184 [(0, .ref (ad 0)), (5, .int x5), (7, .int x7)] [] := by
  intro H locs ls hw hl
  have hx := C.1
  have hb := C.2.1
  unfold BX9_layHold_184 at hf
  refine lv_iconst (v := 0) hx hb dX9_layHold_184 rfl ?_
  exact wX9_layHold_185 C  hf kr _ _ _ hw (lv_sub hl [0, 1, 2] rfl)
theorem wX9_layHold_180 (C : sn_C p s m args meth c RX9 cX9_layHold 9 none D ct ad layM) {σ : sn_S} {x5 : Int32} {x7 : Int32}  {o : sn_S} (hf : BX9_layHold_180 σ x5 x7 = some o) (kr : sn_Kr p l e rmX9_layHold s m args below meth c Q D ct ad layM cX9_layHold .return_ (true) o []) : sn_At p l e rmX9_layHold s m args below meth c Q D ct ad layM 9 σ 180 [(0, .ref (ad 0)), (5, .int x5), (7, .int x7)] [] := by
  intro H locs ls hw hl
  have hx := C.1
  have hb := C.2.1
  unfold BX9_layHold_180 at hf
  refine lv_iconst (v := 1) hx hb dX9_layHold_180 rfl ?_
  refine lv_goto (tgt := 185) hx hb dX9_layHold_181 (by decide) ?_
  exact wX9_layHold_185 C  hf kr _ _ _ hw (lv_sub hl [0, 1, 2] rfl)
theorem wX9_layHold_in (C : sn_C p s m args meth c RX9 cX9_layHold 9 none D ct ad layM) {σ : sn_S} {x1 : Int32} {x2 : Int32} {x3 : Int32} {x4 : Int32}  {o : sn_S} (hf : fX9_layHold σ x1 x2 x3 x4 = some o) (kr : sn_Kr p l e rmX9_layHold s m args below meth c Q D ct ad layM cX9_layHold .return_ (true) o []) : sn_At p l e rmX9_layHold s m args below meth c Q D ct ad layM 9 σ 0 [(0, .ref (ad 0)), (1, .int x1), (2, .int x2), (3, .int x3), (4, .int x4)] [] := by
  intro H locs ls hw hl
  have hx := C.1
  have hb := C.2.1
  unfold fX9_layHold at hf
  refine lv_bipush (v := 31) hx hb dX9_layHold_0 (by decide) ?_
  refine lv_iload_n hx hb dX9_layHold_2 rfl (lv_at hl 3 rfl) ?_
  refine lv_imul hx hb dX9_layHold_3 ?_
  refine lv_iload hx hb dX9_layHold_4 (lv_at hl 4 rfl) ?_
  refine lv_iadd hx hb dX9_layHold_6 ?_
  obtain ⟨y_1, e_2, hf⟩ := sn_ltE hf
  refine lv_topi (fun y_1_ e_2_ => ?_)
  obtain rfl : y_1 = y_1_ := e_2.trans e_2_.symm
  refine lv_istore (lv' := [(5, .int y_1), (0, .ref (ad 0)), (1, .int x1), (2, .int x2), (3, .int x3), (4, .int x4)]) hx hb dX9_layHold_7 hl (by decide) rfl (fun ls hl => ?_)
  refine lv_bipush (v := 31) hx hb dX9_layHold_9 (by decide) ?_
  refine lv_iload_n hx hb dX9_layHold_11 rfl (lv_at hl 4 rfl) ?_
  refine lv_iconst (v := 1) hx hb dX9_layHold_12 rfl ?_
  refine lv_iadd hx hb dX9_layHold_13 ?_
  refine lv_imul hx hb dX9_layHold_14 ?_
  refine lv_iload hx hb dX9_layHold_15 (lv_at hl 5 rfl) ?_
  refine lv_iadd hx hb dX9_layHold_17 ?_
  obtain ⟨y_3, e_4, hf⟩ := sn_ltE hf
  refine lv_topi (fun y_3_ e_4_ => ?_)
  obtain rfl : y_3 = y_3_ := e_4.trans e_4_.symm
  refine lv_istore (lv' := [(6, .int y_3), (5, .int y_1), (0, .ref (ad 0)), (1, .int x1), (2, .int x2), (3, .int x3), (4, .int x4)]) hx hb dX9_layHold_18 hl (by decide) rfl (fun ls hl => ?_)
  refine lv_aload_n hx hb dX9_layHold_20 rfl (lv_at hl 2 rfl) ?_
  refine sn_getC (r := 17) C hw fd_RX9_64 layM_0 rfl dX9_layHold_21 ?_
  refine lv_iload hx hb dX9_layHold_24 (lv_at hl 1 rfl) ?_
  refine lv_aload_n hx hb dX9_layHold_26 rfl (lv_at hl 2 rfl) ?_
  refine sn_getC (r := 17) C hw fd_RX9_64 layM_0 rfl dX9_layHold_27 ?_
  refine lv_iload hx hb dX9_layHold_30 (lv_at hl 0 rfl) ?_
  obtain ⟨g_5, hf⟩ := sn_gdE hf
  refine sn_iald C hw layM_17 g_5 dX9_layHold_32 ?_
  obtain ⟨g_6, hf⟩ := sn_gdE hf
  refine sn_iast C hw layM_17 g_6 dX9_layHold_33 (fun H locs hw => ?_)
  obtain ⟨σ_7, e_8, hf⟩ := sn_ltE hf
  rw [← e_8] at hw
  refine lv_aload_n hx hb dX9_layHold_34 rfl (lv_at hl 2 rfl) ?_
  refine sn_getC (r := 18) C hw fd_RX9_67 layM_0 rfl dX9_layHold_35 ?_
  refine lv_iload hx hb dX9_layHold_38 (lv_at hl 1 rfl) ?_
  refine lv_aload_n hx hb dX9_layHold_40 rfl (lv_at hl 2 rfl) ?_
  refine sn_getC (r := 18) C hw fd_RX9_67 layM_0 rfl dX9_layHold_41 ?_
  refine lv_iload hx hb dX9_layHold_44 (lv_at hl 0 rfl) ?_
  obtain ⟨g_9, hf⟩ := sn_gdE hf
  refine sn_iald C hw layM_18 g_9 dX9_layHold_46 ?_
  obtain ⟨g_10, hf⟩ := sn_gdE hf
  refine sn_iast C hw layM_18 g_10 dX9_layHold_47 (fun H locs hw => ?_)
  obtain ⟨σ_11, e_12, hf⟩ := sn_ltE hf
  rw [← e_12] at hw
  refine lv_aload_n hx hb dX9_layHold_48 rfl (lv_at hl 2 rfl) ?_
  refine lv_iload_n hx hb dX9_layHold_49 rfl (lv_at hl 3 rfl) ?_
  refine lv_iload hx hb dX9_layHold_50 (lv_at hl 6 rfl) ?_
  refine lv_iload_n hx hb dX9_layHold_52 rfl (lv_at hl 5 rfl) ?_
  obtain ⟨t_13, h_14, hf⟩ := sn_bd hf
  refine sn_callVi (rest := []) C hw (ctX9_tickleSince l  h_14) kl_RX9_352 layM_0 rfl rfl rfl rfl (Nat.le_of_ble_eq_true rfl) dX9_layHold_53 hl.1 (fun H locs hw => ?_)
  refine lv_aload_n hx hb dX9_layHold_56 rfl (lv_at hl 2 rfl) ?_
  refine sn_getC (r := 1) C hw fd_RX9_9 layM_0 rfl dX9_layHold_57 ?_
  refine lv_bipush (v := 11) hx hb dX9_layHold_60 (by decide) ?_
  refine lv_iconst (v := 2) hx hb dX9_layHold_62 rfl ?_
  refine lv_iload_n hx hb dX9_layHold_63 rfl (lv_at hl 3 rfl) ?_
  refine lv_imul hx hb dX9_layHold_64 ?_
  refine lv_iadd hx hb dX9_layHold_65 ?_
  refine lv_iconst (v := 1) hx hb dX9_layHold_66 rfl ?_
  refine lv_iadd hx hb dX9_layHold_67 ?_
  obtain ⟨g_15, hf⟩ := sn_gdE hf
  refine sn_iald C hw layM_1 g_15 dX9_layHold_68 ?_
  refine lv_icmp_ge (tgt := 73) hx hb dX9_layHold_69 (by decide) (fun c_16 => ?_) (fun c_16 => ?_)
  · have hf := sn_if c_16 hf
    refine lv_aload_n hx hb dX9_layHold_73 rfl (lv_at hl 2 rfl) ?_
    refine sn_getC (r := 17) C hw fd_RX9_64 layM_0 rfl dX9_layHold_74 ?_
    refine lv_iload hx hb dX9_layHold_77 (lv_at hl 1 rfl) ?_
    refine lv_aload_n hx hb dX9_layHold_79 rfl (lv_at hl 2 rfl) ?_
    refine sn_getC (r := 17) C hw fd_RX9_64 layM_0 rfl dX9_layHold_80 ?_
    refine lv_iload hx hb dX9_layHold_83 (lv_at hl 0 rfl) ?_
    obtain ⟨g_17, hf⟩ := sn_gdE hf
    refine sn_iald C hw layM_17 g_17 dX9_layHold_85 ?_
    refine lv_iconst (v := 1) hx hb dX9_layHold_86 rfl ?_
    refine lv_iadd hx hb dX9_layHold_87 ?_
    obtain ⟨g_18, hf⟩ := sn_gdE hf
    refine sn_iast C hw layM_17 g_18 dX9_layHold_88 (fun H locs hw => ?_)
    obtain ⟨σ_19, e_20, hf⟩ := sn_ltE hf
    rw [← e_20] at hw
    refine lv_aload_n hx hb dX9_layHold_89 rfl (lv_at hl 2 rfl) ?_
    refine sn_getC (r := 18) C hw fd_RX9_67 layM_0 rfl dX9_layHold_90 ?_
    refine lv_iload hx hb dX9_layHold_93 (lv_at hl 1 rfl) ?_
    refine lv_aload_n hx hb dX9_layHold_95 rfl (lv_at hl 2 rfl) ?_
    refine sn_getC (r := 18) C hw fd_RX9_67 layM_0 rfl dX9_layHold_96 ?_
    refine lv_iload hx hb dX9_layHold_99 (lv_at hl 0 rfl) ?_
    obtain ⟨g_21, hf⟩ := sn_gdE hf
    refine sn_iald C hw layM_18 g_21 dX9_layHold_101 ?_
    refine lv_iconst (v := 1) hx hb dX9_layHold_102 rfl ?_
    refine lv_iload_n hx hb dX9_layHold_103 rfl (lv_at hl 5 rfl) ?_
    refine lv_ishl hx hb dX9_layHold_104 ?_
    refine lv_ior hx hb dX9_layHold_105 ?_
    obtain ⟨g_22, hf⟩ := sn_gdE hf
    refine sn_iast C hw layM_18 g_22 dX9_layHold_106 (fun H locs hw => ?_)
    obtain ⟨σ_23, e_24, hf⟩ := sn_ltE hf
    rw [← e_24] at hw
    refine lv_iload_n hx hb dX9_layHold_107 rfl (lv_at hl 4 rfl) ?_
    refine lv_iload_n hx hb dX9_layHold_108 rfl (lv_at hl 5 rfl) ?_
    obtain ⟨t_25, h_26, hf⟩ := sn_bd hf
    refine sn_callSi (rest := []) C hw (ctX9_bit l  h_26) kl_RX9_254 rfl rfl rfl (Nat.le_of_ble_eq_true rfl) dX9_layHold_109 hl.1 (fun H locs hw => ?_)
    refine lv_iconst (v := 1) hx hb dX9_layHold_112 rfl ?_
    refine lv_icmp_ne (tgt := 117) hx hb dX9_layHold_113 (by decide) (fun c_27 => ?_) (fun c_27 => ?_)
    · have hf := sn_el c_27 hf
      refine lv_bipush (v := 31) hx hb dX9_layHold_117 (by decide) ?_
      refine lv_iload_n hx hb dX9_layHold_119 rfl (lv_at hl 5 rfl) ?_
      refine lv_iconst (v := 1) hx hb dX9_layHold_120 rfl ?_
      refine lv_iadd hx hb dX9_layHold_121 ?_
      refine lv_imul hx hb dX9_layHold_122 ?_
      refine lv_iload_n hx hb dX9_layHold_123 rfl (lv_at hl 5 rfl) ?_
      refine lv_iadd hx hb dX9_layHold_124 ?_
      refine lv_iconst (v := 1) hx hb dX9_layHold_125 rfl ?_
      refine lv_iadd hx hb dX9_layHold_126 ?_
      obtain ⟨y_28, e_29, hf⟩ := sn_ltE hf
      refine lv_topi (fun y_28_ e_29_ => ?_)
      obtain rfl : y_28 = y_28_ := e_29.trans e_29_.symm
      refine lv_istore (lv' := [(7, .int y_28), (6, .int y_3), (5, .int y_1), (0, .ref (ad 0)), (1, .int x1), (2, .int x2), (3, .int x3), (4, .int x4)]) hx hb dX9_layHold_127 hl (by decide) rfl (fun ls hl => ?_)
      refine lv_aload_n hx hb dX9_layHold_129 rfl (lv_at hl 3 rfl) ?_
      refine sn_getC (r := 17) C hw fd_RX9_64 layM_0 rfl dX9_layHold_130 ?_
      refine lv_iload hx hb dX9_layHold_133 (lv_at hl 0 rfl) ?_
      obtain ⟨g_30, hf⟩ := sn_gdE hf
      refine sn_iald C hw layM_17 g_30 dX9_layHold_135 ?_
      refine lv_aload_n hx hb dX9_layHold_136 rfl (lv_at hl 3 rfl) ?_
      refine sn_getC (r := 17) C hw fd_RX9_64 layM_0 rfl dX9_layHold_137 ?_
      refine lv_iload hx hb dX9_layHold_140 (lv_at hl 2 rfl) ?_
      obtain ⟨g_31, hf⟩ := sn_gdE hf
      refine sn_iald C hw layM_17 g_31 dX9_layHold_142 ?_
      refine lv_icmp_lt (tgt := 180) hx hb dX9_layHold_143 (by decide) (fun c_32 => ?_) (fun c_32 => ?_)
      · have hf := sn_if c_32 hf
        exact wX9_layHold_180 C  hf kr _ _ _ hw (lv_sub hl [3, 2, 0] rfl)
      · have hf := sn_el c_32 hf
        refine lv_aload_n hx hb dX9_layHold_146 rfl (lv_at hl 3 rfl) ?_
        refine sn_getC (r := 17) C hw fd_RX9_64 layM_0 rfl dX9_layHold_147 ?_
        refine lv_iload hx hb dX9_layHold_150 (lv_at hl 0 rfl) ?_
        obtain ⟨g_33, hf⟩ := sn_gdE hf
        refine sn_iald C hw layM_17 g_33 dX9_layHold_152 ?_
        refine lv_aload_n hx hb dX9_layHold_153 rfl (lv_at hl 3 rfl) ?_
        refine sn_getC (r := 17) C hw fd_RX9_64 layM_0 rfl dX9_layHold_154 ?_
        refine lv_iload hx hb dX9_layHold_157 (lv_at hl 2 rfl) ?_
        obtain ⟨g_34, hf⟩ := sn_gdE hf
        refine sn_iald C hw layM_17 g_34 dX9_layHold_159 ?_
        refine lv_icmp_ne (tgt := 184) hx hb dX9_layHold_160 (by decide) (fun c_35 => ?_) (fun c_35 => ?_)
        · have hf := sn_el c_35 hf
          exact wX9_layHold_184 C  hf kr _ _ _ hw (lv_sub hl [3, 2, 0] rfl)
        · have hf := sn_if c_35 hf
          refine lv_aload_n hx hb dX9_layHold_163 rfl (lv_at hl 3 rfl) ?_
          refine sn_getC (r := 18) C hw fd_RX9_67 layM_0 rfl dX9_layHold_164 ?_
          refine lv_iload hx hb dX9_layHold_167 (lv_at hl 0 rfl) ?_
          obtain ⟨g_36, hf⟩ := sn_gdE hf
          refine sn_iald C hw layM_18 g_36 dX9_layHold_169 ?_
          refine lv_aload_n hx hb dX9_layHold_170 rfl (lv_at hl 3 rfl) ?_
          refine sn_getC (r := 18) C hw fd_RX9_67 layM_0 rfl dX9_layHold_171 ?_
          refine lv_iload hx hb dX9_layHold_174 (lv_at hl 2 rfl) ?_
          obtain ⟨g_37, hf⟩ := sn_gdE hf
          refine sn_iald C hw layM_18 g_37 dX9_layHold_176 ?_
          refine lv_icmp_ge (tgt := 184) hx hb dX9_layHold_177 (by decide) (fun c_38 => ?_) (fun c_38 => ?_)
          · have hf := sn_if c_38 hf
            exact wX9_layHold_184 C  hf kr _ _ _ hw (lv_sub hl [3, 2, 0] rfl)
          · have hf := sn_el c_38 hf
            exact wX9_layHold_180 C  hf kr _ _ _ hw (lv_sub hl [3, 2, 0] rfl)
    · have hf := sn_if c_27 hf
      cases hf
      exact kr _ _ _ _ hw rfl dX9_layHold_116
  · have hf := sn_el c_16 hf
    cases hf
    exact kr _ _ _ _ hw rfl dX9_layHold_72
theorem ctX9_layHold (l : Launch) {σ : sn_S} {x1 : Int32} {x2 : Int32} {x3 : Int32} {x4 : Int32}  {o : sn_S} (hf : fX9_layHold σ x1 x2 x3 x4 = some o) : sn_M l yX9_layHold cX9_layHold 9 none rmX9_layHold layM (fun ad => [.ref (ad 0), .int x1, .int x2, .int x3, .int x4]) σ none o :=
  sn_met (by decide) (fun _ => Nat.le_of_ble_eq_true rfl) (fun p e s m args below meth c ls D ct ad C hw hl => wX9_layHold_in C  hf (fun H locs ls pc hw ok hd => sn_vret C hw hd) _ _ _ hw hl)
end
