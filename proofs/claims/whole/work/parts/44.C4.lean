section
variable {p : Program} {l : Launch} {e : Env} {s : State} {m : MethodId} {args : Array Value} {below : List Frame} {meth : Method} {c : Code} {Q : State → Prop} {D : va_G} {ct : Nat → ClassId} {ad : Nat → Nat}
-- X5_put
abbrev rmX5_put : Room := { frames := 0, cells := 0, slots := 0, locals := 0 }
def BX5_put_49 (σ : sn_S) : Option (sn_S) :=
  (some σ)
def BX5_put_3 (σ : sn_S) (x1 : Int32) (x2 : Int32) : Option ((sn_S × Int32) ⊕ (sn_S)) :=
  (if x2 < 0 then
  (some (.inr (σ)))
  else
  (if (900 : Int32) ≤ (sn_I σ 38 1) then
  (some (.inr (σ)))
  else
  (sn_gd (sn_in (sn_I σ 38 1) 900) (sn_lt (sn_pI σ 39 (sn_I σ 38 1).toNatClampNeg ((x1 >>> (x2 &&& 31)) &&& (255 : Int32))) fun σ_4 => (sn_lt (sn_pI σ_4 38 1 ((sn_I σ_4 38 1) + (1 : Int32))) fun σ_6 => (sn_lt (x2 + (-8)) fun y_8 => (some (.inl (σ_6, y_8)))))))))
def LX5_put_3 (x1 : Int32) (s : sn_S × Int32) : Option ((sn_S × Int32) ⊕ (sn_S)) := BX5_put_3 s.1 x1 s.2
def fX5_put (σ : sn_S) (x1 : Int32) : Option sn_S :=
  ((sn_it (LX5_put_3 x1) 5000 (σ, (24 : Int32))).bind fun t_1 => (BX5_put_49 t_1))
theorem wX5_put_49 (C : sn_C p s m args meth c RX5 cX5_put 3 none D ct ad layC) {σ : sn_S}  {o : sn_S} (hf : BX5_put_49 σ = some o) (kr : sn_Kr p l e rmX5_put s m args below meth c Q D ct ad layC cX5_put .return_ (true) o []) : sn_At p l e rmX5_put s m args below meth c Q D ct ad layC 3 σ 49 [] [] := by
  intro H locs ls hw hl
  have hx := C.1
  have hb := C.2.1
  unfold BX5_put_49 at hf
  cases hf
  exact kr _ _ _ _ hw rfl dX5_put_49
theorem wX5_put_3 (C : sn_C p s m args meth c RX5 cX5_put 3 none D ct ad layC) {σ : sn_S} {x1 : Int32} {x2 : Int32}  {o : (sn_S × Int32) ⊕ (sn_S)} (hf : BX5_put_3 σ x1 x2 = some o) (kc : ∀ v, o = .inl v → sn_At p l e rmX5_put s m args below meth c Q D ct ad layC 3 v.1 3 [(0, .ref (ad 38)), (1, .int x1), (2, .int v.2)] []) (kx : ∀ v, o = .inr v → sn_At p l e rmX5_put s m args below meth c Q D ct ad layC 3 v 49 [] []) : sn_At p l e rmX5_put s m args below meth c Q D ct ad layC 3 σ 3 [(0, .ref (ad 38)), (1, .int x1), (2, .int x2)] [] := by
  intro H locs ls hw hl
  have hx := C.1
  have hb := C.2.1
  unfold BX5_put_3 at hf
  refine lv_iload_n hx hb dX5_put_3 rfl (lv_at hl 2 rfl) ?_
  refine lv_if_lt (tgt := 49) hx hb dX5_put_4 (by decide) (fun c_1 => ?_) (fun c_1 => ?_)
  · have hf := sn_if c_1 hf
    cases hf
    exact kx _ rfl _ _ _ hw (lv_sub hl [] rfl)
  · have hf := sn_el c_1 hf
    refine lv_aload_n hx hb dX5_put_7 rfl (lv_at hl 0 rfl) ?_
    refine sn_getI C hw fd_RX5_19 layC_38 rfl dX5_put_8 ?_
    refine lv_sipush (v := 900) hx hb dX5_put_11 (by decide) ?_
    refine lv_icmp_ge (tgt := 49) hx hb dX5_put_14 (by decide) (fun c_2 => ?_) (fun c_2 => ?_)
    · have hf := sn_if c_2 hf
      cases hf
      exact kx _ rfl _ _ _ hw (lv_sub hl [] rfl)
    · have hf := sn_el c_2 hf
      refine lv_aload_n hx hb dX5_put_17 rfl (lv_at hl 0 rfl) ?_
      refine sn_getC (r := 39) C hw fd_RX5_9 layC_38 rfl dX5_put_18 ?_
      refine lv_aload_n hx hb dX5_put_21 rfl (lv_at hl 0 rfl) ?_
      refine sn_getI C hw fd_RX5_19 layC_38 rfl dX5_put_22 ?_
      refine lv_iload_n hx hb dX5_put_25 rfl (lv_at hl 1 rfl) ?_
      refine lv_iload_n hx hb dX5_put_26 rfl (lv_at hl 2 rfl) ?_
      refine lv_ishr hx hb dX5_put_27 ?_
      refine lv_sipush (v := 255) hx hb dX5_put_28 (by decide) ?_
      refine lv_iand hx hb dX5_put_31 ?_
      obtain ⟨g_3, hf⟩ := sn_gdE hf
      refine sn_iast C hw layC_39 g_3 dX5_put_32 (fun H locs hw => ?_)
      obtain ⟨σ_4, e_5, hf⟩ := sn_ltE hf
      rw [← e_5] at hw
      refine lv_aload_n hx hb dX5_put_33 rfl (lv_at hl 0 rfl) ?_
      refine lv_dup hx hb dX5_put_34 rfl ?_
      refine sn_getI C hw fd_RX5_19 layC_38 rfl dX5_put_35 ?_
      refine lv_iconst (v := 1) hx hb dX5_put_38 rfl ?_
      refine lv_iadd hx hb dX5_put_39 ?_
      refine sn_putI C hw fp_RX5_19 layC_38 rfl dX5_put_40 (fun H locs hw => ?_)
      obtain ⟨σ_6, e_7, hf⟩ := sn_ltE hf
      rw [← e_7] at hw
      obtain ⟨y_8, e_9, hf⟩ := sn_ltE hf
      refine lv_iinc (v := y_8) (lv' := [(2, .int y_8), (0, .ref (ad 38)), (1, .int x1)]) hx hb dX5_put_43 hl (k := 2) rfl (by rw [e_9]; rfl) (by decide) rfl (fun ls hl => ?_)
      refine lv_goto (tgt := 3) hx hb dX5_put_46 (by decide) ?_
      cases hf
      exact kc _ rfl _ _ _ hw (lv_sub hl [1, 2, 0] rfl)
theorem wX5_put_L3 (C : sn_C p s m args meth c RX5 cX5_put 3 none D ct ad layC) {x1 : Int32}   {z : sn_S × Int32} {t : sn_S} (h : sn_it (LX5_put_3 x1) 5000 z = some t) (kx : ∀ v, t = v → sn_At p l e rmX5_put s m args below meth c Q D ct ad layC 3 v 49 [] []) : sn_At p l e rmX5_put s m args below meth c Q D ct ad layC 3 z.1 3 [(0, .ref (ad 38)), (1, .int x1), (2, .int z.2)] [] :=
  sn_loop (f := LX5_put_3 x1) (G := fun z => sn_At p l e rmX5_put s m args below meth c Q D ct ad layC 3 z.1 3 [(0, .ref (ad 38)), (1, .int x1), (2, .int z.2)] []) (E := fun t => (∀ v, t = v → sn_At p l e rmX5_put s m args below meth c Q D ct ad layC 3 v 49 [] []) ∧ True) (fun z o hf k1 k2 => wX5_put_3 C  hf (fun v e => k1 v e) (fun v e => (k2 _ e).1 v rfl)) 5000 z t h ⟨kx, trivial⟩
theorem wX5_put_in (C : sn_C p s m args meth c RX5 cX5_put 3 none D ct ad layC) {σ : sn_S} {x1 : Int32}  {o : sn_S} (hf : fX5_put σ x1 = some o) (kr : sn_Kr p l e rmX5_put s m args below meth c Q D ct ad layC cX5_put .return_ (true) o []) : sn_At p l e rmX5_put s m args below meth c Q D ct ad layC 3 σ 0 [(0, .ref (ad 38)), (1, .int x1)] [] := by
  intro H locs ls hw hl
  have hx := C.1
  have hb := C.2.1
  unfold fX5_put at hf
  refine lv_bipush (v := 24) hx hb dX5_put_0 (by decide) ?_
  refine lv_istore_n (lv' := [(2, .int (24 : Int32)), (0, .ref (ad 38)), (1, .int x1)]) hx hb dX5_put_2 rfl hl (by decide) rfl (fun ls hl => ?_)
  obtain ⟨t_1, h_2, hf⟩ := sn_bd hf
  exact wX5_put_L3 C  h_2 (fun v e => by cases e; exact wX5_put_49 C  hf kr) _ _ _ hw (lv_sub hl [1, 2, 0] rfl)
theorem ctX5_put (l : Launch) {σ : sn_S} {x1 : Int32}  {o : sn_S} (hf : fX5_put σ x1 = some o) : sn_M l yX5_put cX5_put 3 none rmX5_put layC (fun ad => [.ref (ad 38), .int x1]) σ none o :=
  sn_met (by decide) (fun _ => Nat.le_of_ble_eq_true rfl) (fun p e s m args below meth c ls D ct ad C hw hl => wX5_put_in C  hf (fun H locs ls pc hw ok hd => sn_vret C hw hd) _ _ _ hw hl)
-- X5_kindAt
abbrev rmX5_kindAt : Room := { frames := 0, cells := 0, slots := 0, locals := 0 }
def BX5_kindAt_59 (σ : sn_S) (x2 : Int32) : Option (Int32) :=
  (if x2 = (59 : Int32) then
  (some (3 : Int32))
  else
  (some (5 : Int32)))
def BX5_kindAt_45 (σ : sn_S) (x2 : Int32) : Option (Int32) :=
  (if x2 < (48 : Int32) then
  (BX5_kindAt_59 σ x2)
  else
  (if (57 : Int32) < x2 then
  (BX5_kindAt_59 σ x2)
  else
  (some (2 : Int32))))
def fX5_kindAt (σ : sn_S) (x1 : Int32) : Option Int32 :=
  (if x1 < (sn_I σ 38 1) then
  (sn_gd (sn_in x1 900) (sn_lt (sn_I σ 39 x1.toNatClampNeg) fun y_3 => (if y_3 = (32 : Int32) then
  (some (4 : Int32))
  else
  (if y_3 = (10 : Int32) then
  (some (4 : Int32))
  else
  (if y_3 < (97 : Int32) then
  (BX5_kindAt_45 σ y_3)
  else
  (if (122 : Int32) < y_3 then
  (BX5_kindAt_45 σ y_3)
  else
  (some (1 : Int32))))))))
  else
  (some (0 : Int32)))
theorem wX5_kindAt_59 (C : sn_C p s m args meth c RX5 cX5_kindAt 3 (some .int) D ct ad layC) {σ : sn_S} {x2 : Int32}  {o : Int32} (hf : BX5_kindAt_59 σ x2 = some o) (kr : sn_Kr p l e rmX5_kindAt s m args below meth c Q D ct ad layC cX5_kindAt .ireturn (true) σ [.int o]) : sn_At p l e rmX5_kindAt s m args below meth c Q D ct ad layC 3 σ 59 [(2, .int x2)] [] := by
  intro H locs ls hw hl
  have hx := C.1
  have hb := C.2.1
  unfold BX5_kindAt_59 at hf
  refine lv_iload_n hx hb dX5_kindAt_59 rfl (lv_at hl 0 rfl) ?_
  refine lv_bipush (v := 59) hx hb dX5_kindAt_60 (by decide) ?_
  refine lv_icmp_ne (tgt := 69) hx hb dX5_kindAt_62 (by decide) (fun c_1 => ?_) (fun c_1 => ?_)
  · have hf := sn_el c_1 hf
    refine lv_iconst (v := 5) hx hb dX5_kindAt_69 rfl ?_
    cases hf
    exact kr _ _ _ _ hw rfl dX5_kindAt_70
  · have hf := sn_if c_1 hf
    refine lv_iconst (v := 3) hx hb dX5_kindAt_65 rfl ?_
    refine lv_goto (tgt := 70) hx hb dX5_kindAt_66 (by decide) ?_
    cases hf
    exact kr _ _ _ _ hw rfl dX5_kindAt_70
theorem wX5_kindAt_45 (C : sn_C p s m args meth c RX5 cX5_kindAt 3 (some .int) D ct ad layC) {σ : sn_S} {x2 : Int32}  {o : Int32} (hf : BX5_kindAt_45 σ x2 = some o) (kr : sn_Kr p l e rmX5_kindAt s m args below meth c Q D ct ad layC cX5_kindAt .ireturn (true) σ [.int o]) : sn_At p l e rmX5_kindAt s m args below meth c Q D ct ad layC 3 σ 45 [(2, .int x2)] [] := by
  intro H locs ls hw hl
  have hx := C.1
  have hb := C.2.1
  unfold BX5_kindAt_45 at hf
  refine lv_iload_n hx hb dX5_kindAt_45 rfl (lv_at hl 0 rfl) ?_
  refine lv_bipush (v := 48) hx hb dX5_kindAt_46 (by decide) ?_
  refine lv_icmp_lt (tgt := 59) hx hb dX5_kindAt_48 (by decide) (fun c_1 => ?_) (fun c_1 => ?_)
  · have hf := sn_if c_1 hf
    exact wX5_kindAt_59 C  hf kr _ _ _ hw (lv_sub hl [0] rfl)
  · have hf := sn_el c_1 hf
    refine lv_iload_n hx hb dX5_kindAt_51 rfl (lv_at hl 0 rfl) ?_
    refine lv_bipush (v := 57) hx hb dX5_kindAt_52 (by decide) ?_
    refine lv_icmp_gt (tgt := 59) hx hb dX5_kindAt_54 (by decide) (fun c_2 => ?_) (fun c_2 => ?_)
    · have hf := sn_if c_2 hf
      exact wX5_kindAt_59 C  hf kr _ _ _ hw (lv_sub hl [0] rfl)
    · have hf := sn_el c_2 hf
      refine lv_iconst (v := 2) hx hb dX5_kindAt_57 rfl ?_
      cases hf
      exact kr _ _ _ _ hw rfl dX5_kindAt_58
theorem wX5_kindAt_in (C : sn_C p s m args meth c RX5 cX5_kindAt 3 (some .int) D ct ad layC) {σ : sn_S} {x1 : Int32}  {o : Int32} (hf : fX5_kindAt σ x1 = some o) (kr : sn_Kr p l e rmX5_kindAt s m args below meth c Q D ct ad layC cX5_kindAt .ireturn (true) σ [.int o]) : sn_At p l e rmX5_kindAt s m args below meth c Q D ct ad layC 3 σ 0 [(0, .ref (ad 38)), (1, .int x1)] [] := by
  intro H locs ls hw hl
  have hx := C.1
  have hb := C.2.1
  unfold fX5_kindAt at hf
  refine lv_iload_n hx hb dX5_kindAt_0 rfl (lv_at hl 1 rfl) ?_
  refine lv_aload_n hx hb dX5_kindAt_1 rfl (lv_at hl 0 rfl) ?_
  refine sn_getI C hw fd_RX5_19 layC_38 rfl dX5_kindAt_2 ?_
  refine lv_icmp_lt (tgt := 10) hx hb dX5_kindAt_5 (by decide) (fun c_1 => ?_) (fun c_1 => ?_)
  · have hf := sn_if c_1 hf
    refine lv_aload_n hx hb dX5_kindAt_10 rfl (lv_at hl 0 rfl) ?_
    refine sn_getC (r := 39) C hw fd_RX5_9 layC_38 rfl dX5_kindAt_11 ?_
    refine lv_iload_n hx hb dX5_kindAt_14 rfl (lv_at hl 1 rfl) ?_
    obtain ⟨g_2, hf⟩ := sn_gdE hf
    refine sn_iald C hw layC_39 g_2 dX5_kindAt_15 ?_
    obtain ⟨y_3, e_4, hf⟩ := sn_ltE hf
    refine lv_topi (fun y_3_ e_4_ => ?_)
    obtain rfl : y_3 = y_3_ := e_4.trans e_4_.symm
    refine lv_istore_n (lv' := [(2, .int y_3), (0, .ref (ad 38)), (1, .int x1)]) hx hb dX5_kindAt_16 rfl hl (by decide) rfl (fun ls hl => ?_)
    refine lv_iload_n hx hb dX5_kindAt_17 rfl (lv_at hl 0 rfl) ?_
    refine lv_bipush (v := 32) hx hb dX5_kindAt_18 (by decide) ?_
    refine lv_icmp_eq (tgt := 29) hx hb dX5_kindAt_20 (by decide) (fun c_5 => ?_) (fun c_5 => ?_)
    · have hf := sn_if c_5 hf
      refine lv_iconst (v := 4) hx hb dX5_kindAt_29 rfl ?_
      cases hf
      exact kr _ _ _ _ hw rfl dX5_kindAt_30
    · have hf := sn_el c_5 hf
      refine lv_iload_n hx hb dX5_kindAt_23 rfl (lv_at hl 0 rfl) ?_
      refine lv_bipush (v := 10) hx hb dX5_kindAt_24 (by decide) ?_
      refine lv_icmp_ne (tgt := 31) hx hb dX5_kindAt_26 (by decide) (fun c_6 => ?_) (fun c_6 => ?_)
      · have hf := sn_el c_6 hf
        refine lv_iload_n hx hb dX5_kindAt_31 rfl (lv_at hl 0 rfl) ?_
        refine lv_bipush (v := 97) hx hb dX5_kindAt_32 (by decide) ?_
        refine lv_icmp_lt (tgt := 45) hx hb dX5_kindAt_34 (by decide) (fun c_7 => ?_) (fun c_7 => ?_)
        · have hf := sn_if c_7 hf
          exact wX5_kindAt_45 C  hf kr _ _ _ hw (lv_sub hl [0] rfl)
        · have hf := sn_el c_7 hf
          refine lv_iload_n hx hb dX5_kindAt_37 rfl (lv_at hl 0 rfl) ?_
          refine lv_bipush (v := 122) hx hb dX5_kindAt_38 (by decide) ?_
          refine lv_icmp_gt (tgt := 45) hx hb dX5_kindAt_40 (by decide) (fun c_8 => ?_) (fun c_8 => ?_)
          · have hf := sn_if c_8 hf
            exact wX5_kindAt_45 C  hf kr _ _ _ hw (lv_sub hl [0] rfl)
          · have hf := sn_el c_8 hf
            refine lv_iconst (v := 1) hx hb dX5_kindAt_43 rfl ?_
            cases hf
            exact kr _ _ _ _ hw rfl dX5_kindAt_44
      · have hf := sn_if c_6 hf
        refine lv_iconst (v := 4) hx hb dX5_kindAt_29 rfl ?_
        cases hf
        exact kr _ _ _ _ hw rfl dX5_kindAt_30
  · have hf := sn_el c_1 hf
    refine lv_iconst (v := 0) hx hb dX5_kindAt_8 rfl ?_
    cases hf
    exact kr _ _ _ _ hw rfl dX5_kindAt_9
theorem ctX5_kindAt (l : Launch) {σ : sn_S} {x1 : Int32}  {o : Int32} (hf : fX5_kindAt σ x1 = some o) : sn_M l yX5_kindAt cX5_kindAt 3 (some .int) rmX5_kindAt layC (fun ad => [.ref (ad 38), .int x1]) σ (some (fun _ => .int o)) σ :=
  sn_met (by decide) (fun _ => Nat.le_of_ble_eq_true rfl) (fun p e s m args below meth c ls D ct ad C hw hl => wX5_kindAt_in C  hf (fun H locs ls pc hw ok hd => sn_iret C hw hd) _ _ _ hw hl)
-- X5_step
abbrev rmX5_step : Room := { frames := 1, cells := 0, slots := 0, locals := 32 }
def BX5_step_128 (σ : sn_S) : Option (sn_S) :=
  (some σ)
def BX5_step_89 (σ : sn_S) : Option ((sn_S) ⊕ (sn_S)) :=
  (if (sn_I σ 38 1) ≤ (sn_I σ 38 5) then
  (some (.inr (σ)))
  else
  ((fX5_kindAt σ (sn_I σ 38 5)).bind fun t_2 => (if t_2 = (sn_I σ 38 6) then
  (sn_lt (sn_pI σ 38 5 ((sn_I σ 38 5) + (1 : Int32))) fun σ_5 => (some (.inl (σ_5))))
  else
  (some (.inr (σ))))))
def BX5_step_73 (σ : sn_S) : Option ((sn_S) ⊕ (sn_S)) :=
  (if (sn_I σ 38 6) = (1 : Int32) then
  (BX5_step_89 σ)
  else
  (if (sn_I σ 38 6) = (2 : Int32) then
  (BX5_step_89 σ)
  else
  (some (.inr (σ)))))
def LX5_step_73  (s : sn_S) : Option ((sn_S) ⊕ (sn_S)) := BX5_step_73 s
def BX5_step_44 (σ : sn_S) : Option (sn_S) :=
  ((fX5_kindAt σ (sn_I σ 38 4)).bind fun t_1 => (sn_lt (sn_pI σ 38 6 t_1) fun σ_3 => (sn_lt (if (sn_I σ_3 38 1) < ((sn_I σ_3 38 4) + (1 : Int32)) then (sn_I σ_3 38 1) else ((sn_I σ_3 38 4) + (1 : Int32))) fun y_5 => (sn_lt (sn_pI σ_3 38 5 y_5) fun σ_7 => ((sn_it (LX5_step_73 ) 5000 (σ_7)).bind fun t_9 => (BX5_step_128 t_9))))))
def BX5_step_8 (σ : sn_S) : Option ((sn_S) ⊕ (sn_S)) :=
  (if (sn_I σ 38 1) ≤ (sn_I σ 38 4) then
  (some (.inr (σ)))
  else
  ((fX5_kindAt σ (sn_I σ 38 4)).bind fun t_2 => (if t_2 = (4 : Int32) then
  (sn_lt (sn_pI σ 38 4 ((sn_I σ 38 4) + (1 : Int32))) fun σ_5 => (some (.inl (σ_5))))
  else
  (some (.inr (σ))))))
def LX5_step_8  (s : sn_S) : Option ((sn_S) ⊕ (sn_S)) := BX5_step_8 s
def fX5_step (σ : sn_S) : Option sn_S :=
  (sn_lt (sn_pI σ 38 4 (sn_I σ 38 5)) fun σ_1 => ((sn_it (LX5_step_8 ) 5000 (σ_1)).bind fun t_3 => (BX5_step_44 t_3)))
theorem wX5_step_128 (C : sn_C p s m args meth c RX5 cX5_step 1 none D ct ad layC) {σ : sn_S}  {o : sn_S} (hf : BX5_step_128 σ = some o) (kr : sn_Kr p l e rmX5_step s m args below meth c Q D ct ad layC cX5_step .return_ (true) o []) : sn_At p l e rmX5_step s m args below meth c Q D ct ad layC 1 σ 128 [] [] := by
  intro H locs ls hw hl
  have hx := C.1
  have hb := C.2.1
  unfold BX5_step_128 at hf
  cases hf
  exact kr _ _ _ _ hw rfl dX5_step_128
theorem wX5_step_89 (C : sn_C p s m args meth c RX5 cX5_step 1 none D ct ad layC) {σ : sn_S}  {o : (sn_S) ⊕ (sn_S)} (hf : BX5_step_89 σ = some o) (kc : ∀ v, o = .inl v → sn_At p l e rmX5_step s m args below meth c Q D ct ad layC 1 v 73 [(0, .ref (ad 38))] []) (kx : ∀ v, o = .inr v → sn_At p l e rmX5_step s m args below meth c Q D ct ad layC 1 v 128 [] []) : sn_At p l e rmX5_step s m args below meth c Q D ct ad layC 1 σ 89 [(0, .ref (ad 38))] [] := by
  intro H locs ls hw hl
  have hx := C.1
  have hb := C.2.1
  unfold BX5_step_89 at hf
  refine lv_aload_n hx hb dX5_step_89 rfl (lv_at hl 0 rfl) ?_
  refine sn_getI C hw fd_RX5_34 layC_38 rfl dX5_step_90 ?_
  refine lv_aload_n hx hb dX5_step_93 rfl (lv_at hl 0 rfl) ?_
  refine sn_getI C hw fd_RX5_19 layC_38 rfl dX5_step_94 ?_
  refine lv_icmp_ge (tgt := 128) hx hb dX5_step_97 (by decide) (fun c_1 => ?_) (fun c_1 => ?_)
  · have hf := sn_if c_1 hf
    cases hf
    exact kx _ rfl _ _ _ hw (lv_sub hl [] rfl)
  · have hf := sn_el c_1 hf
    refine lv_aload_n hx hb dX5_step_100 rfl (lv_at hl 0 rfl) ?_
    refine lv_aload_n hx hb dX5_step_101 rfl (lv_at hl 0 rfl) ?_
    refine sn_getI C hw fd_RX5_34 layC_38 rfl dX5_step_102 ?_
    obtain ⟨t_2, h_3, hf⟩ := sn_bd hf
    refine sn_callVi (rest := []) C hw (ctX5_kindAt l  h_3) kl_RX5_148 layC_38 rfl rfl rfl rfl (Nat.le_of_ble_eq_true rfl) dX5_step_105 hl.1 (fun H locs hw => ?_)
    refine lv_aload_n hx hb dX5_step_108 rfl (lv_at hl 0 rfl) ?_
    refine sn_getI C hw fd_RX5_40 layC_38 rfl dX5_step_109 ?_
    refine lv_icmp_ne (tgt := 128) hx hb dX5_step_112 (by decide) (fun c_4 => ?_) (fun c_4 => ?_)
    · have hf := sn_el c_4 hf
      cases hf
      exact kx _ rfl _ _ _ hw (lv_sub hl [] rfl)
    · have hf := sn_if c_4 hf
      refine lv_aload_n hx hb dX5_step_115 rfl (lv_at hl 0 rfl) ?_
      refine lv_dup hx hb dX5_step_116 rfl ?_
      refine sn_getI C hw fd_RX5_34 layC_38 rfl dX5_step_117 ?_
      refine lv_iconst (v := 1) hx hb dX5_step_120 rfl ?_
      refine lv_iadd hx hb dX5_step_121 ?_
      refine sn_putI C hw fp_RX5_34 layC_38 rfl dX5_step_122 (fun H locs hw => ?_)
      obtain ⟨σ_5, e_6, hf⟩ := sn_ltE hf
      rw [← e_6] at hw
      refine lv_goto (tgt := 73) hx hb dX5_step_125 (by decide) ?_
      cases hf
      exact kc _ rfl _ _ _ hw (lv_sub hl [0] rfl)
theorem wX5_step_73 (C : sn_C p s m args meth c RX5 cX5_step 1 none D ct ad layC) {σ : sn_S}  {o : (sn_S) ⊕ (sn_S)} (hf : BX5_step_73 σ = some o) (kc : ∀ v, o = .inl v → sn_At p l e rmX5_step s m args below meth c Q D ct ad layC 1 v 73 [(0, .ref (ad 38))] []) (kx : ∀ v, o = .inr v → sn_At p l e rmX5_step s m args below meth c Q D ct ad layC 1 v 128 [] []) : sn_At p l e rmX5_step s m args below meth c Q D ct ad layC 1 σ 73 [(0, .ref (ad 38))] [] := by
  intro H locs ls hw hl
  have hx := C.1
  have hb := C.2.1
  unfold BX5_step_73 at hf
  refine lv_aload_n hx hb dX5_step_73 rfl (lv_at hl 0 rfl) ?_
  refine sn_getI C hw fd_RX5_40 layC_38 rfl dX5_step_74 ?_
  refine lv_iconst (v := 1) hx hb dX5_step_77 rfl ?_
  refine lv_icmp_eq (tgt := 89) hx hb dX5_step_78 (by decide) (fun c_1 => ?_) (fun c_1 => ?_)
  · have hf := sn_if c_1 hf
    exact wX5_step_89 C  hf kc kx _ _ _ hw (lv_sub hl [0] rfl)
  · have hf := sn_el c_1 hf
    refine lv_aload_n hx hb dX5_step_81 rfl (lv_at hl 0 rfl) ?_
    refine sn_getI C hw fd_RX5_40 layC_38 rfl dX5_step_82 ?_
    refine lv_iconst (v := 2) hx hb dX5_step_85 rfl ?_
    refine lv_icmp_ne (tgt := 128) hx hb dX5_step_86 (by decide) (fun c_2 => ?_) (fun c_2 => ?_)
    · have hf := sn_el c_2 hf
      cases hf
      exact kx _ rfl _ _ _ hw (lv_sub hl [] rfl)
    · have hf := sn_if c_2 hf
      exact wX5_step_89 C  hf kc kx _ _ _ hw (lv_sub hl [0] rfl)
theorem wX5_step_L73 (C : sn_C p s m args meth c RX5 cX5_step 1 none D ct ad layC)    {z : sn_S} {t : sn_S} (h : sn_it (LX5_step_73 ) 5000 z = some t) (kx : ∀ v, t = v → sn_At p l e rmX5_step s m args below meth c Q D ct ad layC 1 v 128 [] []) : sn_At p l e rmX5_step s m args below meth c Q D ct ad layC 1 z 73 [(0, .ref (ad 38))] [] :=
  sn_loop (f := LX5_step_73 ) (G := fun z => sn_At p l e rmX5_step s m args below meth c Q D ct ad layC 1 z 73 [(0, .ref (ad 38))] []) (E := fun t => (∀ v, t = v → sn_At p l e rmX5_step s m args below meth c Q D ct ad layC 1 v 128 [] []) ∧ True) (fun z o hf k1 k2 => wX5_step_73 C  hf (fun v e => k1 v e) (fun v e => (k2 _ e).1 v rfl)) 5000 z t h ⟨kx, trivial⟩
theorem wX5_step_44 (C : sn_C p s m args meth c RX5 cX5_step 1 none D ct ad layC) {σ : sn_S}  {o : sn_S} (hf : BX5_step_44 σ = some o) (kr : sn_Kr p l e rmX5_step s m args below meth c Q D ct ad layC cX5_step .return_ (true) o []) : sn_At p l e rmX5_step s m args below meth c Q D ct ad layC 1 σ 44 [(0, .ref (ad 38))] [] := by
  intro H locs ls hw hl
  have hx := C.1
  have hb := C.2.1
  unfold BX5_step_44 at hf
  refine lv_aload_n hx hb dX5_step_44 rfl (lv_at hl 0 rfl) ?_
  refine lv_aload_n hx hb dX5_step_45 rfl (lv_at hl 0 rfl) ?_
  refine lv_aload_n hx hb dX5_step_46 rfl (lv_at hl 0 rfl) ?_
  refine sn_getI C hw fd_RX5_131 layC_38 rfl dX5_step_47 ?_
  obtain ⟨t_1, h_2, hf⟩ := sn_bd hf
  refine sn_callVi (rest := [.ref (ad 38)]) C hw (ctX5_kindAt l  h_2) kl_RX5_148 layC_38 rfl rfl rfl rfl (Nat.le_of_ble_eq_true rfl) dX5_step_50 hl.1 (fun H locs hw => ?_)
  refine sn_putI C hw fp_RX5_40 layC_38 rfl dX5_step_53 (fun H locs hw => ?_)
  obtain ⟨σ_3, e_4, hf⟩ := sn_ltE hf
  rw [← e_4] at hw
  refine lv_aload_n hx hb dX5_step_56 rfl (lv_at hl 0 rfl) ?_
  refine lv_aload_n hx hb dX5_step_57 rfl (lv_at hl 0 rfl) ?_
  refine sn_getI C hw fd_RX5_131 layC_38 rfl dX5_step_58 ?_
  refine lv_iconst (v := 1) hx hb dX5_step_61 rfl ?_
  refine lv_iadd hx hb dX5_step_62 ?_
  refine lv_aload_n hx hb dX5_step_63 rfl (lv_at hl 0 rfl) ?_
  refine sn_getI C hw fd_RX5_19 layC_38 rfl dX5_step_64 ?_
  refine va_mmin hx hb (C.2.2.1.trans hl.1.symm) C.2.2.2.1 (C.2.2.2.2.1 _ km_RX5_134) (C.2.2.2.2.1 _ kst_minI) (C.2.2.2.2.1 _ ki_Math) (C.2.2.2.2.1 _ kc_minI) (Nat.le_of_ble_eq_true rfl) (Nat.le_of_ble_eq_true rfl) (Nat.zero_le _) (Nat.zero_le _) dX5_step_67 ?_
  obtain ⟨y_5, e_6, hf⟩ := sn_ltE hf
  refine lv_topi (fun y_5_ e_6_ => ?_)
  obtain rfl : y_5 = y_5_ := e_6.trans e_6_.symm
  refine sn_putI C hw fp_RX5_34 layC_38 rfl dX5_step_70 (fun H locs hw => ?_)
  obtain ⟨σ_7, e_8, hf⟩ := sn_ltE hf
  rw [← e_8] at hw
  obtain ⟨t_9, h_10, hf⟩ := sn_bd hf
  exact wX5_step_L73 C  h_10 (fun v e => by cases e; exact wX5_step_128 C  hf kr) _ _ _ hw (lv_sub hl [0] rfl)
theorem wX5_step_8 (C : sn_C p s m args meth c RX5 cX5_step 1 none D ct ad layC) {σ : sn_S}  {o : (sn_S) ⊕ (sn_S)} (hf : BX5_step_8 σ = some o) (kc : ∀ v, o = .inl v → sn_At p l e rmX5_step s m args below meth c Q D ct ad layC 1 v 8 [(0, .ref (ad 38))] []) (kx : ∀ v, o = .inr v → sn_At p l e rmX5_step s m args below meth c Q D ct ad layC 1 v 44 [(0, .ref (ad 38))] []) : sn_At p l e rmX5_step s m args below meth c Q D ct ad layC 1 σ 8 [(0, .ref (ad 38))] [] := by
  intro H locs ls hw hl
  have hx := C.1
  have hb := C.2.1
  unfold BX5_step_8 at hf
  refine lv_aload_n hx hb dX5_step_8 rfl (lv_at hl 0 rfl) ?_
  refine sn_getI C hw fd_RX5_131 layC_38 rfl dX5_step_9 ?_
  refine lv_aload_n hx hb dX5_step_12 rfl (lv_at hl 0 rfl) ?_
  refine sn_getI C hw fd_RX5_19 layC_38 rfl dX5_step_13 ?_
  refine lv_icmp_ge (tgt := 44) hx hb dX5_step_16 (by decide) (fun c_1 => ?_) (fun c_1 => ?_)
  · have hf := sn_if c_1 hf
    cases hf
    exact kx _ rfl _ _ _ hw (lv_sub hl [0] rfl)
  · have hf := sn_el c_1 hf
    refine lv_aload_n hx hb dX5_step_19 rfl (lv_at hl 0 rfl) ?_
    refine lv_aload_n hx hb dX5_step_20 rfl (lv_at hl 0 rfl) ?_
    refine sn_getI C hw fd_RX5_131 layC_38 rfl dX5_step_21 ?_
    obtain ⟨t_2, h_3, hf⟩ := sn_bd hf
    refine sn_callVi (rest := []) C hw (ctX5_kindAt l  h_3) kl_RX5_148 layC_38 rfl rfl rfl rfl (Nat.le_of_ble_eq_true rfl) dX5_step_24 hl.1 (fun H locs hw => ?_)
    refine lv_iconst (v := 4) hx hb dX5_step_27 rfl ?_
    refine lv_icmp_ne (tgt := 44) hx hb dX5_step_28 (by decide) (fun c_4 => ?_) (fun c_4 => ?_)
    · have hf := sn_el c_4 hf
      cases hf
      exact kx _ rfl _ _ _ hw (lv_sub hl [0] rfl)
    · have hf := sn_if c_4 hf
      refine lv_aload_n hx hb dX5_step_31 rfl (lv_at hl 0 rfl) ?_
      refine lv_dup hx hb dX5_step_32 rfl ?_
      refine sn_getI C hw fd_RX5_131 layC_38 rfl dX5_step_33 ?_
      refine lv_iconst (v := 1) hx hb dX5_step_36 rfl ?_
      refine lv_iadd hx hb dX5_step_37 ?_
      refine sn_putI C hw fp_RX5_131 layC_38 rfl dX5_step_38 (fun H locs hw => ?_)
      obtain ⟨σ_5, e_6, hf⟩ := sn_ltE hf
      rw [← e_6] at hw
      refine lv_goto (tgt := 8) hx hb dX5_step_41 (by decide) ?_
      cases hf
      exact kc _ rfl _ _ _ hw (lv_sub hl [0] rfl)
theorem wX5_step_L8 (C : sn_C p s m args meth c RX5 cX5_step 1 none D ct ad layC)    {z : sn_S} {t : sn_S} (h : sn_it (LX5_step_8 ) 5000 z = some t) (kx : ∀ v, t = v → sn_At p l e rmX5_step s m args below meth c Q D ct ad layC 1 v 44 [(0, .ref (ad 38))] []) : sn_At p l e rmX5_step s m args below meth c Q D ct ad layC 1 z 8 [(0, .ref (ad 38))] [] :=
  sn_loop (f := LX5_step_8 ) (G := fun z => sn_At p l e rmX5_step s m args below meth c Q D ct ad layC 1 z 8 [(0, .ref (ad 38))] []) (E := fun t => (∀ v, t = v → sn_At p l e rmX5_step s m args below meth c Q D ct ad layC 1 v 44 [(0, .ref (ad 38))] []) ∧ True) (fun z o hf k1 k2 => wX5_step_8 C  hf (fun v e => k1 v e) (fun v e => (k2 _ e).1 v rfl)) 5000 z t h ⟨kx, trivial⟩
theorem wX5_step_in (C : sn_C p s m args meth c RX5 cX5_step 1 none D ct ad layC) {σ : sn_S}  {o : sn_S} (hf : fX5_step σ = some o) (kr : sn_Kr p l e rmX5_step s m args below meth c Q D ct ad layC cX5_step .return_ (true) o []) : sn_At p l e rmX5_step s m args below meth c Q D ct ad layC 1 σ 0 [(0, .ref (ad 38))] [] := by
  intro H locs ls hw hl
  have hx := C.1
  have hb := C.2.1
  unfold fX5_step at hf
  refine lv_aload_n hx hb dX5_step_0 rfl (lv_at hl 0 rfl) ?_
  refine lv_aload_n hx hb dX5_step_1 rfl (lv_at hl 0 rfl) ?_
  refine sn_getI C hw fd_RX5_34 layC_38 rfl dX5_step_2 ?_
  refine sn_putI C hw fp_RX5_131 layC_38 rfl dX5_step_5 (fun H locs hw => ?_)
  obtain ⟨σ_1, e_2, hf⟩ := sn_ltE hf
  rw [← e_2] at hw
  obtain ⟨t_3, h_4, hf⟩ := sn_bd hf
  exact wX5_step_L8 C  h_4 (fun v e => by cases e; exact wX5_step_44 C  hf kr) _ _ _ hw (lv_sub hl [0] rfl)
theorem ctX5_step (l : Launch) {σ : sn_S}  {o : sn_S} (hf : fX5_step σ = some o) : sn_M l yX5_step cX5_step 1 none rmX5_step layC (fun ad => [.ref (ad 38)]) σ none o :=
  sn_met (by decide) (fun _ => Nat.le_of_ble_eq_true rfl) (fun p e s m args below meth c ls D ct ad C hw hl => wX5_step_in C  hf (fun H locs ls pc hw ok hd => sn_vret C hw hd) _ _ _ hw hl)
-- X5_blame
abbrev rmX5_blame : Room := { frames := 0, cells := 0, slots := 0, locals := 0 }
def fX5_blame (σ : sn_S) (x1 : Int32) : Option sn_S :=
  (if (sn_I σ 38 2) = 0 then
  (sn_lt (sn_pI σ 38 2 x1) fun σ_2 => (sn_lt (sn_pI σ_2 38 3 (sn_I σ_2 38 4)) fun σ_4 => (some σ_4)))
  else
  (some σ))
theorem wX5_blame_in (C : sn_C p s m args meth c RX5 cX5_blame 2 none D ct ad layC) {σ : sn_S} {x1 : Int32}  {o : sn_S} (hf : fX5_blame σ x1 = some o) (kr : sn_Kr p l e rmX5_blame s m args below meth c Q D ct ad layC cX5_blame .return_ (true) o []) : sn_At p l e rmX5_blame s m args below meth c Q D ct ad layC 2 σ 0 [(0, .ref (ad 38)), (1, .int x1)] [] := by
  intro H locs ls hw hl
  have hx := C.1
  have hb := C.2.1
  unfold fX5_blame at hf
  refine lv_aload_n hx hb dX5_blame_0 rfl (lv_at hl 0 rfl) ?_
  refine sn_getI C hw fd_RX5_31 layC_38 rfl dX5_blame_1 ?_
  refine lv_if_ne (tgt := 20) hx hb dX5_blame_4 (by decide) (fun c_1 => ?_) (fun c_1 => ?_)
  · have hf := sn_el c_1 hf
    cases hf
    exact kr _ _ _ _ hw rfl dX5_blame_20
  · have hf := sn_if c_1 hf
    refine lv_aload_n hx hb dX5_blame_7 rfl (lv_at hl 0 rfl) ?_
    refine lv_iload_n hx hb dX5_blame_8 rfl (lv_at hl 1 rfl) ?_
    refine sn_putI C hw fp_RX5_31 layC_38 rfl dX5_blame_9 (fun H locs hw => ?_)
    obtain ⟨σ_2, e_3, hf⟩ := sn_ltE hf
    rw [← e_3] at hw
    refine lv_aload_n hx hb dX5_blame_12 rfl (lv_at hl 0 rfl) ?_
    refine lv_aload_n hx hb dX5_blame_13 rfl (lv_at hl 0 rfl) ?_
    refine sn_getI C hw fd_RX5_131 layC_38 rfl dX5_blame_14 ?_
    refine sn_putI C hw fp_RX5_15 layC_38 rfl dX5_blame_17 (fun H locs hw => ?_)
    obtain ⟨σ_4, e_5, hf⟩ := sn_ltE hf
    rw [← e_5] at hw
    cases hf
    exact kr _ _ _ _ hw rfl dX5_blame_20
theorem ctX5_blame (l : Launch) {σ : sn_S} {x1 : Int32}  {o : sn_S} (hf : fX5_blame σ x1 = some o) : sn_M l yX5_blame cX5_blame 2 none rmX5_blame layC (fun ad => [.ref (ad 38), .int x1]) σ none o :=
  sn_met (by decide) (fun _ => Nat.le_of_ble_eq_true rfl) (fun p e s m args below meth c ls D ct ad C hw hl => wX5_blame_in C  hf (fun H locs ls pc hw ok hd => sn_vret C hw hd) _ _ _ hw hl)
-- X5_value
abbrev rmX5_value : Room := { frames := 1, cells := 0, slots := 0, locals := 32 }
def BX5_value_41 (σ : sn_S) (x1 : Int32) : Option (Int32) :=
  (some x1)
def BX5_value_7 (σ : sn_S) (x1 : Int32) (x2 : Int32) : Option ((Int32 × Int32) ⊕ (Int32)) :=
  (if (sn_I σ 38 5) ≤ x2 then
  (some (.inr (x1)))
  else
  (sn_gd (sn_in x2 900) (sn_lt (if ((((10 : Int32) * x1) + (sn_I σ 39 x2.toNatClampNeg)) - (48 : Int32)) < (1000000 : Int32) then ((((10 : Int32) * x1) + (sn_I σ 39 x2.toNatClampNeg)) - (48 : Int32)) else (1000000 : Int32)) fun y_3 => (sn_lt (x2 + 1) fun y_5 => (some (.inl (y_3, y_5)))))))
def LX5_value_7 (σ : sn_S) (s : Int32 × Int32) : Option ((Int32 × Int32) ⊕ (Int32)) := BX5_value_7 σ s.1 s.2
def fX5_value (σ : sn_S) : Option Int32 :=
  (sn_lt (sn_I σ 38 4) fun y_1 => ((sn_it (LX5_value_7 σ) 5000 ((0 : Int32), y_1)).bind fun t_3 => (BX5_value_41 σ t_3)))
theorem wX5_value_41 (C : sn_C p s m args meth c RX5 cX5_value 3 (some .int) D ct ad layC) {σ : sn_S} {x1 : Int32}  {o : Int32} (hf : BX5_value_41 σ x1 = some o) (kr : sn_Kr p l e rmX5_value s m args below meth c Q D ct ad layC cX5_value .ireturn (true) σ [.int o]) : sn_At p l e rmX5_value s m args below meth c Q D ct ad layC 3 σ 41 [(1, .int x1)] [] := by
  intro H locs ls hw hl
  have hx := C.1
  have hb := C.2.1
  unfold BX5_value_41 at hf
  refine lv_iload_n hx hb dX5_value_41 rfl (lv_at hl 0 rfl) ?_
  cases hf
  exact kr _ _ _ _ hw rfl dX5_value_42
theorem wX5_value_7 (C : sn_C p s m args meth c RX5 cX5_value 3 (some .int) D ct ad layC) {σ : sn_S} {x1 : Int32} {x2 : Int32}  {o : (Int32 × Int32) ⊕ (Int32)} (hf : BX5_value_7 σ x1 x2 = some o) (kc : ∀ v, o = .inl v → sn_At p l e rmX5_value s m args below meth c Q D ct ad layC 3 σ 7 [(0, .ref (ad 38)), (1, .int v.1), (2, .int v.2)] []) (kx : ∀ v, o = .inr v → sn_At p l e rmX5_value s m args below meth c Q D ct ad layC 3 σ 41 [(1, .int v)] []) : sn_At p l e rmX5_value s m args below meth c Q D ct ad layC 3 σ 7 [(0, .ref (ad 38)), (1, .int x1), (2, .int x2)] [] := by
  intro H locs ls hw hl
  have hx := C.1
  have hb := C.2.1
  unfold BX5_value_7 at hf
  refine lv_iload_n hx hb dX5_value_7 rfl (lv_at hl 2 rfl) ?_
  refine lv_aload_n hx hb dX5_value_8 rfl (lv_at hl 0 rfl) ?_
  refine sn_getI C hw fd_RX5_34 layC_38 rfl dX5_value_9 ?_
  refine lv_icmp_ge (tgt := 41) hx hb dX5_value_12 (by decide) (fun c_1 => ?_) (fun c_1 => ?_)
  · have hf := sn_if c_1 hf
    cases hf
    exact kx _ rfl _ _ _ hw (lv_sub hl [1] rfl)
  · have hf := sn_el c_1 hf
    refine lv_ldc hx hb C.2.2.2.1 (C.2.2.2.2.1 _ kk_RX5_133) dX5_value_15 ?_
    refine lv_bipush (v := 10) hx hb dX5_value_17 (by decide) ?_
    refine lv_iload_n hx hb dX5_value_19 rfl (lv_at hl 1 rfl) ?_
    refine lv_imul hx hb dX5_value_20 ?_
    refine lv_aload_n hx hb dX5_value_21 rfl (lv_at hl 0 rfl) ?_
    refine sn_getC (r := 39) C hw fd_RX5_9 layC_38 rfl dX5_value_22 ?_
    refine lv_iload_n hx hb dX5_value_25 rfl (lv_at hl 2 rfl) ?_
    obtain ⟨g_2, hf⟩ := sn_gdE hf
    refine sn_iald C hw layC_39 g_2 dX5_value_26 ?_
    refine lv_iadd hx hb dX5_value_27 ?_
    refine lv_bipush (v := 48) hx hb dX5_value_28 (by decide) ?_
    refine lv_isub hx hb dX5_value_30 ?_
    refine va_mmin hx hb (C.2.2.1.trans hl.1.symm) C.2.2.2.1 (C.2.2.2.2.1 _ km_RX5_134) (C.2.2.2.2.1 _ kst_minI) (C.2.2.2.2.1 _ ki_Math) (C.2.2.2.2.1 _ kc_minI) (Nat.le_of_ble_eq_true rfl) (Nat.le_of_ble_eq_true rfl) (Nat.zero_le _) (Nat.zero_le _) dX5_value_31 ?_
    obtain ⟨y_3, e_4, hf⟩ := sn_ltE hf
    refine lv_topi (fun y_3_ e_4_ => ?_)
    obtain rfl : y_3 = y_3_ := e_4.trans e_4_.symm
    refine lv_istore_n (lv' := [(1, .int y_3), (0, .ref (ad 38)), (2, .int x2)]) hx hb dX5_value_34 rfl hl (by decide) rfl (fun ls hl => ?_)
    obtain ⟨y_5, e_6, hf⟩ := sn_ltE hf
    refine lv_iinc (v := y_5) (lv' := [(2, .int y_5), (1, .int y_3), (0, .ref (ad 38))]) hx hb dX5_value_35 hl (k := 2) rfl (by rw [e_6]; rfl) (by decide) rfl (fun ls hl => ?_)
    refine lv_goto (tgt := 7) hx hb dX5_value_38 (by decide) ?_
    cases hf
    exact kc _ rfl _ _ _ hw (lv_sub hl [2, 1, 0] rfl)
theorem wX5_value_L7 (C : sn_C p s m args meth c RX5 cX5_value 3 (some .int) D ct ad layC) {σ : sn_S}   {z : Int32 × Int32} {t : Int32} (h : sn_it (LX5_value_7 σ) 5000 z = some t) (kx : ∀ v, t = v → sn_At p l e rmX5_value s m args below meth c Q D ct ad layC 3 σ 41 [(1, .int v)] []) : sn_At p l e rmX5_value s m args below meth c Q D ct ad layC 3 σ 7 [(0, .ref (ad 38)), (1, .int z.1), (2, .int z.2)] [] :=
  sn_loop (f := LX5_value_7 σ) (G := fun z => sn_At p l e rmX5_value s m args below meth c Q D ct ad layC 3 σ 7 [(0, .ref (ad 38)), (1, .int z.1), (2, .int z.2)] []) (E := fun t => (∀ v, t = v → sn_At p l e rmX5_value s m args below meth c Q D ct ad layC 3 σ 41 [(1, .int v)] []) ∧ True) (fun z o hf k1 k2 => wX5_value_7 C  hf (fun v e => k1 v e) (fun v e => (k2 _ e).1 v rfl)) 5000 z t h ⟨kx, trivial⟩
theorem wX5_value_in (C : sn_C p s m args meth c RX5 cX5_value 3 (some .int) D ct ad layC) {σ : sn_S}  {o : Int32} (hf : fX5_value σ = some o) (kr : sn_Kr p l e rmX5_value s m args below meth c Q D ct ad layC cX5_value .ireturn (true) σ [.int o]) : sn_At p l e rmX5_value s m args below meth c Q D ct ad layC 3 σ 0 [(0, .ref (ad 38))] [] := by
  intro H locs ls hw hl
  have hx := C.1
  have hb := C.2.1
  unfold fX5_value at hf
  refine lv_iconst (v := 0) hx hb dX5_value_0 rfl ?_
  refine lv_istore_n (lv' := [(1, .int (0 : Int32)), (0, .ref (ad 38))]) hx hb dX5_value_1 rfl hl (by decide) rfl (fun ls hl => ?_)
  refine lv_aload_n hx hb dX5_value_2 rfl (lv_at hl 1 rfl) ?_
  refine sn_getI C hw fd_RX5_131 layC_38 rfl dX5_value_3 ?_
  obtain ⟨y_1, e_2, hf⟩ := sn_ltE hf
  refine lv_topi (fun y_1_ e_2_ => ?_)
  obtain rfl : y_1 = y_1_ := e_2.trans e_2_.symm
  refine lv_istore_n (lv' := [(2, .int y_1), (1, .int (0 : Int32)), (0, .ref (ad 38))]) hx hb dX5_value_6 rfl hl (by decide) rfl (fun ls hl => ?_)
  obtain ⟨t_3, h_4, hf⟩ := sn_bd hf
  exact wX5_value_L7 C  h_4 (fun v e => by cases e; exact wX5_value_41 C  hf kr) _ _ _ hw (lv_sub hl [2, 1, 0] rfl)
theorem ctX5_value (l : Launch) {σ : sn_S}  {o : Int32} (hf : fX5_value σ = some o) : sn_M l yX5_value cX5_value 3 (some .int) rmX5_value layC (fun ad => [.ref (ad 38)]) σ (some (fun _ => .int o)) σ :=
  sn_met (by decide) (fun _ => Nat.le_of_ble_eq_true rfl) (fun p e s m args below meth c ls D ct ad C hw hl => wX5_value_in C  hf (fun H locs ls pc hw ok hd => sn_iret C hw hd) _ _ _ hw hl)
-- X5_number
abbrev rmX5_number : Room := { frames := 2, cells := 0, slots := 0, locals := 54 }
def BX5_number_44 (σ : sn_S) (x4 : Int32) : Option ((Int32 × sn_S)) :=
  ((fX5_step σ).bind fun t_1 => (some (x4, t_1)))
def BX5_number_39 (σ : sn_S) (x4 : Int32) : Option ((Int32 × sn_S)) :=
  ((fX5_blame σ (2 : Int32)).bind fun t_1 => (BX5_number_44 t_1 x4))
def fX5_number (σ : sn_S) (x1 : Int32) (x2 : Int32) (x3 : Int32) : Option (Int32 × sn_S) :=
  (if (sn_I σ 38 6) = (2 : Int32) then
  ((fX5_value σ).bind fun t_2 => (if t_2 < x1 then
  (BX5_number_39 σ t_2)
  else
  (if x2 < t_2 then
  (BX5_number_39 σ t_2)
  else
  (if t_2 = x3 then
  (BX5_number_39 σ t_2)
  else
  (BX5_number_44 σ t_2)))))
  else
  ((fX5_blame σ (1 : Int32)).bind fun t_7 => (some ((0 : Int32), t_7))))
theorem wX5_number_44 (C : sn_C p s m args meth c RX5 cX5_number 5 (some .int) D ct ad layC) {σ : sn_S} {x4 : Int32}  {o : (Int32 × sn_S)} (hf : BX5_number_44 σ x4 = some o) (kr : sn_Kr p l e rmX5_number s m args below meth c Q D ct ad layC cX5_number .ireturn (true) o.2 [.int o.1]) : sn_At p l e rmX5_number s m args below meth c Q D ct ad layC 5 σ 44 [(0, .ref (ad 38)), (4, .int x4)] [] := by
  intro H locs ls hw hl
  have hx := C.1
  have hb := C.2.1
  unfold BX5_number_44 at hf
  refine lv_aload_n hx hb dX5_number_44 rfl (lv_at hl 0 rfl) ?_
  obtain ⟨t_1, h_2, hf⟩ := sn_bd hf
  refine sn_callVv (rest := []) C hw (ctX5_step l  h_2) kl_RX5_37 layC_38 rfl rfl rfl rfl (Nat.le_of_ble_eq_true rfl) dX5_number_45 hl.1 (fun H locs hw => ?_)
  refine lv_iload hx hb dX5_number_48 (lv_at hl 1 rfl) ?_
  cases hf
  exact kr _ _ _ _ hw rfl dX5_number_50
theorem wX5_number_39 (C : sn_C p s m args meth c RX5 cX5_number 5 (some .int) D ct ad layC) {σ : sn_S} {x4 : Int32}  {o : (Int32 × sn_S)} (hf : BX5_number_39 σ x4 = some o) (kr : sn_Kr p l e rmX5_number s m args below meth c Q D ct ad layC cX5_number .ireturn (true) o.2 [.int o.1]) : sn_At p l e rmX5_number s m args below meth c Q D ct ad layC 5 σ 39 [(0, .ref (ad 38)), (4, .int x4)] [] := by
  intro H locs ls hw hl
  have hx := C.1
  have hb := C.2.1
  unfold BX5_number_39 at hf
  refine lv_aload_n hx hb dX5_number_39 rfl (lv_at hl 0 rfl) ?_
  refine lv_iconst (v := 2) hx hb dX5_number_40 rfl ?_
  obtain ⟨t_1, h_2, hf⟩ := sn_bd hf
  refine sn_callVv (rest := []) C hw (ctX5_blame l  h_2) kl_RX5_100 layC_38 rfl rfl rfl rfl (Nat.le_of_ble_eq_true rfl) dX5_number_41 hl.1 (fun H locs hw => ?_)
  exact wX5_number_44 C  hf kr _ _ _ hw (lv_sub hl [0, 1] rfl)
theorem wX5_number_in (C : sn_C p s m args meth c RX5 cX5_number 5 (some .int) D ct ad layC) {σ : sn_S} {x1 : Int32} {x2 : Int32} {x3 : Int32}  {o : (Int32 × sn_S)} (hf : fX5_number σ x1 x2 x3 = some o) (kr : sn_Kr p l e rmX5_number s m args below meth c Q D ct ad layC cX5_number .ireturn (true) o.2 [.int o.1]) : sn_At p l e rmX5_number s m args below meth c Q D ct ad layC 5 σ 0 [(0, .ref (ad 38)), (1, .int x1), (2, .int x2), (3, .int x3)] [] := by
  intro H locs ls hw hl
  have hx := C.1
  have hb := C.2.1
  unfold fX5_number at hf
  refine lv_aload_n hx hb dX5_number_0 rfl (lv_at hl 0 rfl) ?_
  refine sn_getI C hw fd_RX5_40 layC_38 rfl dX5_number_1 ?_
  refine lv_iconst (v := 2) hx hb dX5_number_4 rfl ?_
  refine lv_icmp_eq (tgt := 15) hx hb dX5_number_5 (by decide) (fun c_1 => ?_) (fun c_1 => ?_)
  · have hf := sn_if c_1 hf
    refine lv_aload_n hx hb dX5_number_15 rfl (lv_at hl 0 rfl) ?_
    obtain ⟨t_2, h_3, hf⟩ := sn_bd hf
    refine sn_callVi (rest := []) C hw (ctX5_value l  h_3) kl_RX5_127 layC_38 rfl rfl rfl rfl (Nat.le_of_ble_eq_true rfl) dX5_number_16 hl.1 (fun H locs hw => ?_)
    refine lv_istore (lv' := [(4, .int t_2), (0, .ref (ad 38)), (1, .int x1), (2, .int x2), (3, .int x3)]) hx hb dX5_number_19 hl (by decide) rfl (fun ls hl => ?_)
    refine lv_iload hx hb dX5_number_21 (lv_at hl 0 rfl) ?_
    refine lv_iload_n hx hb dX5_number_23 rfl (lv_at hl 2 rfl) ?_
    refine lv_icmp_lt (tgt := 39) hx hb dX5_number_24 (by decide) (fun c_4 => ?_) (fun c_4 => ?_)
    · have hf := sn_if c_4 hf
      exact wX5_number_39 C  hf kr _ _ _ hw (lv_sub hl [1, 0] rfl)
    · have hf := sn_el c_4 hf
      refine lv_iload hx hb dX5_number_27 (lv_at hl 0 rfl) ?_
      refine lv_iload_n hx hb dX5_number_29 rfl (lv_at hl 3 rfl) ?_
      refine lv_icmp_gt (tgt := 39) hx hb dX5_number_30 (by decide) (fun c_5 => ?_) (fun c_5 => ?_)
      · have hf := sn_if c_5 hf
        exact wX5_number_39 C  hf kr _ _ _ hw (lv_sub hl [1, 0] rfl)
      · have hf := sn_el c_5 hf
        refine lv_iload hx hb dX5_number_33 (lv_at hl 0 rfl) ?_
        refine lv_iload_n hx hb dX5_number_35 rfl (lv_at hl 4 rfl) ?_
        refine lv_icmp_ne (tgt := 44) hx hb dX5_number_36 (by decide) (fun c_6 => ?_) (fun c_6 => ?_)
        · have hf := sn_el c_6 hf
          exact wX5_number_44 C  hf kr _ _ _ hw (lv_sub hl [1, 0] rfl)
        · have hf := sn_if c_6 hf
          exact wX5_number_39 C  hf kr _ _ _ hw (lv_sub hl [1, 0] rfl)
  · have hf := sn_el c_1 hf
    refine lv_aload_n hx hb dX5_number_8 rfl (lv_at hl 0 rfl) ?_
    refine lv_iconst (v := 1) hx hb dX5_number_9 rfl ?_
    obtain ⟨t_7, h_8, hf⟩ := sn_bd hf
    refine sn_callVv (rest := []) C hw (ctX5_blame l  h_8) kl_RX5_100 layC_38 rfl rfl rfl rfl (Nat.le_of_ble_eq_true rfl) dX5_number_10 hl.1 (fun H locs hw => ?_)
    refine lv_iconst (v := 0) hx hb dX5_number_13 rfl ?_
    cases hf
    exact kr _ _ _ _ hw rfl dX5_number_14
theorem ctX5_number (l : Launch) {σ : sn_S} {x1 : Int32} {x2 : Int32} {x3 : Int32}  {o : (Int32 × sn_S)} (hf : fX5_number σ x1 x2 x3 = some o) : sn_M l yX5_number cX5_number 5 (some .int) rmX5_number layC (fun ad => [.ref (ad 38), .int x1, .int x2, .int x3]) σ (some (fun _ => .int o.1)) o.2 :=
  sn_met (by decide) (fun _ => Nat.le_of_ble_eq_true rfl) (fun p e s m args below meth c ls D ct ad C hw hl => wX5_number_in C  hf (fun H locs ls pc hw ok hd => sn_iret C hw hd) _ _ _ hw hl)
-- X5_sign
abbrev rmX5_sign : Room := { frames := 2, cells := 0, slots := 0, locals := 52 }
def fX5_sign (σ : sn_S) : Option sn_S :=
  (if (sn_I σ 38 6) = (3 : Int32) then
  ((fX5_step σ).bind fun t_4 => (some t_4))
  else
  ((fX5_blame σ (1 : Int32)).bind fun t_2 => (some t_2)))
theorem wX5_sign_in (C : sn_C p s m args meth c RX5 cX5_sign 1 none D ct ad layC) {σ : sn_S}  {o : sn_S} (hf : fX5_sign σ = some o) (kr : sn_Kr p l e rmX5_sign s m args below meth c Q D ct ad layC cX5_sign .return_ (true) o []) : sn_At p l e rmX5_sign s m args below meth c Q D ct ad layC 1 σ 0 [(0, .ref (ad 38))] [] := by
  intro H locs ls hw hl
  have hx := C.1
  have hb := C.2.1
  unfold fX5_sign at hf
  refine lv_aload_n hx hb dX5_sign_0 rfl (lv_at hl 0 rfl) ?_
  refine sn_getI C hw fd_RX5_40 layC_38 rfl dX5_sign_1 ?_
  refine lv_iconst (v := 3) hx hb dX5_sign_4 rfl ?_
  refine lv_icmp_ne (tgt := 15) hx hb dX5_sign_5 (by decide) (fun c_1 => ?_) (fun c_1 => ?_)
  · have hf := sn_el c_1 hf
    refine lv_aload_n hx hb dX5_sign_15 rfl (lv_at hl 0 rfl) ?_
    refine lv_iconst (v := 1) hx hb dX5_sign_16 rfl ?_
    obtain ⟨t_2, h_3, hf⟩ := sn_bd hf
    refine sn_callVv (rest := []) C hw (ctX5_blame l  h_3) kl_RX5_100 layC_38 rfl rfl rfl rfl (Nat.le_of_ble_eq_true rfl) dX5_sign_17 hl.1 (fun H locs hw => ?_)
    cases hf
    exact kr _ _ _ _ hw rfl dX5_sign_20
  · have hf := sn_if c_1 hf
    refine lv_aload_n hx hb dX5_sign_8 rfl (lv_at hl 0 rfl) ?_
    obtain ⟨t_4, h_5, hf⟩ := sn_bd hf
    refine sn_callVv (rest := []) C hw (ctX5_step l  h_5) kl_RX5_37 layC_38 rfl rfl rfl rfl (Nat.le_of_ble_eq_true rfl) dX5_sign_9 hl.1 (fun H locs hw => ?_)
    refine lv_goto (tgt := 20) hx hb dX5_sign_12 (by decide) ?_
    cases hf
    exact kr _ _ _ _ hw rfl dX5_sign_20
theorem ctX5_sign (l : Launch) {σ : sn_S}  {o : sn_S} (hf : fX5_sign σ = some o) : sn_M l yX5_sign cX5_sign 1 none rmX5_sign layC (fun ad => [.ref (ad 38)]) σ none o :=
  sn_met (by decide) (fun _ => Nat.le_of_ble_eq_true rfl) (fun p e s m args below meth c ls D ct ad C hw hl => wX5_sign_in C  hf (fun H locs ls pc hw ok hd => sn_vret C hw hd) _ _ _ hw hl)
-- X6_isSlot
abbrev rmX6_isSlot : Room := { frames := 0, cells := 0, slots := 0, locals := 0 }
def fX6_isSlot (x0 : Int32) : Option Int32 :=
  (if x0 < 0 then
  (sn_gd (sn_b01 (0 : Int32)) (some (0 : Int32)))
  else
  (if (4 : Int32) ≤ x0 then
  (sn_gd (sn_b01 (0 : Int32)) (some (0 : Int32)))
  else
  (sn_gd (sn_b01 (1 : Int32)) (some (1 : Int32)))))
theorem wX6_isSlot_in (C : sn_C p s m args meth c RX6 cX6_isSlot 1 (some .boolean) D ct ad layC) {σ : sn_S} {x0 : Int32}  {o : Int32} (hf : fX6_isSlot x0 = some o) (kr : sn_Kr p l e rmX6_isSlot s m args below meth c Q D ct ad layC cX6_isSlot .ireturn (sn_b01 o) σ [.int o]) : sn_At p l e rmX6_isSlot s m args below meth c Q D ct ad layC 1 σ 0 [(0, .int x0)] [] := by
  intro H locs ls hw hl
  have hx := C.1
  have hb := C.2.1
  unfold fX6_isSlot at hf
  refine lv_iload_n hx hb dX6_isSlot_0 rfl (lv_at hl 0 rfl) ?_
  refine lv_if_lt (tgt := 13) hx hb dX6_isSlot_1 (by decide) (fun c_1 => ?_) (fun c_1 => ?_)
  · have hf := sn_if c_1 hf
    refine lv_iconst (v := 0) hx hb dX6_isSlot_13 rfl ?_
    obtain ⟨g_2, hf⟩ := sn_gdE hf
    cases hf
    exact kr _ _ _ _ hw g_2 dX6_isSlot_14
  · have hf := sn_el c_1 hf
    refine lv_iload_n hx hb dX6_isSlot_4 rfl (lv_at hl 0 rfl) ?_
    refine lv_iconst (v := 4) hx hb dX6_isSlot_5 rfl ?_
    refine lv_icmp_ge (tgt := 13) hx hb dX6_isSlot_6 (by decide) (fun c_3 => ?_) (fun c_3 => ?_)
    · have hf := sn_if c_3 hf
      refine lv_iconst (v := 0) hx hb dX6_isSlot_13 rfl ?_
      obtain ⟨g_4, hf⟩ := sn_gdE hf
      cases hf
      exact kr _ _ _ _ hw g_4 dX6_isSlot_14
    · have hf := sn_el c_3 hf
      refine lv_iconst (v := 1) hx hb dX6_isSlot_9 rfl ?_
      refine lv_goto (tgt := 14) hx hb dX6_isSlot_10 (by decide) ?_
      obtain ⟨g_5, hf⟩ := sn_gdE hf
      cases hf
      exact kr _ _ _ _ hw g_5 dX6_isSlot_14
theorem ctX6_isSlot (l : Launch) {σ : sn_S} {x0 : Int32}  {o : Int32} (hf : fX6_isSlot x0 = some o) : sn_M l yX6_isSlot cX6_isSlot 1 (some .boolean) rmX6_isSlot layC (fun ad => [.int x0]) σ (some (fun _ => .int o)) σ :=
  sn_met (by decide) (fun _ => Nat.le_of_ble_eq_true rfl) (fun p e s m args below meth c ls D ct ad C hw hl => wX6_isSlot_in C  hf (fun H locs ls pc hw ok hd => sn_zret C hw ok hd) _ _ _ hw hl)
-- X6_has
abbrev rmX6_has : Room := { frames := 0, cells := 0, slots := 0, locals := 0 }
def fX6_has (σ : sn_S) (x1 : Int32) : Option Int32 :=
  (sn_gd (sn_in x1 4) (if (sn_I σ 47 x1.toNatClampNeg) = (-1 : Int32) then
  (sn_gd (sn_b01 (0 : Int32)) (some (0 : Int32)))
  else
  (sn_gd (sn_b01 (1 : Int32)) (some (1 : Int32)))))
theorem wX6_has_in (C : sn_C p s m args meth c RX6 cX6_has 2 (some .boolean) D ct ad layC) {σ : sn_S} {x1 : Int32}  {o : Int32} (hf : fX6_has σ x1 = some o) (kr : sn_Kr p l e rmX6_has s m args below meth c Q D ct ad layC cX6_has .ireturn (sn_b01 o) σ [.int o]) : sn_At p l e rmX6_has s m args below meth c Q D ct ad layC 2 σ 0 [(0, .ref (ad 40)), (1, .int x1)] [] := by
  intro H locs ls hw hl
  have hx := C.1
  have hb := C.2.1
  unfold fX6_has at hf
  refine lv_aload_n hx hb dX6_has_0 rfl (lv_at hl 0 rfl) ?_
  refine sn_getC (r := 47) C hw fd_RX6_20 layC_40 rfl dX6_has_1 ?_
  refine lv_iload_n hx hb dX6_has_4 rfl (lv_at hl 1 rfl) ?_
  obtain ⟨g_1, hf⟩ := sn_gdE hf
  refine sn_iald C hw layC_47 g_1 dX6_has_5 ?_
  refine lv_iconst (v := (-1)) hx hb dX6_has_6 rfl ?_
  refine lv_icmp_eq (tgt := 14) hx hb dX6_has_7 (by decide) (fun c_2 => ?_) (fun c_2 => ?_)
  · have hf := sn_if c_2 hf
    refine lv_iconst (v := 0) hx hb dX6_has_14 rfl ?_
    obtain ⟨g_3, hf⟩ := sn_gdE hf
    cases hf
    exact kr _ _ _ _ hw g_3 dX6_has_15
  · have hf := sn_el c_2 hf
    refine lv_iconst (v := 1) hx hb dX6_has_10 rfl ?_
    refine lv_goto (tgt := 15) hx hb dX6_has_11 (by decide) ?_
    obtain ⟨g_4, hf⟩ := sn_gdE hf
    cases hf
    exact kr _ _ _ _ hw g_4 dX6_has_15
theorem ctX6_has (l : Launch) {σ : sn_S} {x1 : Int32}  {o : Int32} (hf : fX6_has σ x1 = some o) : sn_M l yX6_has cX6_has 2 (some .boolean) rmX6_has layC (fun ad => [.ref (ad 40), .int x1]) σ (some (fun _ => .int o)) σ :=
  sn_met (by decide) (fun _ => Nat.le_of_ble_eq_true rfl) (fun p e s m args below meth c ls D ct ad C hw hl => wX6_has_in C  hf (fun H locs ls pc hw ok hd => sn_zret C hw ok hd) _ _ _ hw hl)
-- X6_howMany
abbrev rmX6_howMany : Room := { frames := 1, cells := 0, slots := 0, locals := 21 }
def BX6_howMany_31 (σ : sn_S) (x1 : Int32) : Option (Int32) :=
  (some x1)
def BX6_howMany_23 (σ : sn_S) (x1 : Int32) (x2 : Int32) (t0 : Int32) (t1 : Int32) : Option ((Int32 × Int32) ⊕ (Int32)) :=
  (sn_lt (t0 + t1) fun y_1 => (sn_lt (x2 + 1) fun y_3 => (some (.inl (y_1, y_3)))))
def BX6_howMany_4 (σ : sn_S) (x1 : Int32) (x2 : Int32) : Option ((Int32 × Int32) ⊕ (Int32)) :=
  (if (4 : Int32) ≤ x2 then
  (some (.inr (x1)))
  else
  ((fX6_has σ x2).bind fun t_2 => (if t_2 = 0 then
  (BX6_howMany_23 σ x1 x2 x1 (0 : Int32))
  else
  (BX6_howMany_23 σ x1 x2 x1 (1 : Int32)))))
def LX6_howMany_4 (σ : sn_S) (s : Int32 × Int32) : Option ((Int32 × Int32) ⊕ (Int32)) := BX6_howMany_4 σ s.1 s.2
def fX6_howMany (σ : sn_S) : Option Int32 :=
  ((sn_it (LX6_howMany_4 σ) 5000 ((0 : Int32), (0 : Int32))).bind fun t_1 => (BX6_howMany_31 σ t_1))
theorem wX6_howMany_31 (C : sn_C p s m args meth c RX6 cX6_howMany 3 (some .int) D ct ad layC) {σ : sn_S} {x1 : Int32}  {o : Int32} (hf : BX6_howMany_31 σ x1 = some o) (kr : sn_Kr p l e rmX6_howMany s m args below meth c Q D ct ad layC cX6_howMany .ireturn (true) σ [.int o]) : sn_At p l e rmX6_howMany s m args below meth c Q D ct ad layC 3 σ 31 [(1, .int x1)] [] := by
  intro H locs ls hw hl
  have hx := C.1
  have hb := C.2.1
  unfold BX6_howMany_31 at hf
  refine lv_iload_n hx hb dX6_howMany_31 rfl (lv_at hl 0 rfl) ?_
  cases hf
  exact kr _ _ _ _ hw rfl dX6_howMany_32
theorem wX6_howMany_23 (C : sn_C p s m args meth c RX6 cX6_howMany 3 (some .int) D ct ad layC) {σ : sn_S} {x1 : Int32} {x2 : Int32} {t0 : Int32} {t1 : Int32}  {o : (Int32 × Int32) ⊕ (Int32)} (hf : BX6_howMany_23 σ x1 x2 t0 t1 = some o) (kc : ∀ v, o = .inl v → sn_At p l e rmX6_howMany s m args below meth c Q D ct ad layC 3 σ 4 [(0, .ref (ad 40)), (1, .int v.1), (2, .int v.2)] []) (kx : ∀ v, o = .inr v → sn_At p l e rmX6_howMany s m args below meth c Q D ct ad layC 3 σ 31 [(1, .int v)] []) : sn_At p l e rmX6_howMany s m args below meth c Q D ct ad layC 3 σ 23 [(0, .ref (ad 40)), (1, .int x1), (2, .int x2)] [.int t1, .int t0] := by
  intro H locs ls hw hl
  have hx := C.1
  have hb := C.2.1
  unfold BX6_howMany_23 at hf
  refine lv_iadd hx hb dX6_howMany_23 ?_
  obtain ⟨y_1, e_2, hf⟩ := sn_ltE hf
  refine lv_topi (fun y_1_ e_2_ => ?_)
  obtain rfl : y_1 = y_1_ := e_2.trans e_2_.symm
  refine lv_istore_n (lv' := [(1, .int y_1), (0, .ref (ad 40)), (2, .int x2)]) hx hb dX6_howMany_24 rfl hl (by decide) rfl (fun ls hl => ?_)
  obtain ⟨y_3, e_4, hf⟩ := sn_ltE hf
  refine lv_iinc (v := y_3) (lv' := [(2, .int y_3), (1, .int y_1), (0, .ref (ad 40))]) hx hb dX6_howMany_25 hl (k := 2) rfl (by rw [e_4]; rfl) (by decide) rfl (fun ls hl => ?_)
  refine lv_goto (tgt := 4) hx hb dX6_howMany_28 (by decide) ?_
  cases hf
  exact kc _ rfl _ _ _ hw (lv_sub hl [2, 1, 0] rfl)
theorem wX6_howMany_4 (C : sn_C p s m args meth c RX6 cX6_howMany 3 (some .int) D ct ad layC) {σ : sn_S} {x1 : Int32} {x2 : Int32}  {o : (Int32 × Int32) ⊕ (Int32)} (hf : BX6_howMany_4 σ x1 x2 = some o) (kc : ∀ v, o = .inl v → sn_At p l e rmX6_howMany s m args below meth c Q D ct ad layC 3 σ 4 [(0, .ref (ad 40)), (1, .int v.1), (2, .int v.2)] []) (kx : ∀ v, o = .inr v → sn_At p l e rmX6_howMany s m args below meth c Q D ct ad layC 3 σ 31 [(1, .int v)] []) : sn_At p l e rmX6_howMany s m args below meth c Q D ct ad layC 3 σ 4 [(0, .ref (ad 40)), (1, .int x1), (2, .int x2)] [] := by
  intro H locs ls hw hl
  have hx := C.1
  have hb := C.2.1
  unfold BX6_howMany_4 at hf
  refine lv_iload_n hx hb dX6_howMany_4 rfl (lv_at hl 2 rfl) ?_
  refine lv_iconst (v := 4) hx hb dX6_howMany_5 rfl ?_
  refine lv_icmp_ge (tgt := 31) hx hb dX6_howMany_6 (by decide) (fun c_1 => ?_) (fun c_1 => ?_)
  · have hf := sn_if c_1 hf
    cases hf
    exact kx _ rfl _ _ _ hw (lv_sub hl [1] rfl)
  · have hf := sn_el c_1 hf
    refine lv_iload_n hx hb dX6_howMany_9 rfl (lv_at hl 1 rfl) ?_
    refine lv_aload_n hx hb dX6_howMany_10 rfl (lv_at hl 0 rfl) ?_
    refine lv_iload_n hx hb dX6_howMany_11 rfl (lv_at hl 2 rfl) ?_
    obtain ⟨t_2, h_3, hf⟩ := sn_bd hf
    refine sn_callVi (rest := [.int x1]) C hw (ctX6_has l  h_3) kl_RX6_29 layC_40 rfl rfl rfl rfl (Nat.le_of_ble_eq_true rfl) dX6_howMany_12 hl.1 (fun H locs hw => ?_)
    refine lv_if_eq (tgt := 22) hx hb dX6_howMany_15 (by decide) (fun c_4 => ?_) (fun c_4 => ?_)
    · have hf := sn_if c_4 hf
      refine lv_iconst (v := 0) hx hb dX6_howMany_22 rfl ?_
      exact wX6_howMany_23 C  hf kc kx _ _ _ hw (lv_sub hl [0, 1, 2] rfl)
    · have hf := sn_el c_4 hf
      refine lv_iconst (v := 1) hx hb dX6_howMany_18 rfl ?_
      refine lv_goto (tgt := 23) hx hb dX6_howMany_19 (by decide) ?_
      exact wX6_howMany_23 C  hf kc kx _ _ _ hw (lv_sub hl [0, 1, 2] rfl)
theorem wX6_howMany_L4 (C : sn_C p s m args meth c RX6 cX6_howMany 3 (some .int) D ct ad layC) {σ : sn_S}   {z : Int32 × Int32} {t : Int32} (h : sn_it (LX6_howMany_4 σ) 5000 z = some t) (kx : ∀ v, t = v → sn_At p l e rmX6_howMany s m args below meth c Q D ct ad layC 3 σ 31 [(1, .int v)] []) : sn_At p l e rmX6_howMany s m args below meth c Q D ct ad layC 3 σ 4 [(0, .ref (ad 40)), (1, .int z.1), (2, .int z.2)] [] :=
  sn_loop (f := LX6_howMany_4 σ) (G := fun z => sn_At p l e rmX6_howMany s m args below meth c Q D ct ad layC 3 σ 4 [(0, .ref (ad 40)), (1, .int z.1), (2, .int z.2)] []) (E := fun t => (∀ v, t = v → sn_At p l e rmX6_howMany s m args below meth c Q D ct ad layC 3 σ 31 [(1, .int v)] []) ∧ True) (fun z o hf k1 k2 => wX6_howMany_4 C  hf (fun v e => k1 v e) (fun v e => (k2 _ e).1 v rfl)) 5000 z t h ⟨kx, trivial⟩
theorem wX6_howMany_in (C : sn_C p s m args meth c RX6 cX6_howMany 3 (some .int) D ct ad layC) {σ : sn_S}  {o : Int32} (hf : fX6_howMany σ = some o) (kr : sn_Kr p l e rmX6_howMany s m args below meth c Q D ct ad layC cX6_howMany .ireturn (true) σ [.int o]) : sn_At p l e rmX6_howMany s m args below meth c Q D ct ad layC 3 σ 0 [(0, .ref (ad 40))] [] := by
  intro H locs ls hw hl
  have hx := C.1
  have hb := C.2.1
  unfold fX6_howMany at hf
  refine lv_iconst (v := 0) hx hb dX6_howMany_0 rfl ?_
  refine lv_istore_n (lv' := [(1, .int (0 : Int32)), (0, .ref (ad 40))]) hx hb dX6_howMany_1 rfl hl (by decide) rfl (fun ls hl => ?_)
  refine lv_iconst (v := 0) hx hb dX6_howMany_2 rfl ?_
  refine lv_istore_n (lv' := [(2, .int (0 : Int32)), (1, .int (0 : Int32)), (0, .ref (ad 40))]) hx hb dX6_howMany_3 rfl hl (by decide) rfl (fun ls hl => ?_)
  obtain ⟨t_1, h_2, hf⟩ := sn_bd hf
  exact wX6_howMany_L4 C  h_2 (fun v e => by cases e; exact wX6_howMany_31 C  hf kr) _ _ _ hw (lv_sub hl [2, 1, 0] rfl)
theorem ctX6_howMany (l : Launch) {σ : sn_S}  {o : Int32} (hf : fX6_howMany σ = some o) : sn_M l yX6_howMany cX6_howMany 3 (some .int) rmX6_howMany layC (fun ad => [.ref (ad 40)]) σ (some (fun _ => .int o)) σ :=
  sn_met (by decide) (fun _ => Nat.le_of_ble_eq_true rfl) (fun p e s m args below meth c ls D ct ad C hw hl => wX6_howMany_in C  hf (fun H locs ls pc hw ok hd => sn_iret C hw hd) _ _ _ hw hl)
-- X6_make
abbrev rmX6_make : Room := { frames := 1, cells := 0, slots := 0, locals := 24 }
def fX6_make (σ : sn_S) (x1 : Int32) (x2 : Int32) (x3 : Int32) : Option sn_S :=
  (sn_gd (sn_in x1 4) (sn_lt (sn_pI σ 46 x1.toNatClampNeg x2) fun σ_2 => (sn_gd (sn_in x1 4) (sn_lt (sn_pI σ_2 47 x1.toNatClampNeg x3) fun σ_5 => (sn_gd (sn_in x1 4) ((fJ7_fill_d0a16 σ_5 (sn_at sn_rs41 x1) 60 (0 : Int64)).bind fun t_8 => (some t_8)))))))
theorem wX6_make_in (C : sn_C p s m args meth c RX6 cX6_make 4 none D ct ad layC) {σ : sn_S} {x1 : Int32} {x2 : Int32} {x3 : Int32}  {o : sn_S} (hf : fX6_make σ x1 x2 x3 = some o) (kr : sn_Kr p l e rmX6_make s m args below meth c Q D ct ad layC cX6_make .return_ (true) o []) : sn_At p l e rmX6_make s m args below meth c Q D ct ad layC 4 σ 0 [(0, .ref (ad 40)), (1, .int x1), (2, .int x2), (3, .int x3)] [] := by
  intro H locs ls hw hl
  have hx := C.1
  have hb := C.2.1
  unfold fX6_make at hf
  refine lv_aload_n hx hb dX6_make_0 rfl (lv_at hl 0 rfl) ?_
  refine sn_getC (r := 46) C hw fd_RX6_16 layC_40 rfl dX6_make_1 ?_
  refine lv_iload_n hx hb dX6_make_4 rfl (lv_at hl 1 rfl) ?_
  refine lv_iload_n hx hb dX6_make_5 rfl (lv_at hl 2 rfl) ?_
  obtain ⟨g_1, hf⟩ := sn_gdE hf
  refine sn_iast C hw layC_46 g_1 dX6_make_6 (fun H locs hw => ?_)
  obtain ⟨σ_2, e_3, hf⟩ := sn_ltE hf
  rw [← e_3] at hw
  refine lv_aload_n hx hb dX6_make_7 rfl (lv_at hl 0 rfl) ?_
  refine sn_getC (r := 47) C hw fd_RX6_20 layC_40 rfl dX6_make_8 ?_
  refine lv_iload_n hx hb dX6_make_11 rfl (lv_at hl 1 rfl) ?_
  refine lv_iload_n hx hb dX6_make_12 rfl (lv_at hl 3 rfl) ?_
  obtain ⟨g_4, hf⟩ := sn_gdE hf
  refine sn_iast C hw layC_47 g_4 dX6_make_13 (fun H locs hw => ?_)
  obtain ⟨σ_5, e_6, hf⟩ := sn_ltE hf
  rw [← e_6] at hw
  refine lv_aload_n hx hb dX6_make_14 rfl (lv_at hl 0 rfl) ?_
  refine sn_getC (r := 41) C hw fd_RX6_11 layC_40 rfl dX6_make_15 ?_
  refine lv_iload_n hx hb dX6_make_18 rfl (lv_at hl 1 rfl) ?_
  obtain ⟨g_7, hf⟩ := sn_gdE hf
  refine sn_aldA C hw layC_41 rfl g_7 dX6_make_19 ?_
  refine lv_lconst (v := 0) hx hb dX6_make_20 rfl ?_
  obtain ⟨t_8, h_9, hf⟩ := sn_bd hf
  refine sn_callSv (rest := []) C hw (ctJ7_fill_d0a16 l (sn_rs_row g_7) h_9) kl_RX6_33 rfl rfl rfl (Nat.le_of_ble_eq_true rfl) dX6_make_21 hl.1 (fun H locs hw => ?_)
  cases hf
  exact kr _ _ _ _ hw rfl dX6_make_24
theorem ctX6_make (l : Launch) {σ : sn_S} {x1 : Int32} {x2 : Int32} {x3 : Int32}  {o : sn_S} (hf : fX6_make σ x1 x2 x3 = some o) : sn_M l yX6_make cX6_make 4 none rmX6_make layC (fun ad => [.ref (ad 40), .int x1, .int x2, .int x3]) σ none o :=
  sn_met (by decide) (fun _ => Nat.le_of_ble_eq_true rfl) (fun p e s m args below meth c ls D ct ad C hw hl => wX6_make_in C  hf (fun H locs ls pc hw ok hd => sn_vret C hw hd) _ _ _ hw hl)
-- X6_put
abbrev rmX6_put : Room := { frames := 0, cells := 0, slots := 0, locals := 0 }
def fX6_put (σ : sn_S) (x1 : Int32) (x2 : Int32) (x3 : Int64) : Option sn_S :=
  (sn_gd (sn_in x1 4) (if (sn_I σ 46 x1.toNatClampNeg) = 0 then
  (sn_gd (sn_in x1 4) (sn_gd (sn_in x2 60) (sn_lt (sn_pL σ (sn_at sn_rs41 x1) x2.toNatClampNeg x3.toInt32.toInt8.toInt32.toInt64) fun σ_5 => (some σ_5))))
  else
  (if (sn_I σ 46 x1.toNatClampNeg) = 1 then
  (sn_gd (sn_in x1 4) (sn_gd (sn_in x2 60) (sn_lt (sn_pL σ (sn_at sn_rs41 x1) x2.toNatClampNeg x3.toInt32.toInt16.toInt32.toInt64) fun σ_10 => (some σ_10))))
  else
  (if (sn_I σ 46 x1.toNatClampNeg) = 2 then
  (sn_gd (sn_in x1 4) (sn_gd (sn_in x2 60) (sn_lt (sn_pL σ (sn_at sn_rs41 x1) x2.toNatClampNeg x3.toInt32.toInt64) fun σ_15 => (some σ_15))))
  else
  (sn_gd (sn_in x1 4) (sn_gd (sn_in x2 60) (sn_lt (sn_pL σ (sn_at sn_rs41 x1) x2.toNatClampNeg x3) fun σ_19 => (some σ_19))))))))
theorem wX6_put_in (C : sn_C p s m args meth c RX6 cX6_put 5 none D ct ad layC) {σ : sn_S} {x1 : Int32} {x2 : Int32} {x3 : Int64}  {o : sn_S} (hf : fX6_put σ x1 x2 x3 = some o) (kr : sn_Kr p l e rmX6_put s m args below meth c Q D ct ad layC cX6_put .return_ (true) o []) : sn_At p l e rmX6_put s m args below meth c Q D ct ad layC 5 σ 0 [(0, .ref (ad 40)), (1, .int x1), (2, .int x2), (3, .long x3)] [] := by
  intro H locs ls hw hl
  have hx := C.1
  have hb := C.2.1
  unfold fX6_put at hf
  refine lv_aload_n hx hb dX6_put_0 rfl (lv_at hl 0 rfl) ?_
  refine sn_getC (r := 46) C hw fd_RX6_16 layC_40 rfl dX6_put_1 ?_
  refine lv_iload_n hx hb dX6_put_4 rfl (lv_at hl 1 rfl) ?_
  obtain ⟨g_1, hf⟩ := sn_gdE hf
  refine sn_iald C hw layC_46 g_1 dX6_put_5 ?_
  by_cases c_2 : (sn_I σ 46 x1.toNatClampNeg) = 0
  · have hf := sn_if c_2 hf
    refine lv_tableIn (tgt := 32) (off := 26) hx hb dX6_put_6 (by rw [c_2]; decide) (by rw [c_2]; decide) (by rw [c_2]; rfl) (by decide) ?_
    refine lv_aload_n hx hb dX6_put_32 rfl (lv_at hl 0 rfl) ?_
    refine sn_getC (r := 41) C hw fd_RX6_11 layC_40 rfl dX6_put_33 ?_
    refine lv_iload_n hx hb dX6_put_36 rfl (lv_at hl 1 rfl) ?_
    obtain ⟨g_3, hf⟩ := sn_gdE hf
    refine sn_aldA C hw layC_41 rfl g_3 dX6_put_37 ?_
    refine lv_iload_n hx hb dX6_put_38 rfl (lv_at hl 2 rfl) ?_
    refine lv_lload_n hx hb dX6_put_39 rfl (lv_at hl 3 rfl) ?_
    refine lv_l2i hx hb dX6_put_40 rfl ?_
    refine lv_i2b hx hb dX6_put_41 rfl ?_
    refine lv_i2l hx hb dX6_put_42 rfl ?_
    obtain ⟨g_4, hf⟩ := sn_gdE hf
    refine sn_last C hw (sn_rs_row g_3) g_4 dX6_put_43 (fun H locs hw => ?_)
    obtain ⟨σ_5, e_6, hf⟩ := sn_ltE hf
    rw [← e_6] at hw
    refine lv_goto (tgt := 85) hx hb dX6_put_44 (by decide) ?_
    cases hf
    exact kr _ _ _ _ hw rfl dX6_put_85
  have hf := sn_el c_2 hf
  by_cases c_7 : (sn_I σ 46 x1.toNatClampNeg) = 1
  · have hf := sn_if c_7 hf
    refine lv_tableIn (tgt := 47) (off := 41) hx hb dX6_put_6 (by rw [c_7]; decide) (by rw [c_7]; decide) (by rw [c_7]; rfl) (by decide) ?_
    refine lv_aload_n hx hb dX6_put_47 rfl (lv_at hl 0 rfl) ?_
    refine sn_getC (r := 41) C hw fd_RX6_11 layC_40 rfl dX6_put_48 ?_
    refine lv_iload_n hx hb dX6_put_51 rfl (lv_at hl 1 rfl) ?_
    obtain ⟨g_8, hf⟩ := sn_gdE hf
    refine sn_aldA C hw layC_41 rfl g_8 dX6_put_52 ?_
    refine lv_iload_n hx hb dX6_put_53 rfl (lv_at hl 2 rfl) ?_
    refine lv_lload_n hx hb dX6_put_54 rfl (lv_at hl 3 rfl) ?_
    refine lv_l2i hx hb dX6_put_55 rfl ?_
    refine lv_i2s hx hb dX6_put_56 rfl ?_
    refine lv_i2l hx hb dX6_put_57 rfl ?_
    obtain ⟨g_9, hf⟩ := sn_gdE hf
    refine sn_last C hw (sn_rs_row g_8) g_9 dX6_put_58 (fun H locs hw => ?_)
    obtain ⟨σ_10, e_11, hf⟩ := sn_ltE hf
    rw [← e_11] at hw
    refine lv_goto (tgt := 85) hx hb dX6_put_59 (by decide) ?_
    cases hf
    exact kr _ _ _ _ hw rfl dX6_put_85
  have hf := sn_el c_7 hf
  by_cases c_12 : (sn_I σ 46 x1.toNatClampNeg) = 2
  · have hf := sn_if c_12 hf
    refine lv_tableIn (tgt := 62) (off := 56) hx hb dX6_put_6 (by rw [c_12]; decide) (by rw [c_12]; decide) (by rw [c_12]; rfl) (by decide) ?_
    refine lv_aload_n hx hb dX6_put_62 rfl (lv_at hl 0 rfl) ?_
    refine sn_getC (r := 41) C hw fd_RX6_11 layC_40 rfl dX6_put_63 ?_
    refine lv_iload_n hx hb dX6_put_66 rfl (lv_at hl 1 rfl) ?_
    obtain ⟨g_13, hf⟩ := sn_gdE hf
    refine sn_aldA C hw layC_41 rfl g_13 dX6_put_67 ?_
    refine lv_iload_n hx hb dX6_put_68 rfl (lv_at hl 2 rfl) ?_
    refine lv_lload_n hx hb dX6_put_69 rfl (lv_at hl 3 rfl) ?_
    refine lv_l2i hx hb dX6_put_70 rfl ?_
    refine lv_i2l hx hb dX6_put_71 rfl ?_
    obtain ⟨g_14, hf⟩ := sn_gdE hf
    refine sn_last C hw (sn_rs_row g_13) g_14 dX6_put_72 (fun H locs hw => ?_)
    obtain ⟨σ_15, e_16, hf⟩ := sn_ltE hf
    rw [← e_16] at hw
    refine lv_goto (tgt := 85) hx hb dX6_put_73 (by decide) ?_
    cases hf
    exact kr _ _ _ _ hw rfl dX6_put_85
  have hf := sn_el c_12 hf
  refine lv_tableOut (tgt := 76) hx hb dX6_put_6 (sn_swout3 c_2 c_7 c_12) (by decide) ?_
  refine lv_aload_n hx hb dX6_put_76 rfl (lv_at hl 0 rfl) ?_
  refine sn_getC (r := 41) C hw fd_RX6_11 layC_40 rfl dX6_put_77 ?_
  refine lv_iload_n hx hb dX6_put_80 rfl (lv_at hl 1 rfl) ?_
  obtain ⟨g_17, hf⟩ := sn_gdE hf
  refine sn_aldA C hw layC_41 rfl g_17 dX6_put_81 ?_
  refine lv_iload_n hx hb dX6_put_82 rfl (lv_at hl 2 rfl) ?_
  refine lv_lload_n hx hb dX6_put_83 rfl (lv_at hl 3 rfl) ?_
  obtain ⟨g_18, hf⟩ := sn_gdE hf
  refine sn_last C hw (sn_rs_row g_17) g_18 dX6_put_84 (fun H locs hw => ?_)
  obtain ⟨σ_19, e_20, hf⟩ := sn_ltE hf
  rw [← e_20] at hw
  cases hf
  exact kr _ _ _ _ hw rfl dX6_put_85
theorem ctX6_put (l : Launch) {σ : sn_S} {x1 : Int32} {x2 : Int32} {x3 : Int64}  {o : sn_S} (hf : fX6_put σ x1 x2 x3 = some o) : sn_M l yX6_put cX6_put 5 none rmX6_put layC (fun ad => [.ref (ad 40), .int x1, .int x2, .long x3]) σ none o :=
  sn_met (by decide) (fun _ => Nat.le_of_ble_eq_true rfl) (fun p e s m args below meth c ls D ct ad C hw hl => wX6_put_in C  hf (fun H locs ls pc hw ok hd => sn_vret C hw hd) _ _ _ hw hl)
-- X6_spans
abbrev rmX6_spans : Room := { frames := 0, cells := 0, slots := 0, locals := 0 }
def fX6_spans (σ : sn_S) (x1 : Int32) (x2 : Int32) (x3 : Int32) : Option Int32 :=
  (if x2 < 0 then
  (sn_gd (sn_b01 (0 : Int32)) (some (0 : Int32)))
  else
  (if x3 < 0 then
  (sn_gd (sn_b01 (0 : Int32)) (some (0 : Int32)))
  else
  (sn_gd (sn_in x1 4) (if (sn_I σ 47 x1.toNatClampNeg) < x2 then
  (sn_gd (sn_b01 (0 : Int32)) (some (0 : Int32)))
  else
  (sn_gd (sn_in x1 4) (if ((sn_I σ 47 x1.toNatClampNeg) - x2) < x3 then
  (sn_gd (sn_b01 (0 : Int32)) (some (0 : Int32)))
  else
  (sn_gd (sn_b01 (1 : Int32)) (some (1 : Int32)))))))))
theorem wX6_spans_in (C : sn_C p s m args meth c RX6 cX6_spans 4 (some .boolean) D ct ad layC) {σ : sn_S} {x1 : Int32} {x2 : Int32} {x3 : Int32}  {o : Int32} (hf : fX6_spans σ x1 x2 x3 = some o) (kr : sn_Kr p l e rmX6_spans s m args below meth c Q D ct ad layC cX6_spans .ireturn (sn_b01 o) σ [.int o]) : sn_At p l e rmX6_spans s m args below meth c Q D ct ad layC 4 σ 0 [(0, .ref (ad 40)), (1, .int x1), (2, .int x2), (3, .int x3)] [] := by
  intro H locs ls hw hl
  have hx := C.1
  have hb := C.2.1
  unfold fX6_spans at hf
  refine lv_iload_n hx hb dX6_spans_0 rfl (lv_at hl 2 rfl) ?_
  refine lv_if_lt (tgt := 34) hx hb dX6_spans_1 (by decide) (fun c_1 => ?_) (fun c_1 => ?_)
  · have hf := sn_if c_1 hf
    refine lv_iconst (v := 0) hx hb dX6_spans_34 rfl ?_
    obtain ⟨g_2, hf⟩ := sn_gdE hf
    cases hf
    exact kr _ _ _ _ hw g_2 dX6_spans_35
  · have hf := sn_el c_1 hf
    refine lv_iload_n hx hb dX6_spans_4 rfl (lv_at hl 3 rfl) ?_
    refine lv_if_lt (tgt := 34) hx hb dX6_spans_5 (by decide) (fun c_3 => ?_) (fun c_3 => ?_)
    · have hf := sn_if c_3 hf
      refine lv_iconst (v := 0) hx hb dX6_spans_34 rfl ?_
      obtain ⟨g_4, hf⟩ := sn_gdE hf
      cases hf
      exact kr _ _ _ _ hw g_4 dX6_spans_35
    · have hf := sn_el c_3 hf
      refine lv_iload_n hx hb dX6_spans_8 rfl (lv_at hl 2 rfl) ?_
      refine lv_aload_n hx hb dX6_spans_9 rfl (lv_at hl 0 rfl) ?_
      refine sn_getC (r := 47) C hw fd_RX6_20 layC_40 rfl dX6_spans_10 ?_
      refine lv_iload_n hx hb dX6_spans_13 rfl (lv_at hl 1 rfl) ?_
      obtain ⟨g_5, hf⟩ := sn_gdE hf
      refine sn_iald C hw layC_47 g_5 dX6_spans_14 ?_
      refine lv_icmp_gt (tgt := 34) hx hb dX6_spans_15 (by decide) (fun c_6 => ?_) (fun c_6 => ?_)
      · have hf := sn_if c_6 hf
        refine lv_iconst (v := 0) hx hb dX6_spans_34 rfl ?_
        obtain ⟨g_7, hf⟩ := sn_gdE hf
        cases hf
        exact kr _ _ _ _ hw g_7 dX6_spans_35
      · have hf := sn_el c_6 hf
        refine lv_iload_n hx hb dX6_spans_18 rfl (lv_at hl 3 rfl) ?_
        refine lv_aload_n hx hb dX6_spans_19 rfl (lv_at hl 0 rfl) ?_
        refine sn_getC (r := 47) C hw fd_RX6_20 layC_40 rfl dX6_spans_20 ?_
        refine lv_iload_n hx hb dX6_spans_23 rfl (lv_at hl 1 rfl) ?_
        obtain ⟨g_8, hf⟩ := sn_gdE hf
        refine sn_iald C hw layC_47 g_8 dX6_spans_24 ?_
        refine lv_iload_n hx hb dX6_spans_25 rfl (lv_at hl 2 rfl) ?_
        refine lv_isub hx hb dX6_spans_26 ?_
        refine lv_icmp_gt (tgt := 34) hx hb dX6_spans_27 (by decide) (fun c_9 => ?_) (fun c_9 => ?_)
        · have hf := sn_if c_9 hf
          refine lv_iconst (v := 0) hx hb dX6_spans_34 rfl ?_
          obtain ⟨g_10, hf⟩ := sn_gdE hf
          cases hf
          exact kr _ _ _ _ hw g_10 dX6_spans_35
        · have hf := sn_el c_9 hf
          refine lv_iconst (v := 1) hx hb dX6_spans_30 rfl ?_
          refine lv_goto (tgt := 35) hx hb dX6_spans_31 (by decide) ?_
          obtain ⟨g_11, hf⟩ := sn_gdE hf
          cases hf
          exact kr _ _ _ _ hw g_11 dX6_spans_35
theorem ctX6_spans (l : Launch) {σ : sn_S} {x1 : Int32} {x2 : Int32} {x3 : Int32}  {o : Int32} (hf : fX6_spans σ x1 x2 x3 = some o) : sn_M l yX6_spans cX6_spans 4 (some .boolean) rmX6_spans layC (fun ad => [.ref (ad 40), .int x1, .int x2, .int x3]) σ (some (fun _ => .int o)) σ :=
  sn_met (by decide) (fun _ => Nat.le_of_ble_eq_true rfl) (fun p e s m args below meth c ls D ct ad C hw hl => wX6_spans_in C  hf (fun H locs ls pc hw ok hd => sn_zret C hw ok hd) _ _ _ hw hl)
-- X7_forget
abbrev rmX7_forget : Room := { frames := 1, cells := 0, slots := 0, locals := 23 }
def fX7_forget (σ : sn_S) : Option sn_S :=
  ((fJ7_fill_53178 σ 76 6 (0 : Int32)).bind fun t_1 => ((fJ7_fill_53178 t_1 77 186 (0 : Int32)).bind fun t_3 => (sn_lt (sn_pI t_3 75 1 (0 : Int32)) fun σ_5 => (sn_lt (sn_pI σ_5 75 2 (0 : Int32)) fun σ_7 => (sn_lt (sn_pI σ_7 75 3 (-1 : Int32)) fun σ_9 => (some σ_9))))))
theorem wX7_forget_in (C : sn_C p s m args meth c RX7 cX7_forget 1 none D ct ad layC) {σ : sn_S}  {o : sn_S} (hf : fX7_forget σ = some o) (kr : sn_Kr p l e rmX7_forget s m args below meth c Q D ct ad layC cX7_forget .return_ (true) o []) : sn_At p l e rmX7_forget s m args below meth c Q D ct ad layC 1 σ 0 [(0, .ref (ad 75))] [] := by
  intro H locs ls hw hl
  have hx := C.1
  have hb := C.2.1
  unfold fX7_forget at hf
  refine lv_aload_n hx hb dX7_forget_0 rfl (lv_at hl 0 rfl) ?_
  refine sn_getC (r := 76) C hw fd_RX7_9 layC_75 rfl dX7_forget_1 ?_
  refine lv_iconst (v := 0) hx hb dX7_forget_4 rfl ?_
  obtain ⟨t_1, h_2, hf⟩ := sn_bd hf
  refine sn_callSv (rest := []) C hw (ctJ7_fill_53178 l layC_76 h_2) kl_RX7_18 rfl rfl rfl (Nat.le_of_ble_eq_true rfl) dX7_forget_5 hl.1 (fun H locs hw => ?_)
  refine lv_aload_n hx hb dX7_forget_8 rfl (lv_at hl 0 rfl) ?_
  refine sn_getC (r := 77) C hw fd_RX7_15 layC_75 rfl dX7_forget_9 ?_
  refine lv_iconst (v := 0) hx hb dX7_forget_12 rfl ?_
  obtain ⟨t_3, h_4, hf⟩ := sn_bd hf
  refine sn_callSv (rest := []) C hw (ctJ7_fill_53178 l layC_77 h_4) kl_RX7_18 rfl rfl rfl (Nat.le_of_ble_eq_true rfl) dX7_forget_13 hl.1 (fun H locs hw => ?_)
  refine lv_aload_n hx hb dX7_forget_16 rfl (lv_at hl 0 rfl) ?_
  refine lv_iconst (v := 0) hx hb dX7_forget_17 rfl ?_
  refine sn_putI C hw fp_RX7_24 layC_75 rfl dX7_forget_18 (fun H locs hw => ?_)
  obtain ⟨σ_5, e_6, hf⟩ := sn_ltE hf
  rw [← e_6] at hw
  refine lv_aload_n hx hb dX7_forget_21 rfl (lv_at hl 0 rfl) ?_
  refine lv_iconst (v := 0) hx hb dX7_forget_22 rfl ?_
  refine sn_putI C hw fp_RX7_28 layC_75 rfl dX7_forget_23 (fun H locs hw => ?_)
  obtain ⟨σ_7, e_8, hf⟩ := sn_ltE hf
  rw [← e_8] at hw
  refine lv_aload_n hx hb dX7_forget_26 rfl (lv_at hl 0 rfl) ?_
  refine lv_iconst (v := (-1)) hx hb dX7_forget_27 rfl ?_
  refine sn_putI C hw fp_RX7_31 layC_75 rfl dX7_forget_28 (fun H locs hw => ?_)
  obtain ⟨σ_9, e_10, hf⟩ := sn_ltE hf
  rw [← e_10] at hw
  cases hf
  exact kr _ _ _ _ hw rfl dX7_forget_31
theorem ctX7_forget (l : Launch) {σ : sn_S}  {o : sn_S} (hf : fX7_forget σ = some o) : sn_M l yX7_forget cX7_forget 1 none rmX7_forget layC (fun ad => [.ref (ad 75)]) σ none o :=
  sn_met (by decide) (fun _ => Nat.le_of_ble_eq_true rfl) (fun p e s m args below meth c ls D ct ad C hw hl => wX7_forget_in C  hf (fun H locs ls pc hw ok hd => sn_vret C hw hd) _ _ _ hw hl)
-- X7_meets
abbrev rmX7_meets : Room := { frames := 0, cells := 0, slots := 0, locals := 0 }
def BX7_meets_38 (σ : sn_S) (q1 : Nat) : Option (Int32) :=
  (sn_gd (sn_b01 (1 : Int32)) (some (1 : Int32)))
def BX7_meets_2 (σ : sn_S) (q1 : Nat) (x2 : Int32) (x3 : Int32) : Option ((Int32) ⊕ ((Unit) ⊕ Int32)) :=
  (if (sn_I σ q1 1) ≤ x3 then
  (some (.inr (.inl ())))
  else
  (sn_gd (sn_in x3 6) (sn_gd (sn_in x3 6) (if (((sn_I σ 76 x3.toNatClampNeg) &&& x2) &&& ((sn_I σ (q1 + 10) x3.toNatClampNeg) ^^^ (-1 : Int32))) = 0 then
  (sn_lt (x3 + 1) fun y_5 => (some (.inl (y_5))))
  else
  (sn_gd (sn_b01 (0 : Int32)) (some (.inr (.inr (0 : Int32)))))))))
def LX7_meets_2 (σ : sn_S) (q1 : Nat) (x2 : Int32) (s : Int32) : Option ((Int32) ⊕ ((Unit) ⊕ Int32)) := BX7_meets_2 σ q1 x2 s
def fX7_meets (σ : sn_S) (q1 : Nat) (x2 : Int32) : Option Int32 :=
  ((sn_it (LX7_meets_2 σ q1 x2) 5000 ((0 : Int32))).bind fun t_1 => Sum.elim (fun v_3 => (BX7_meets_38 σ q1)) (fun r_4 => (some r_4)) t_1)
theorem wX7_meets_38 (C : sn_C p s m args meth c RX7 cX7_meets 4 (some .boolean) D ct ad layC) {σ : sn_S} {q1 : Nat} (h1 : sn_isX0 q1) {o : Int32} (hf : BX7_meets_38 σ q1 = some o) (kr : sn_Kr p l e rmX7_meets s m args below meth c Q D ct ad layC cX7_meets .ireturn (sn_b01 o) σ [.int o]) : sn_At p l e rmX7_meets s m args below meth c Q D ct ad layC 4 σ 38 [] [] := by
  intro H locs ls hw hl
  have hx := C.1
  have hb := C.2.1
  unfold BX7_meets_38 at hf
  refine lv_iconst (v := 1) hx hb dX7_meets_38 rfl ?_
  obtain ⟨g_1, hf⟩ := sn_gdE hf
  cases hf
  exact kr _ _ _ _ hw g_1 dX7_meets_39
theorem wX7_meets_2 (C : sn_C p s m args meth c RX7 cX7_meets 4 (some .boolean) D ct ad layC) {σ : sn_S} {q1 : Nat} {x2 : Int32} {x3 : Int32} (h1 : sn_isX0 q1) {o : (Int32) ⊕ ((Unit) ⊕ Int32)} (hf : BX7_meets_2 σ q1 x2 x3 = some o) (kc : ∀ v, o = .inl v → sn_At p l e rmX7_meets s m args below meth c Q D ct ad layC 4 σ 2 [(0, .ref (ad 75)), (1, .ref (ad q1)), (2, .int x2), (3, .int v)] []) (kx : ∀ v, o = .inr (.inl v) → sn_At p l e rmX7_meets s m args below meth c Q D ct ad layC 4 σ 38 [] []) (kr : ∀ r, o = .inr (.inr r) → sn_Kr p l e rmX7_meets s m args below meth c Q D ct ad layC cX7_meets .ireturn (sn_b01 r) σ [.int r]) : sn_At p l e rmX7_meets s m args below meth c Q D ct ad layC 4 σ 2 [(0, .ref (ad 75)), (1, .ref (ad q1)), (2, .int x2), (3, .int x3)] [] := by
  intro H locs ls hw hl
  have hx := C.1
  have hb := C.2.1
  unfold BX7_meets_2 at hf
  refine lv_iload_n hx hb dX7_meets_2 rfl (lv_at hl 3 rfl) ?_
  refine lv_aload_n hx hb dX7_meets_3 rfl (lv_at hl 1 rfl) ?_
  refine sn_getI C hw fd_RX7_60 (sn_look h1 (k := 0) rfl) rfl dX7_meets_4 ?_
  refine lv_icmp_ge (tgt := 38) hx hb dX7_meets_7 (by decide) (fun c_1 => ?_) (fun c_1 => ?_)
  · have hf := sn_if c_1 hf
    cases hf
    exact kx _ rfl _ _ _ hw (lv_sub hl [] rfl)
  · have hf := sn_el c_1 hf
    refine lv_aload_n hx hb dX7_meets_10 rfl (lv_at hl 0 rfl) ?_
    refine sn_getC (r := 76) C hw fd_RX7_9 layC_75 rfl dX7_meets_11 ?_
    refine lv_iload_n hx hb dX7_meets_14 rfl (lv_at hl 3 rfl) ?_
    obtain ⟨g_2, hf⟩ := sn_gdE hf
    refine sn_iald C hw layC_76 g_2 dX7_meets_15 ?_
    refine lv_iload_n hx hb dX7_meets_16 rfl (lv_at hl 2 rfl) ?_
    refine lv_iand hx hb dX7_meets_17 ?_
    refine lv_aload_n hx hb dX7_meets_18 rfl (lv_at hl 1 rfl) ?_
    refine sn_getC (r := (q1 + 10)) C hw fd_RX7_63 (sn_look h1 (k := 0) rfl) rfl dX7_meets_19 ?_
    refine lv_iload_n hx hb dX7_meets_22 rfl (lv_at hl 3 rfl) ?_
    obtain ⟨g_3, hf⟩ := sn_gdE hf
    refine sn_iald C hw (sn_look h1 (k := 10) rfl) g_3 dX7_meets_23 ?_
    refine lv_iconst (v := (-1)) hx hb dX7_meets_24 rfl ?_
    refine lv_ixor hx hb dX7_meets_25 ?_
    refine lv_iand hx hb dX7_meets_26 ?_
    refine lv_if_eq (tgt := 32) hx hb dX7_meets_27 (by decide) (fun c_4 => ?_) (fun c_4 => ?_)
    · have hf := sn_if c_4 hf
      obtain ⟨y_5, e_6, hf⟩ := sn_ltE hf
      refine lv_iinc (v := y_5) (lv' := [(3, .int y_5), (0, .ref (ad 75)), (1, .ref (ad q1)), (2, .int x2)]) hx hb dX7_meets_32 hl (k := 3) rfl (by rw [e_6]; rfl) (by decide) rfl (fun ls hl => ?_)
      refine lv_goto (tgt := 2) hx hb dX7_meets_35 (by decide) ?_
      cases hf
      exact kc _ rfl _ _ _ hw (lv_sub hl [1, 2, 3, 0] rfl)
    · have hf := sn_el c_4 hf
      refine lv_iconst (v := 0) hx hb dX7_meets_30 rfl ?_
      obtain ⟨g_7, hf⟩ := sn_gdE hf
      cases hf
      exact kr _ rfl _ _ _ _ hw g_7 dX7_meets_31
theorem wX7_meets_L2 (C : sn_C p s m args meth c RX7 cX7_meets 4 (some .boolean) D ct ad layC) {σ : sn_S} {q1 : Nat} {x2 : Int32}  (h1 : sn_isX0 q1) {z : Int32} {t : (Unit) ⊕ Int32} (h : sn_it (LX7_meets_2 σ q1 x2) 5000 z = some t) (kx : ∀ v, t = .inl v → sn_At p l e rmX7_meets s m args below meth c Q D ct ad layC 4 σ 38 [] []) (kr : ∀ r, t = .inr r → sn_Kr p l e rmX7_meets s m args below meth c Q D ct ad layC cX7_meets .ireturn (sn_b01 r) σ [.int r]) : sn_At p l e rmX7_meets s m args below meth c Q D ct ad layC 4 σ 2 [(0, .ref (ad 75)), (1, .ref (ad q1)), (2, .int x2), (3, .int z)] [] :=
  sn_loop (f := LX7_meets_2 σ q1 x2) (G := fun z => sn_At p l e rmX7_meets s m args below meth c Q D ct ad layC 4 σ 2 [(0, .ref (ad 75)), (1, .ref (ad q1)), (2, .int x2), (3, .int z)] []) (E := fun t => (∀ v, t = .inl v → sn_At p l e rmX7_meets s m args below meth c Q D ct ad layC 4 σ 38 [] []) ∧ (∀ r, t = .inr r → sn_Kr p l e rmX7_meets s m args below meth c Q D ct ad layC cX7_meets .ireturn (sn_b01 r) σ [.int r])) (fun z o hf k1 k2 => wX7_meets_2 C h1 hf (fun v e => k1 v e) (fun v e => (k2 _ e).1 v rfl) (fun r e => (k2 _ e).2 r rfl)) 5000 z t h ⟨kx, kr⟩
theorem wX7_meets_in (C : sn_C p s m args meth c RX7 cX7_meets 4 (some .boolean) D ct ad layC) {σ : sn_S} {q1 : Nat} {x2 : Int32} (h1 : sn_isX0 q1) {o : Int32} (hf : fX7_meets σ q1 x2 = some o) (kr : sn_Kr p l e rmX7_meets s m args below meth c Q D ct ad layC cX7_meets .ireturn (sn_b01 o) σ [.int o]) : sn_At p l e rmX7_meets s m args below meth c Q D ct ad layC 4 σ 0 [(0, .ref (ad 75)), (1, .ref (ad q1)), (2, .int x2)] [] := by
  intro H locs ls hw hl
  have hx := C.1
  have hb := C.2.1
  unfold fX7_meets at hf
  refine lv_iconst (v := 0) hx hb dX7_meets_0 rfl ?_
  refine lv_istore_n (lv' := [(3, .int (0 : Int32)), (0, .ref (ad 75)), (1, .ref (ad q1)), (2, .int x2)]) hx hb dX7_meets_1 rfl hl (by decide) rfl (fun ls hl => ?_)
  obtain ⟨t_1, h_2, hf⟩ := sn_bd hf
  rcases t_1 with v_3 | r_4
  · rw [Sum.elim_inl] at hf
    exact wX7_meets_L2 C h1 h_2 (fun v e => by cases e; exact wX7_meets_38 C h1 hf kr) (fun r e => by cases e) _ _ _ hw (lv_sub hl [1, 2, 3, 0] rfl)
  · rw [Sum.elim_inr] at hf
    cases hf
    exact wX7_meets_L2 C h1 h_2 (fun v e => by cases e) (fun r e => by cases e; exact kr) _ _ _ hw (lv_sub hl [1, 2, 3, 0] rfl)
theorem ctX7_meets (l : Launch) {σ : sn_S} {q1 : Nat} {x2 : Int32} (h1 : sn_isX0 q1) {o : Int32} (hf : fX7_meets σ q1 x2 = some o) : sn_M l yX7_meets cX7_meets 4 (some .boolean) rmX7_meets layC (fun ad => [.ref (ad 75), .ref (ad q1), .int x2]) σ (some (fun _ => .int o)) σ :=
  sn_met (by decide) (fun _ => Nat.le_of_ble_eq_true rfl) (fun p e s m args below meth c ls D ct ad C hw hl => wX7_meets_in C h1 hf (fun H locs ls pc hw ok hd => sn_zret C hw ok hd) _ _ _ hw hl)
end
