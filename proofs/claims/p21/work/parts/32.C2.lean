section
variable {p : Program} {l : Launch} {e : Env} {s : State} {m : MethodId} {args : Array Value} {below : List Frame} {meth : Method} {c : Code} {Q : State → Prop} {D : va_G} {ct : Nat → ClassId} {ad : Nat → Nat} {A : Nat → Prop} {lay : List sn_E}
-- X3_moneyAt
abbrev rmX3_moneyAt : Room := { frames := 0, cells := 0, slots := 0, locals := 0 }
def BX3_moneyAt_50 (σ : sn_S) (q0 : Nat) (x2 : Int32) : Option (Int32) :=
  (some x2)
def BX3_moneyAt_44 (σ : sn_S) (q0 : Nat) (x1 : Int32) (x2 : Int32) (x3 : Int32) : Option ((Int32 × Int32) ⊕ (Int32)) :=
  (sn_lt (x3 + 1) fun y_1 => (some (.inl (x2, y_1))))
def BX3_moneyAt_7 (σ : sn_S) (q0 : Nat) (x1 : Int32) (x2 : Int32) (x3 : Int32) : Option ((Int32 × Int32) ⊕ (Int32)) :=
  (if (sn_I σ q0 2) ≤ x3 then
  (some (.inr (x2)))
  else
  (sn_gd (sn_in x3 6) (if (sn_I σ (q0 + 2) x3.toNatClampNeg) = (-1 : Int32) then
  (BX3_moneyAt_44 σ q0 x1 x2 x3)
  else
  (sn_gd (sn_in x3 6) (if x1 < (sn_I σ (q0 + 2) x3.toNatClampNeg) then
  (BX3_moneyAt_44 σ q0 x1 x2 x3)
  else
  (sn_gd (sn_in x3 6) (sn_lt (x2 - (sn_I σ (q0 + 1) x3.toNatClampNeg)) fun y_7 => (BX3_moneyAt_44 σ q0 x1 y_7 x3))))))))
def LX3_moneyAt_7 (σ : sn_S) (q0 : Nat) (x1 : Int32) (s : Int32 × Int32) : Option ((Int32 × Int32) ⊕ (Int32)) := BX3_moneyAt_7 σ q0 x1 s.1 s.2
def fX3_moneyAt (σ : sn_S) (q0 : Nat) (x1 : Int32) : Option Int32 :=
  (sn_lt (sn_I σ q0 3) fun y_1 => ((sn_it (LX3_moneyAt_7 σ q0 x1) 5000 (y_1, (0 : Int32))).bind fun t_3 => (BX3_moneyAt_50 σ q0 t_3)))
theorem wX3_moneyAt_50 (C : sn_C p s m args meth c RX3 cX3_moneyAt 4 (some .int) D ct ad layC A) {σ : sn_S} {q0 : Nat} {x2 : Int32} (h0 : sn_isX3 q0) {o : Int32} (hf : BX3_moneyAt_50 σ q0 x2 = some o) (kr : sn_Kr p l e rmX3_moneyAt s m args below meth c Q D ct ad layC A cX3_moneyAt .ireturn (true) σ [.int o]) : sn_At p l e rmX3_moneyAt s m args below meth c Q D ct ad layC A 4 σ 50 [(2, .int x2)] [] := by
  intro H locs ls hw hl
  have hx := C.1
  have hb := C.2.1
  unfold BX3_moneyAt_50 at hf
  refine lv_iload_n hx hb dX3_moneyAt_50 rfl (lv_at hl 0 rfl) ?_
  cases hf
  exact kr _ _ _ _ hw rfl dX3_moneyAt_51
theorem wX3_moneyAt_44 (C : sn_C p s m args meth c RX3 cX3_moneyAt 4 (some .int) D ct ad layC A) {σ : sn_S} {q0 : Nat} {x1 : Int32} {x2 : Int32} {x3 : Int32} (h0 : sn_isX3 q0) {o : (Int32 × Int32) ⊕ (Int32)} (hf : BX3_moneyAt_44 σ q0 x1 x2 x3 = some o) (kc : ∀ v, o = .inl v → sn_At p l e rmX3_moneyAt s m args below meth c Q D ct ad layC A 4 σ 7 [(0, .ref (ad q0)), (1, .int x1), (2, .int v.1), (3, .int v.2)] []) (kx : ∀ v, o = .inr v → sn_At p l e rmX3_moneyAt s m args below meth c Q D ct ad layC A 4 σ 50 [(2, .int v)] []) : sn_At p l e rmX3_moneyAt s m args below meth c Q D ct ad layC A 4 σ 44 [(0, .ref (ad q0)), (1, .int x1), (2, .int x2), (3, .int x3)] [] := by
  intro H locs ls hw hl
  have hx := C.1
  have hb := C.2.1
  unfold BX3_moneyAt_44 at hf
  obtain ⟨y_1, e_2, hf⟩ := sn_ltE hf
  refine lv_iinc (v := y_1) (lv' := [(3, .int y_1), (0, .ref (ad q0)), (1, .int x1), (2, .int x2)]) hx hb dX3_moneyAt_44 hl (k := 3) rfl (by rw [e_2]; rfl) (by decide) rfl (fun ls hl => ?_)
  refine lv_goto (tgt := 7) hx hb dX3_moneyAt_47 (by decide) ?_
  cases hf
  exact kc _ rfl _ _ _ hw (lv_sub hl [1, 2, 3, 0] rfl)
theorem wX3_moneyAt_7 (C : sn_C p s m args meth c RX3 cX3_moneyAt 4 (some .int) D ct ad layC A) {σ : sn_S} {q0 : Nat} {x1 : Int32} {x2 : Int32} {x3 : Int32} (h0 : sn_isX3 q0) {o : (Int32 × Int32) ⊕ (Int32)} (hf : BX3_moneyAt_7 σ q0 x1 x2 x3 = some o) (kc : ∀ v, o = .inl v → sn_At p l e rmX3_moneyAt s m args below meth c Q D ct ad layC A 4 σ 7 [(0, .ref (ad q0)), (1, .int x1), (2, .int v.1), (3, .int v.2)] []) (kx : ∀ v, o = .inr v → sn_At p l e rmX3_moneyAt s m args below meth c Q D ct ad layC A 4 σ 50 [(2, .int v)] []) : sn_At p l e rmX3_moneyAt s m args below meth c Q D ct ad layC A 4 σ 7 [(0, .ref (ad q0)), (1, .int x1), (2, .int x2), (3, .int x3)] [] := by
  intro H locs ls hw hl
  have hx := C.1
  have hb := C.2.1
  unfold BX3_moneyAt_7 at hf
  refine lv_iload_n hx hb dX3_moneyAt_7 rfl (lv_at hl 3 rfl) ?_
  refine lv_aload_n hx hb dX3_moneyAt_8 rfl (lv_at hl 0 rfl) ?_
  refine sn_getI C hw fd_RX3_23 (sn_look h0 (k := 0) rfl) rfl dX3_moneyAt_9 ?_
  refine lv_icmp_ge (tgt := 50) hx hb dX3_moneyAt_12 (by decide) (fun c_1 => ?_) (fun c_1 => ?_)
  · have hf := sn_if c_1 hf
    cases hf
    exact kx _ rfl _ _ _ hw (lv_sub hl [2] rfl)
  · have hf := sn_el c_1 hf
    refine lv_aload_n hx hb dX3_moneyAt_15 rfl (lv_at hl 0 rfl) ?_
    refine sn_getC (r := (q0 + 2)) C hw fd_RX3_15 (sn_look h0 (k := 0) rfl) rfl dX3_moneyAt_16 ?_
    refine lv_iload_n hx hb dX3_moneyAt_19 rfl (lv_at hl 3 rfl) ?_
    obtain ⟨g_2, hf⟩ := sn_gdE hf
    refine sn_iald C hw (sn_look h0 (k := 2) rfl) g_2 dX3_moneyAt_20 ?_
    refine lv_iconst (v := (-1)) hx hb dX3_moneyAt_21 rfl ?_
    refine lv_icmp_eq (tgt := 44) hx hb dX3_moneyAt_22 (by decide) (fun c_3 => ?_) (fun c_3 => ?_)
    · have hf := sn_if c_3 hf
      exact wX3_moneyAt_44 C h0 hf kc kx _ _ _ hw (lv_sub hl [0, 1, 2, 3] rfl)
    · have hf := sn_el c_3 hf
      refine lv_aload_n hx hb dX3_moneyAt_25 rfl (lv_at hl 0 rfl) ?_
      refine sn_getC (r := (q0 + 2)) C hw fd_RX3_15 (sn_look h0 (k := 0) rfl) rfl dX3_moneyAt_26 ?_
      refine lv_iload_n hx hb dX3_moneyAt_29 rfl (lv_at hl 3 rfl) ?_
      obtain ⟨g_4, hf⟩ := sn_gdE hf
      refine sn_iald C hw (sn_look h0 (k := 2) rfl) g_4 dX3_moneyAt_30 ?_
      refine lv_iload_n hx hb dX3_moneyAt_31 rfl (lv_at hl 1 rfl) ?_
      refine lv_icmp_gt (tgt := 44) hx hb dX3_moneyAt_32 (by decide) (fun c_5 => ?_) (fun c_5 => ?_)
      · have hf := sn_if c_5 hf
        exact wX3_moneyAt_44 C h0 hf kc kx _ _ _ hw (lv_sub hl [0, 1, 2, 3] rfl)
      · have hf := sn_el c_5 hf
        refine lv_iload_n hx hb dX3_moneyAt_35 rfl (lv_at hl 2 rfl) ?_
        refine lv_aload_n hx hb dX3_moneyAt_36 rfl (lv_at hl 0 rfl) ?_
        refine sn_getC (r := (q0 + 1)) C hw fd_RX3_9 (sn_look h0 (k := 0) rfl) rfl dX3_moneyAt_37 ?_
        refine lv_iload_n hx hb dX3_moneyAt_40 rfl (lv_at hl 3 rfl) ?_
        obtain ⟨g_6, hf⟩ := sn_gdE hf
        refine sn_iald C hw (sn_look h0 (k := 1) rfl) g_6 dX3_moneyAt_41 ?_
        refine lv_isub hx hb dX3_moneyAt_42 ?_
        obtain ⟨y_7, e_8, hf⟩ := sn_ltE hf
        refine lv_topi (fun y_7_ e_8_ => ?_)
        obtain rfl : y_7 = y_7_ := e_8.trans e_8_.symm
        refine lv_istore_n (lv' := [(2, .int y_7), (0, .ref (ad q0)), (1, .int x1), (3, .int x3)]) hx hb dX3_moneyAt_43 rfl hl (by decide) rfl (fun ls hl => ?_)
        exact wX3_moneyAt_44 C h0 hf kc kx _ _ _ hw (lv_sub hl [1, 2, 0, 3] rfl)
theorem wX3_moneyAt_L7 (C : sn_C p s m args meth c RX3 cX3_moneyAt 4 (some .int) D ct ad layC A) {σ : sn_S} {q0 : Nat} {x1 : Int32}  (h0 : sn_isX3 q0) {z : Int32 × Int32} {t : Int32} (h : sn_it (LX3_moneyAt_7 σ q0 x1) 5000 z = some t) (kx : ∀ v, t = v → sn_At p l e rmX3_moneyAt s m args below meth c Q D ct ad layC A 4 σ 50 [(2, .int v)] []) : sn_At p l e rmX3_moneyAt s m args below meth c Q D ct ad layC A 4 σ 7 [(0, .ref (ad q0)), (1, .int x1), (2, .int z.1), (3, .int z.2)] [] :=
  sn_loop (f := LX3_moneyAt_7 σ q0 x1) (G := fun z => sn_At p l e rmX3_moneyAt s m args below meth c Q D ct ad layC A 4 σ 7 [(0, .ref (ad q0)), (1, .int x1), (2, .int z.1), (3, .int z.2)] []) (E := fun t => (∀ v, t = v → sn_At p l e rmX3_moneyAt s m args below meth c Q D ct ad layC A 4 σ 50 [(2, .int v)] []) ∧ True) (fun z o hf k1 k2 => wX3_moneyAt_7 C h0 hf (fun v e => k1 v e) (fun v e => (k2 _ e).1 v rfl)) 5000 z t h ⟨kx, trivial⟩
theorem wX3_moneyAt_in (C : sn_C p s m args meth c RX3 cX3_moneyAt 4 (some .int) D ct ad layC A) {σ : sn_S} {q0 : Nat} {x1 : Int32} (h0 : sn_isX3 q0) {o : Int32} (hf : fX3_moneyAt σ q0 x1 = some o) (kr : sn_Kr p l e rmX3_moneyAt s m args below meth c Q D ct ad layC A cX3_moneyAt .ireturn (true) σ [.int o]) : sn_At p l e rmX3_moneyAt s m args below meth c Q D ct ad layC A 4 σ 0 [(0, .ref (ad q0)), (1, .int x1)] [] := by
  intro H locs ls hw hl
  have hx := C.1
  have hb := C.2.1
  unfold fX3_moneyAt at hf
  refine lv_aload_n hx hb dX3_moneyAt_0 rfl (lv_at hl 0 rfl) ?_
  refine sn_getI C hw fd_RX3_27 (sn_look h0 (k := 0) rfl) rfl dX3_moneyAt_1 ?_
  obtain ⟨y_1, e_2, hf⟩ := sn_ltE hf
  refine lv_topi (fun y_1_ e_2_ => ?_)
  obtain rfl : y_1 = y_1_ := e_2.trans e_2_.symm
  refine lv_istore_n (lv' := [(2, .int y_1), (0, .ref (ad q0)), (1, .int x1)]) hx hb dX3_moneyAt_4 rfl hl (by decide) rfl (fun ls hl => ?_)
  refine lv_iconst (v := 0) hx hb dX3_moneyAt_5 rfl ?_
  refine lv_istore_n (lv' := [(3, .int (0 : Int32)), (2, .int y_1), (0, .ref (ad q0)), (1, .int x1)]) hx hb dX3_moneyAt_6 rfl hl (by decide) rfl (fun ls hl => ?_)
  obtain ⟨t_3, h_4, hf⟩ := sn_bd hf
  exact wX3_moneyAt_L7 C h0 h_4 (fun v e => by cases e; exact wX3_moneyAt_50 C h0 hf kr) _ _ _ hw (lv_sub hl [2, 3, 1, 0] rfl)
theorem ctX3_moneyAt (l : Launch) {σ : sn_S} {q0 : Nat} {x1 : Int32} (h0 : sn_isX3 q0) {o : Int32} (hf : fX3_moneyAt σ q0 x1 = some o) : sn_M l yX3_moneyAt cX3_moneyAt 4 (some .int) rmX3_moneyAt layC (fun ad => [.ref (ad q0), .int x1]) σ (some (fun _ => .int o)) σ :=
  sn_met (by decide) (fun _ => Nat.le_of_ble_eq_true rfl) (fun p e s m args below meth c ls D ct ad A C hw hl => wX3_moneyAt_in C h0 hf (fun H locs ls pc hw ok hd => sn_iret C hw hd) _ _ _ hw hl)
-- X3_firstBelow
abbrev rmX3_firstBelow : Room := { frames := 1, cells := 0, slots := 0, locals := 23 }
def BX3_firstBelow_23 (σ : sn_S) (q0 : Nat) : Option (Int32) :=
  (some (-1 : Int32))
def BX3_firstBelow_2 (σ : sn_S) (q0 : Nat) (x1 : Int32) (x2 : Int32) : Option ((Int32) ⊕ ((Unit) ⊕ Int32)) :=
  (if x1 ≤ x2 then
  (some (.inr (.inl ())))
  else
  ((fX3_moneyAt σ q0 x2).bind fun t_2 => (if 0 ≤ t_2 then
  (sn_lt (x2 + 1) fun y_5 => (some (.inl (y_5))))
  else
  (some (.inr (.inr x2))))))
def LX3_firstBelow_2 (σ : sn_S) (q0 : Nat) (x1 : Int32) (s : Int32) : Option ((Int32) ⊕ ((Unit) ⊕ Int32)) := BX3_firstBelow_2 σ q0 x1 s
def fX3_firstBelow (σ : sn_S) (q0 : Nat) (x1 : Int32) : Option Int32 :=
  ((sn_it (LX3_firstBelow_2 σ q0 x1) 5000 ((0 : Int32))).bind fun t_1 => Sum.elim (fun v_3 => (BX3_firstBelow_23 σ q0)) (fun r_4 => (some r_4)) t_1)
theorem wX3_firstBelow_23 (C : sn_C p s m args meth c RX3 cX3_firstBelow 3 (some .int) D ct ad layC A) {σ : sn_S} {q0 : Nat} (h0 : sn_isX3 q0) {o : Int32} (hf : BX3_firstBelow_23 σ q0 = some o) (kr : sn_Kr p l e rmX3_firstBelow s m args below meth c Q D ct ad layC A cX3_firstBelow .ireturn (true) σ [.int o]) : sn_At p l e rmX3_firstBelow s m args below meth c Q D ct ad layC A 3 σ 23 [] [] := by
  intro H locs ls hw hl
  have hx := C.1
  have hb := C.2.1
  unfold BX3_firstBelow_23 at hf
  refine lv_iconst (v := (-1)) hx hb dX3_firstBelow_23 rfl ?_
  cases hf
  exact kr _ _ _ _ hw rfl dX3_firstBelow_24
theorem wX3_firstBelow_2 (C : sn_C p s m args meth c RX3 cX3_firstBelow 3 (some .int) D ct ad layC A) {σ : sn_S} {q0 : Nat} {x1 : Int32} {x2 : Int32} (h0 : sn_isX3 q0) {o : (Int32) ⊕ ((Unit) ⊕ Int32)} (hf : BX3_firstBelow_2 σ q0 x1 x2 = some o) (kc : ∀ v, o = .inl v → sn_At p l e rmX3_firstBelow s m args below meth c Q D ct ad layC A 3 σ 2 [(0, .ref (ad q0)), (1, .int x1), (2, .int v)] []) (kx : ∀ v, o = .inr (.inl v) → sn_At p l e rmX3_firstBelow s m args below meth c Q D ct ad layC A 3 σ 23 [] []) (kr : ∀ r, o = .inr (.inr r) → sn_Kr p l e rmX3_firstBelow s m args below meth c Q D ct ad layC A cX3_firstBelow .ireturn (true) σ [.int r]) : sn_At p l e rmX3_firstBelow s m args below meth c Q D ct ad layC A 3 σ 2 [(0, .ref (ad q0)), (1, .int x1), (2, .int x2)] [] := by
  intro H locs ls hw hl
  have hx := C.1
  have hb := C.2.1
  unfold BX3_firstBelow_2 at hf
  refine lv_iload_n hx hb dX3_firstBelow_2 rfl (lv_at hl 2 rfl) ?_
  refine lv_iload_n hx hb dX3_firstBelow_3 rfl (lv_at hl 1 rfl) ?_
  refine lv_icmp_ge (tgt := 23) hx hb dX3_firstBelow_4 (by decide) (fun c_1 => ?_) (fun c_1 => ?_)
  · have hf := sn_if c_1 hf
    cases hf
    exact kx _ rfl _ _ _ hw (lv_sub hl [] rfl)
  · have hf := sn_el c_1 hf
    refine lv_aload_n hx hb dX3_firstBelow_7 rfl (lv_at hl 0 rfl) ?_
    refine lv_iload_n hx hb dX3_firstBelow_8 rfl (lv_at hl 2 rfl) ?_
    obtain ⟨t_2, h_3, hf⟩ := sn_bd hf
    refine sn_callVi (rest := []) C hw (ctX3_moneyAt l h0 h_3) kl_RX3_74 (sn_look h0 (k := 0) rfl) rfl rfl rfl rfl (Nat.le_of_ble_eq_true rfl) dX3_firstBelow_9 hl.1 (fun H locs hw => ?_)
    refine lv_if_ge (tgt := 17) hx hb dX3_firstBelow_12 (by decide) (fun c_4 => ?_) (fun c_4 => ?_)
    · have hf := sn_if c_4 hf
      obtain ⟨y_5, e_6, hf⟩ := sn_ltE hf
      refine lv_iinc (v := y_5) (lv' := [(2, .int y_5), (0, .ref (ad q0)), (1, .int x1)]) hx hb dX3_firstBelow_17 hl (k := 2) rfl (by rw [e_6]; rfl) (by decide) rfl (fun ls hl => ?_)
      refine lv_goto (tgt := 2) hx hb dX3_firstBelow_20 (by decide) ?_
      cases hf
      exact kc _ rfl _ _ _ hw (lv_sub hl [1, 2, 0] rfl)
    · have hf := sn_el c_4 hf
      refine lv_iload_n hx hb dX3_firstBelow_15 rfl (lv_at hl 2 rfl) ?_
      cases hf
      exact kr _ rfl _ _ _ _ hw rfl dX3_firstBelow_16
theorem wX3_firstBelow_L2 (C : sn_C p s m args meth c RX3 cX3_firstBelow 3 (some .int) D ct ad layC A) {σ : sn_S} {q0 : Nat} {x1 : Int32}  (h0 : sn_isX3 q0) {z : Int32} {t : (Unit) ⊕ Int32} (h : sn_it (LX3_firstBelow_2 σ q0 x1) 5000 z = some t) (kx : ∀ v, t = .inl v → sn_At p l e rmX3_firstBelow s m args below meth c Q D ct ad layC A 3 σ 23 [] []) (kr : ∀ r, t = .inr r → sn_Kr p l e rmX3_firstBelow s m args below meth c Q D ct ad layC A cX3_firstBelow .ireturn (true) σ [.int r]) : sn_At p l e rmX3_firstBelow s m args below meth c Q D ct ad layC A 3 σ 2 [(0, .ref (ad q0)), (1, .int x1), (2, .int z)] [] :=
  sn_loop (f := LX3_firstBelow_2 σ q0 x1) (G := fun z => sn_At p l e rmX3_firstBelow s m args below meth c Q D ct ad layC A 3 σ 2 [(0, .ref (ad q0)), (1, .int x1), (2, .int z)] []) (E := fun t => (∀ v, t = .inl v → sn_At p l e rmX3_firstBelow s m args below meth c Q D ct ad layC A 3 σ 23 [] []) ∧ (∀ r, t = .inr r → sn_Kr p l e rmX3_firstBelow s m args below meth c Q D ct ad layC A cX3_firstBelow .ireturn (true) σ [.int r])) (fun z o hf k1 k2 => wX3_firstBelow_2 C h0 hf (fun v e => k1 v e) (fun v e => (k2 _ e).1 v rfl) (fun r e => (k2 _ e).2 r rfl)) 5000 z t h ⟨kx, kr⟩
theorem wX3_firstBelow_in (C : sn_C p s m args meth c RX3 cX3_firstBelow 3 (some .int) D ct ad layC A) {σ : sn_S} {q0 : Nat} {x1 : Int32} (h0 : sn_isX3 q0) {o : Int32} (hf : fX3_firstBelow σ q0 x1 = some o) (kr : sn_Kr p l e rmX3_firstBelow s m args below meth c Q D ct ad layC A cX3_firstBelow .ireturn (true) σ [.int o]) : sn_At p l e rmX3_firstBelow s m args below meth c Q D ct ad layC A 3 σ 0 [(0, .ref (ad q0)), (1, .int x1)] [] := by
  intro H locs ls hw hl
  have hx := C.1
  have hb := C.2.1
  unfold fX3_firstBelow at hf
  refine lv_iconst (v := 0) hx hb dX3_firstBelow_0 rfl ?_
  refine lv_istore_n (lv' := [(2, .int (0 : Int32)), (0, .ref (ad q0)), (1, .int x1)]) hx hb dX3_firstBelow_1 rfl hl (by decide) rfl (fun ls hl => ?_)
  obtain ⟨t_1, h_2, hf⟩ := sn_bd hf
  rcases t_1 with v_3 | r_4
  · rw [Sum.elim_inl] at hf
    exact wX3_firstBelow_L2 C h0 h_2 (fun v e => by cases e; exact wX3_firstBelow_23 C h0 hf kr) (fun r e => by cases e) _ _ _ hw (lv_sub hl [1, 2, 0] rfl)
  · rw [Sum.elim_inr] at hf
    cases hf
    exact wX3_firstBelow_L2 C h0 h_2 (fun v e => by cases e) (fun r e => by cases e; exact kr) _ _ _ hw (lv_sub hl [1, 2, 0] rfl)
theorem ctX3_firstBelow (l : Launch) {σ : sn_S} {q0 : Nat} {x1 : Int32} (h0 : sn_isX3 q0) {o : Int32} (hf : fX3_firstBelow σ q0 x1 = some o) : sn_M l yX3_firstBelow cX3_firstBelow 3 (some .int) rmX3_firstBelow layC (fun ad => [.ref (ad q0), .int x1]) σ (some (fun _ => .int o)) σ :=
  sn_met (by decide) (fun _ => Nat.le_of_ble_eq_true rfl) (fun p e s m args below meth c ls D ct ad A C hw hl => wX3_firstBelow_in C h0 hf (fun H locs ls pc hw ok hd => sn_iret C hw hd) _ _ _ hw hl)
-- X3_poorestMinute
abbrev rmX3_poorestMinute : Room := { frames := 1, cells := 0, slots := 0, locals := 23 }
def BX3_poorestMinute_30 (σ : sn_S) (q0 : Nat) (x2 : Int32) : Option (Int32) :=
  (some x2)
def BX3_poorestMinute_24 (σ : sn_S) (q0 : Nat) (x1 : Int32) (x2 : Int32) (x3 : Int32) : Option ((Int32 × Int32) ⊕ (Int32)) :=
  (sn_lt (x3 + 1) fun y_1 => (some (.inl (x2, y_1))))
def BX3_poorestMinute_4 (σ : sn_S) (q0 : Nat) (x1 : Int32) (x2 : Int32) (x3 : Int32) : Option ((Int32 × Int32) ⊕ (Int32)) :=
  (if x1 ≤ x3 then
  (some (.inr (x2)))
  else
  ((fX3_moneyAt σ q0 x3).bind fun t_2 => ((fX3_moneyAt σ q0 x2).bind fun t_4 => (if t_4 ≤ t_2 then
  (BX3_poorestMinute_24 σ q0 x1 x2 x3)
  else
  (BX3_poorestMinute_24 σ q0 x1 x3 x3)))))
def LX3_poorestMinute_4 (σ : sn_S) (q0 : Nat) (x1 : Int32) (s : Int32 × Int32) : Option ((Int32 × Int32) ⊕ (Int32)) := BX3_poorestMinute_4 σ q0 x1 s.1 s.2
def fX3_poorestMinute (σ : sn_S) (q0 : Nat) (x1 : Int32) : Option Int32 :=
  ((sn_it (LX3_poorestMinute_4 σ q0 x1) 5000 ((0 : Int32), (1 : Int32))).bind fun t_1 => (BX3_poorestMinute_30 σ q0 t_1))
theorem wX3_poorestMinute_30 (C : sn_C p s m args meth c RX3 cX3_poorestMinute 4 (some .int) D ct ad layC A) {σ : sn_S} {q0 : Nat} {x2 : Int32} (h0 : sn_isX3 q0) {o : Int32} (hf : BX3_poorestMinute_30 σ q0 x2 = some o) (kr : sn_Kr p l e rmX3_poorestMinute s m args below meth c Q D ct ad layC A cX3_poorestMinute .ireturn (true) σ [.int o]) : sn_At p l e rmX3_poorestMinute s m args below meth c Q D ct ad layC A 4 σ 30 [(2, .int x2)] [] := by
  intro H locs ls hw hl
  have hx := C.1
  have hb := C.2.1
  unfold BX3_poorestMinute_30 at hf
  refine lv_iload_n hx hb dX3_poorestMinute_30 rfl (lv_at hl 0 rfl) ?_
  cases hf
  exact kr _ _ _ _ hw rfl dX3_poorestMinute_31
theorem wX3_poorestMinute_24 (C : sn_C p s m args meth c RX3 cX3_poorestMinute 4 (some .int) D ct ad layC A) {σ : sn_S} {q0 : Nat} {x1 : Int32} {x2 : Int32} {x3 : Int32} (h0 : sn_isX3 q0) {o : (Int32 × Int32) ⊕ (Int32)} (hf : BX3_poorestMinute_24 σ q0 x1 x2 x3 = some o) (kc : ∀ v, o = .inl v → sn_At p l e rmX3_poorestMinute s m args below meth c Q D ct ad layC A 4 σ 4 [(0, .ref (ad q0)), (1, .int x1), (2, .int v.1), (3, .int v.2)] []) (kx : ∀ v, o = .inr v → sn_At p l e rmX3_poorestMinute s m args below meth c Q D ct ad layC A 4 σ 30 [(2, .int v)] []) : sn_At p l e rmX3_poorestMinute s m args below meth c Q D ct ad layC A 4 σ 24 [(0, .ref (ad q0)), (1, .int x1), (2, .int x2), (3, .int x3)] [] := by
  intro H locs ls hw hl
  have hx := C.1
  have hb := C.2.1
  unfold BX3_poorestMinute_24 at hf
  obtain ⟨y_1, e_2, hf⟩ := sn_ltE hf
  refine lv_iinc (v := y_1) (lv' := [(3, .int y_1), (0, .ref (ad q0)), (1, .int x1), (2, .int x2)]) hx hb dX3_poorestMinute_24 hl (k := 3) rfl (by rw [e_2]; rfl) (by decide) rfl (fun ls hl => ?_)
  refine lv_goto (tgt := 4) hx hb dX3_poorestMinute_27 (by decide) ?_
  cases hf
  exact kc _ rfl _ _ _ hw (lv_sub hl [1, 2, 3, 0] rfl)
theorem wX3_poorestMinute_4 (C : sn_C p s m args meth c RX3 cX3_poorestMinute 4 (some .int) D ct ad layC A) {σ : sn_S} {q0 : Nat} {x1 : Int32} {x2 : Int32} {x3 : Int32} (h0 : sn_isX3 q0) {o : (Int32 × Int32) ⊕ (Int32)} (hf : BX3_poorestMinute_4 σ q0 x1 x2 x3 = some o) (kc : ∀ v, o = .inl v → sn_At p l e rmX3_poorestMinute s m args below meth c Q D ct ad layC A 4 σ 4 [(0, .ref (ad q0)), (1, .int x1), (2, .int v.1), (3, .int v.2)] []) (kx : ∀ v, o = .inr v → sn_At p l e rmX3_poorestMinute s m args below meth c Q D ct ad layC A 4 σ 30 [(2, .int v)] []) : sn_At p l e rmX3_poorestMinute s m args below meth c Q D ct ad layC A 4 σ 4 [(0, .ref (ad q0)), (1, .int x1), (2, .int x2), (3, .int x3)] [] := by
  intro H locs ls hw hl
  have hx := C.1
  have hb := C.2.1
  unfold BX3_poorestMinute_4 at hf
  refine lv_iload_n hx hb dX3_poorestMinute_4 rfl (lv_at hl 3 rfl) ?_
  refine lv_iload_n hx hb dX3_poorestMinute_5 rfl (lv_at hl 1 rfl) ?_
  refine lv_icmp_ge (tgt := 30) hx hb dX3_poorestMinute_6 (by decide) (fun c_1 => ?_) (fun c_1 => ?_)
  · have hf := sn_if c_1 hf
    cases hf
    exact kx _ rfl _ _ _ hw (lv_sub hl [2] rfl)
  · have hf := sn_el c_1 hf
    refine lv_aload_n hx hb dX3_poorestMinute_9 rfl (lv_at hl 0 rfl) ?_
    refine lv_iload_n hx hb dX3_poorestMinute_10 rfl (lv_at hl 3 rfl) ?_
    obtain ⟨t_2, h_3, hf⟩ := sn_bd hf
    refine sn_callVi (rest := []) C hw (ctX3_moneyAt l h0 h_3) kl_RX3_74 (sn_look h0 (k := 0) rfl) rfl rfl rfl rfl (Nat.le_of_ble_eq_true rfl) dX3_poorestMinute_11 hl.1 (fun H locs hw => ?_)
    refine lv_aload_n hx hb dX3_poorestMinute_14 rfl (lv_at hl 0 rfl) ?_
    refine lv_iload_n hx hb dX3_poorestMinute_15 rfl (lv_at hl 2 rfl) ?_
    obtain ⟨t_4, h_5, hf⟩ := sn_bd hf
    refine sn_callVi (rest := [.int t_2]) C hw (ctX3_moneyAt l h0 h_5) kl_RX3_74 (sn_look h0 (k := 0) rfl) rfl rfl rfl rfl (Nat.le_of_ble_eq_true rfl) dX3_poorestMinute_16 hl.1 (fun H locs hw => ?_)
    refine lv_icmp_ge (tgt := 24) hx hb dX3_poorestMinute_19 (by decide) (fun c_6 => ?_) (fun c_6 => ?_)
    · have hf := sn_if c_6 hf
      exact wX3_poorestMinute_24 C h0 hf kc kx _ _ _ hw (lv_sub hl [0, 1, 2, 3] rfl)
    · have hf := sn_el c_6 hf
      refine lv_iload_n hx hb dX3_poorestMinute_22 rfl (lv_at hl 3 rfl) ?_
      refine lv_istore_n (lv' := [(2, .int x3), (0, .ref (ad q0)), (1, .int x1), (3, .int x3)]) hx hb dX3_poorestMinute_23 rfl hl (by decide) rfl (fun ls hl => ?_)
      exact wX3_poorestMinute_24 C h0 hf kc kx _ _ _ hw (lv_sub hl [1, 2, 0, 3] rfl)
theorem wX3_poorestMinute_L4 (C : sn_C p s m args meth c RX3 cX3_poorestMinute 4 (some .int) D ct ad layC A) {σ : sn_S} {q0 : Nat} {x1 : Int32}  (h0 : sn_isX3 q0) {z : Int32 × Int32} {t : Int32} (h : sn_it (LX3_poorestMinute_4 σ q0 x1) 5000 z = some t) (kx : ∀ v, t = v → sn_At p l e rmX3_poorestMinute s m args below meth c Q D ct ad layC A 4 σ 30 [(2, .int v)] []) : sn_At p l e rmX3_poorestMinute s m args below meth c Q D ct ad layC A 4 σ 4 [(0, .ref (ad q0)), (1, .int x1), (2, .int z.1), (3, .int z.2)] [] :=
  sn_loop (f := LX3_poorestMinute_4 σ q0 x1) (G := fun z => sn_At p l e rmX3_poorestMinute s m args below meth c Q D ct ad layC A 4 σ 4 [(0, .ref (ad q0)), (1, .int x1), (2, .int z.1), (3, .int z.2)] []) (E := fun t => (∀ v, t = v → sn_At p l e rmX3_poorestMinute s m args below meth c Q D ct ad layC A 4 σ 30 [(2, .int v)] []) ∧ True) (fun z o hf k1 k2 => wX3_poorestMinute_4 C h0 hf (fun v e => k1 v e) (fun v e => (k2 _ e).1 v rfl)) 5000 z t h ⟨kx, trivial⟩
theorem wX3_poorestMinute_in (C : sn_C p s m args meth c RX3 cX3_poorestMinute 4 (some .int) D ct ad layC A) {σ : sn_S} {q0 : Nat} {x1 : Int32} (h0 : sn_isX3 q0) {o : Int32} (hf : fX3_poorestMinute σ q0 x1 = some o) (kr : sn_Kr p l e rmX3_poorestMinute s m args below meth c Q D ct ad layC A cX3_poorestMinute .ireturn (true) σ [.int o]) : sn_At p l e rmX3_poorestMinute s m args below meth c Q D ct ad layC A 4 σ 0 [(0, .ref (ad q0)), (1, .int x1)] [] := by
  intro H locs ls hw hl
  have hx := C.1
  have hb := C.2.1
  unfold fX3_poorestMinute at hf
  refine lv_iconst (v := 0) hx hb dX3_poorestMinute_0 rfl ?_
  refine lv_istore_n (lv' := [(2, .int (0 : Int32)), (0, .ref (ad q0)), (1, .int x1)]) hx hb dX3_poorestMinute_1 rfl hl (by decide) rfl (fun ls hl => ?_)
  refine lv_iconst (v := 1) hx hb dX3_poorestMinute_2 rfl ?_
  refine lv_istore_n (lv' := [(3, .int (1 : Int32)), (2, .int (0 : Int32)), (0, .ref (ad q0)), (1, .int x1)]) hx hb dX3_poorestMinute_3 rfl hl (by decide) rfl (fun ls hl => ?_)
  obtain ⟨t_1, h_2, hf⟩ := sn_bd hf
  exact wX3_poorestMinute_L4 C h0 h_2 (fun v e => by cases e; exact wX3_poorestMinute_30 C h0 hf kr) _ _ _ hw (lv_sub hl [2, 3, 1, 0] rfl)
theorem ctX3_poorestMinute (l : Launch) {σ : sn_S} {q0 : Nat} {x1 : Int32} (h0 : sn_isX3 q0) {o : Int32} (hf : fX3_poorestMinute σ q0 x1 = some o) : sn_M l yX3_poorestMinute cX3_poorestMinute 4 (some .int) rmX3_poorestMinute layC (fun ad => [.ref (ad q0), .int x1]) σ (some (fun _ => .int o)) σ :=
  sn_met (by decide) (fun _ => Nat.le_of_ble_eq_true rfl) (fun p e s m args below meth c ls D ct ad A C hw hl => wX3_poorestMinute_in C h0 hf (fun H locs ls pc hw ok hd => sn_iret C hw hd) _ _ _ hw hl)
-- X4_weigh
abbrev rmX4_weigh : Room := { frames := 0, cells := 0, slots := 0, locals := 0 }
def BX4_weigh_69 (σ : sn_S) : Option (sn_S) :=
  (some σ)
def BX4_weigh_55 (σ : sn_S) (x1 : Int32) (x2 : Int32) (x3 : Int32) (x4 : Int64) : Option ((sn_S × Int32) ⊕ (sn_S)) :=
  (sn_gd (sn_in x3 9) (sn_lt (sn_pL σ 58 x3.toNatClampNeg x4) fun σ_2 => (sn_lt (x3 + 1) fun y_4 => (some (.inl (σ_2, y_4))))))
def BX4_weigh_46 (σ : sn_S) (x1 : Int32) (x2 : Int32) (x3 : Int32) (x4 : Int64) (x6 : Int32) (t0 : Int64) (t1 : Int64) : Option ((Int64 × Int32) ⊕ (Int64)) :=
  (sn_lt (t0 * t1) fun y_1 => (sn_lt (x6 + 1) fun y_3 => (some (.inl (y_1, y_3)))))
def BX4_weigh_22 (σ : sn_S) (x1 : Int32) (x2 : Int32) (x3 : Int32) (x4 : Int64) (x6 : Int32) : Option ((Int64 × Int32) ⊕ (Int64)) :=
  (if x1 ≤ x6 then
  (some (.inr (x4)))
  else
  (if x3 ≤ x6 then
  (BX4_weigh_46 σ x1 x2 x3 x4 x6 x4 (((10 : Int32) - x2).toInt64))
  else
  (BX4_weigh_46 σ x1 x2 x3 x4 x6 x4 x2.toInt64)))
def LX4_weigh_22 (σ : sn_S) (x1 : Int32) (x2 : Int32) (x3 : Int32) (s : Int64 × Int32) : Option ((Int64 × Int32) ⊕ (Int64)) := BX4_weigh_22 σ x1 x2 x3 s.1 s.2
def BX4_weigh_2 (σ : sn_S) (x1 : Int32) (x2 : Int32) (x3 : Int32) : Option ((sn_S × Int32) ⊕ (sn_S)) :=
  (if x1 < x3 then
  (some (.inr (σ)))
  else
  (if (Int32.ofNat 9) ≤ x3 then
  (some (.inr (σ)))
  else
  ((sn_it (LX4_weigh_22 σ x1 x2 x3) 5000 ((1 : Int64), (0 : Int32))).bind fun t_3 => (BX4_weigh_55 σ x1 x2 x3 t_3))))
def LX4_weigh_2 (x1 : Int32) (x2 : Int32) (s : sn_S × Int32) : Option ((sn_S × Int32) ⊕ (sn_S)) := BX4_weigh_2 s.1 x1 x2 s.2
def fX4_weigh (σ : sn_S) (x1 : Int32) (x2 : Int32) : Option sn_S :=
  ((sn_it (LX4_weigh_2 x1 x2) 5000 (σ, (0 : Int32))).bind fun t_1 => (BX4_weigh_69 t_1))
theorem wX4_weigh_69 (C : sn_C p s m args meth c RX4 cX4_weigh 7 none D ct ad layC A) {σ : sn_S}  {o : sn_S} (hf : BX4_weigh_69 σ = some o) (kr : sn_Kr p l e rmX4_weigh s m args below meth c Q D ct ad layC A cX4_weigh .return_ (true) o []) : sn_At p l e rmX4_weigh s m args below meth c Q D ct ad layC A 7 σ 69 [] [] := by
  intro H locs ls hw hl
  have hx := C.1
  have hb := C.2.1
  unfold BX4_weigh_69 at hf
  cases hf
  exact kr _ _ _ _ hw rfl dX4_weigh_69
theorem wX4_weigh_55 (C : sn_C p s m args meth c RX4 cX4_weigh 7 none D ct ad layC A) {σ : sn_S} {x1 : Int32} {x2 : Int32} {x3 : Int32} {x4 : Int64}  {o : (sn_S × Int32) ⊕ (sn_S)} (hf : BX4_weigh_55 σ x1 x2 x3 x4 = some o) (kc : ∀ v, o = .inl v → sn_At p l e rmX4_weigh s m args below meth c Q D ct ad layC A 7 v.1 2 [(0, .ref (ad 57)), (1, .int x1), (2, .int x2), (3, .int v.2)] []) (kx : ∀ v, o = .inr v → sn_At p l e rmX4_weigh s m args below meth c Q D ct ad layC A 7 v 69 [] []) : sn_At p l e rmX4_weigh s m args below meth c Q D ct ad layC A 7 σ 55 [(0, .ref (ad 57)), (1, .int x1), (2, .int x2), (3, .int x3), (4, .long x4)] [] := by
  intro H locs ls hw hl
  have hx := C.1
  have hb := C.2.1
  unfold BX4_weigh_55 at hf
  refine lv_aload_n hx hb dX4_weigh_55 rfl (lv_at hl 0 rfl) ?_
  refine sn_getC (r := 58) C hw fd_RX4_9 layC_57 rfl dX4_weigh_56 ?_
  refine lv_iload_n hx hb dX4_weigh_59 rfl (lv_at hl 3 rfl) ?_
  refine lv_lload hx hb dX4_weigh_60 (lv_at hl 4 rfl) ?_
  obtain ⟨g_1, hf⟩ := sn_gdE hf
  refine sn_last C hw layC_58 g_1 dX4_weigh_62 (fun H locs hw => ?_)
  obtain ⟨σ_2, e_3, hf⟩ := sn_ltE hf
  rw [← e_3] at hw
  obtain ⟨y_4, e_5, hf⟩ := sn_ltE hf
  refine lv_iinc (v := y_4) (lv' := [(3, .int y_4), (0, .ref (ad 57)), (1, .int x1), (2, .int x2), (4, .long x4)]) hx hb dX4_weigh_63 hl (k := 3) rfl (by rw [e_5]; rfl) (by decide) rfl (fun ls hl => ?_)
  refine lv_goto (tgt := 2) hx hb dX4_weigh_66 (by decide) ?_
  cases hf
  exact kc _ rfl _ _ _ hw (lv_sub hl [1, 2, 3, 0] rfl)
theorem wX4_weigh_46 (C : sn_C p s m args meth c RX4 cX4_weigh 7 none D ct ad layC A) {σ : sn_S} {x1 : Int32} {x2 : Int32} {x3 : Int32} {x4 : Int64} {x6 : Int32} {t0 : Int64} {t1 : Int64}  {o : (Int64 × Int32) ⊕ (Int64)} (hf : BX4_weigh_46 σ x1 x2 x3 x4 x6 t0 t1 = some o) (kc : ∀ v, o = .inl v → sn_At p l e rmX4_weigh s m args below meth c Q D ct ad layC A 7 σ 22 [(0, .ref (ad 57)), (1, .int x1), (2, .int x2), (3, .int x3), (4, .long v.1), (6, .int v.2)] []) (kx : ∀ v, o = .inr v → sn_At p l e rmX4_weigh s m args below meth c Q D ct ad layC A 7 σ 55 [(0, .ref (ad 57)), (1, .int x1), (2, .int x2), (3, .int x3), (4, .long v)] []) : sn_At p l e rmX4_weigh s m args below meth c Q D ct ad layC A 7 σ 46 [(0, .ref (ad 57)), (1, .int x1), (2, .int x2), (3, .int x3), (4, .long x4), (6, .int x6)] [.long t1, .long t0] := by
  intro H locs ls hw hl
  have hx := C.1
  have hb := C.2.1
  unfold BX4_weigh_46 at hf
  refine lv_lmul hx hb dX4_weigh_46 ?_
  obtain ⟨y_1, e_2, hf⟩ := sn_ltE hf
  refine lv_topl (fun y_1_ e_2_ => ?_)
  obtain rfl : y_1 = y_1_ := e_2.trans e_2_.symm
  refine lv_lstore (lv' := [(4, .long y_1), (0, .ref (ad 57)), (1, .int x1), (2, .int x2), (3, .int x3), (6, .int x6)]) hx hb dX4_weigh_47 hl (by decide) rfl (fun ls hl => ?_)
  obtain ⟨y_3, e_4, hf⟩ := sn_ltE hf
  refine lv_iinc (v := y_3) (lv' := [(6, .int y_3), (4, .long y_1), (0, .ref (ad 57)), (1, .int x1), (2, .int x2), (3, .int x3)]) hx hb dX4_weigh_49 hl (k := 5) rfl (by rw [e_4]; rfl) (by decide) rfl (fun ls hl => ?_)
  refine lv_goto (tgt := 22) hx hb dX4_weigh_52 (by decide) ?_
  cases hf
  exact kc _ rfl _ _ _ hw (lv_sub hl [2, 3, 4, 5, 1, 0] rfl)
theorem wX4_weigh_22 (C : sn_C p s m args meth c RX4 cX4_weigh 7 none D ct ad layC A) {σ : sn_S} {x1 : Int32} {x2 : Int32} {x3 : Int32} {x4 : Int64} {x6 : Int32}  {o : (Int64 × Int32) ⊕ (Int64)} (hf : BX4_weigh_22 σ x1 x2 x3 x4 x6 = some o) (kc : ∀ v, o = .inl v → sn_At p l e rmX4_weigh s m args below meth c Q D ct ad layC A 7 σ 22 [(0, .ref (ad 57)), (1, .int x1), (2, .int x2), (3, .int x3), (4, .long v.1), (6, .int v.2)] []) (kx : ∀ v, o = .inr v → sn_At p l e rmX4_weigh s m args below meth c Q D ct ad layC A 7 σ 55 [(0, .ref (ad 57)), (1, .int x1), (2, .int x2), (3, .int x3), (4, .long v)] []) : sn_At p l e rmX4_weigh s m args below meth c Q D ct ad layC A 7 σ 22 [(0, .ref (ad 57)), (1, .int x1), (2, .int x2), (3, .int x3), (4, .long x4), (6, .int x6)] [] := by
  intro H locs ls hw hl
  have hx := C.1
  have hb := C.2.1
  unfold BX4_weigh_22 at hf
  refine lv_iload hx hb dX4_weigh_22 (lv_at hl 5 rfl) ?_
  refine lv_iload_n hx hb dX4_weigh_24 rfl (lv_at hl 1 rfl) ?_
  refine lv_icmp_ge (tgt := 55) hx hb dX4_weigh_25 (by decide) (fun c_1 => ?_) (fun c_1 => ?_)
  · have hf := sn_if c_1 hf
    cases hf
    exact kx _ rfl _ _ _ hw (lv_sub hl [0, 1, 2, 3, 4] rfl)
  · have hf := sn_el c_1 hf
    refine lv_lload hx hb dX4_weigh_28 (lv_at hl 4 rfl) ?_
    refine lv_iload hx hb dX4_weigh_30 (lv_at hl 5 rfl) ?_
    refine lv_iload_n hx hb dX4_weigh_32 rfl (lv_at hl 3 rfl) ?_
    refine lv_icmp_ge (tgt := 41) hx hb dX4_weigh_33 (by decide) (fun c_2 => ?_) (fun c_2 => ?_)
    · have hf := sn_if c_2 hf
      refine lv_bipush (v := 10) hx hb dX4_weigh_41 (by decide) ?_
      refine lv_iload_n hx hb dX4_weigh_43 rfl (lv_at hl 2 rfl) ?_
      refine lv_isub hx hb dX4_weigh_44 ?_
      refine lv_i2l hx hb dX4_weigh_45 rfl ?_
      exact wX4_weigh_46 C  hf kc kx _ _ _ hw (lv_sub hl [0, 1, 2, 3, 4, 5] rfl)
    · have hf := sn_el c_2 hf
      refine lv_iload_n hx hb dX4_weigh_36 rfl (lv_at hl 2 rfl) ?_
      refine lv_i2l hx hb dX4_weigh_37 rfl ?_
      refine lv_goto (tgt := 46) hx hb dX4_weigh_38 (by decide) ?_
      exact wX4_weigh_46 C  hf kc kx _ _ _ hw (lv_sub hl [0, 1, 2, 3, 4, 5] rfl)
theorem wX4_weigh_L22 (C : sn_C p s m args meth c RX4 cX4_weigh 7 none D ct ad layC A) {σ : sn_S} {x1 : Int32} {x2 : Int32} {x3 : Int32}   {z : Int64 × Int32} {t : Int64} (h : sn_it (LX4_weigh_22 σ x1 x2 x3) 5000 z = some t) (kx : ∀ v, t = v → sn_At p l e rmX4_weigh s m args below meth c Q D ct ad layC A 7 σ 55 [(0, .ref (ad 57)), (1, .int x1), (2, .int x2), (3, .int x3), (4, .long v)] []) : sn_At p l e rmX4_weigh s m args below meth c Q D ct ad layC A 7 σ 22 [(0, .ref (ad 57)), (1, .int x1), (2, .int x2), (3, .int x3), (4, .long z.1), (6, .int z.2)] [] :=
  sn_loop (f := LX4_weigh_22 σ x1 x2 x3) (G := fun z => sn_At p l e rmX4_weigh s m args below meth c Q D ct ad layC A 7 σ 22 [(0, .ref (ad 57)), (1, .int x1), (2, .int x2), (3, .int x3), (4, .long z.1), (6, .int z.2)] []) (E := fun t => (∀ v, t = v → sn_At p l e rmX4_weigh s m args below meth c Q D ct ad layC A 7 σ 55 [(0, .ref (ad 57)), (1, .int x1), (2, .int x2), (3, .int x3), (4, .long v)] []) ∧ True) (fun z o hf k1 k2 => wX4_weigh_22 C  hf (fun v e => k1 v e) (fun v e => (k2 _ e).1 v rfl)) 5000 z t h ⟨kx, trivial⟩
theorem wX4_weigh_2 (C : sn_C p s m args meth c RX4 cX4_weigh 7 none D ct ad layC A) {σ : sn_S} {x1 : Int32} {x2 : Int32} {x3 : Int32}  {o : (sn_S × Int32) ⊕ (sn_S)} (hf : BX4_weigh_2 σ x1 x2 x3 = some o) (kc : ∀ v, o = .inl v → sn_At p l e rmX4_weigh s m args below meth c Q D ct ad layC A 7 v.1 2 [(0, .ref (ad 57)), (1, .int x1), (2, .int x2), (3, .int v.2)] []) (kx : ∀ v, o = .inr v → sn_At p l e rmX4_weigh s m args below meth c Q D ct ad layC A 7 v 69 [] []) : sn_At p l e rmX4_weigh s m args below meth c Q D ct ad layC A 7 σ 2 [(0, .ref (ad 57)), (1, .int x1), (2, .int x2), (3, .int x3)] [] := by
  intro H locs ls hw hl
  have hx := C.1
  have hb := C.2.1
  unfold BX4_weigh_2 at hf
  refine lv_iload_n hx hb dX4_weigh_2 rfl (lv_at hl 3 rfl) ?_
  refine lv_iload_n hx hb dX4_weigh_3 rfl (lv_at hl 1 rfl) ?_
  refine lv_icmp_gt (tgt := 69) hx hb dX4_weigh_4 (by decide) (fun c_1 => ?_) (fun c_1 => ?_)
  · have hf := sn_if c_1 hf
    cases hf
    exact kx _ rfl _ _ _ hw (lv_sub hl [] rfl)
  · have hf := sn_el c_1 hf
    refine lv_iload_n hx hb dX4_weigh_7 rfl (lv_at hl 3 rfl) ?_
    refine lv_aload_n hx hb dX4_weigh_8 rfl (lv_at hl 0 rfl) ?_
    refine sn_getC (r := 58) C hw fd_RX4_9 layC_57 rfl dX4_weigh_9 ?_
    refine sn_alen C hw layC_58 rfl rfl dX4_weigh_12 ?_
    refine lv_icmp_ge (tgt := 69) hx hb dX4_weigh_13 (by decide) (fun c_2 => ?_) (fun c_2 => ?_)
    · have hf := sn_if c_2 hf
      cases hf
      exact kx _ rfl _ _ _ hw (lv_sub hl [] rfl)
    · have hf := sn_el c_2 hf
      refine lv_lconst (v := 1) hx hb dX4_weigh_16 rfl ?_
      refine lv_lstore (lv' := [(4, .long (1 : Int64)), (0, .ref (ad 57)), (1, .int x1), (2, .int x2), (3, .int x3)]) hx hb dX4_weigh_17 hl (by decide) rfl (fun ls hl => ?_)
      refine lv_iconst (v := 0) hx hb dX4_weigh_19 rfl ?_
      refine lv_istore (lv' := [(6, .int (0 : Int32)), (4, .long (1 : Int64)), (0, .ref (ad 57)), (1, .int x1), (2, .int x2), (3, .int x3)]) hx hb dX4_weigh_20 hl (by decide) rfl (fun ls hl => ?_)
      obtain ⟨t_3, h_4, hf⟩ := sn_bd hf
      exact wX4_weigh_L22 C  h_4 (fun v e => by cases e; exact wX4_weigh_55 C  hf kc kx) _ _ _ hw (lv_sub hl [2, 3, 4, 5, 1, 0] rfl)
theorem wX4_weigh_L2 (C : sn_C p s m args meth c RX4 cX4_weigh 7 none D ct ad layC A) {x1 : Int32} {x2 : Int32}   {z : sn_S × Int32} {t : sn_S} (h : sn_it (LX4_weigh_2 x1 x2) 5000 z = some t) (kx : ∀ v, t = v → sn_At p l e rmX4_weigh s m args below meth c Q D ct ad layC A 7 v 69 [] []) : sn_At p l e rmX4_weigh s m args below meth c Q D ct ad layC A 7 z.1 2 [(0, .ref (ad 57)), (1, .int x1), (2, .int x2), (3, .int z.2)] [] :=
  sn_loop (f := LX4_weigh_2 x1 x2) (G := fun z => sn_At p l e rmX4_weigh s m args below meth c Q D ct ad layC A 7 z.1 2 [(0, .ref (ad 57)), (1, .int x1), (2, .int x2), (3, .int z.2)] []) (E := fun t => (∀ v, t = v → sn_At p l e rmX4_weigh s m args below meth c Q D ct ad layC A 7 v 69 [] []) ∧ True) (fun z o hf k1 k2 => wX4_weigh_2 C  hf (fun v e => k1 v e) (fun v e => (k2 _ e).1 v rfl)) 5000 z t h ⟨kx, trivial⟩
theorem wX4_weigh_in (C : sn_C p s m args meth c RX4 cX4_weigh 7 none D ct ad layC A) {σ : sn_S} {x1 : Int32} {x2 : Int32}  {o : sn_S} (hf : fX4_weigh σ x1 x2 = some o) (kr : sn_Kr p l e rmX4_weigh s m args below meth c Q D ct ad layC A cX4_weigh .return_ (true) o []) : sn_At p l e rmX4_weigh s m args below meth c Q D ct ad layC A 7 σ 0 [(0, .ref (ad 57)), (1, .int x1), (2, .int x2)] [] := by
  intro H locs ls hw hl
  have hx := C.1
  have hb := C.2.1
  unfold fX4_weigh at hf
  refine lv_iconst (v := 0) hx hb dX4_weigh_0 rfl ?_
  refine lv_istore_n (lv' := [(3, .int (0 : Int32)), (0, .ref (ad 57)), (1, .int x1), (2, .int x2)]) hx hb dX4_weigh_1 rfl hl (by decide) rfl (fun ls hl => ?_)
  obtain ⟨t_1, h_2, hf⟩ := sn_bd hf
  exact wX4_weigh_L2 C  h_2 (fun v e => by cases e; exact wX4_weigh_69 C  hf kr) _ _ _ hw (lv_sub hl [1, 2, 3, 0] rfl)
theorem ctX4_weigh (l : Launch) {σ : sn_S} {x1 : Int32} {x2 : Int32}  {o : sn_S} (hf : fX4_weigh σ x1 x2 = some o) : sn_M l yX4_weigh cX4_weigh 7 none rmX4_weigh layC (fun ad => [.ref (ad 57), .int x1, .int x2]) σ none o :=
  sn_met (by decide) (fun _ => Nat.le_of_ble_eq_true rfl) (fun p e s m args below meth c ls D ct ad A C hw hl => wX4_weigh_in C  hf (fun H locs ls pc hw ok hd => sn_vret C hw hd) _ _ _ hw hl)
-- X4_worth
abbrev rmX4_worth : Room := { frames := 4, cells := 0, slots := 0, locals := 99 }
def fX4_worth (σ : sn_S) (q1 : Nat) (x2 : Int32) (x3 : Int32) (x4 : Int32) : Option (Int64 × sn_S) :=
  (if x2 = 0 then
  (sn_gd (sn_in x3 6) (if (sn_I σ (59 + 10) x3.toNatClampNeg) = 0 then
  (some ((0 : Int64), σ))
  else
  (some ((1 : Int64), σ))))
  else
  (sn_gd (sn_in (2 : Int32) 11) ((fX3_reckon σ 70 q1 59 (sn_I σ (q1 + 1) (2 : Int32).toNatClampNeg)).bind fun t_3 => (if x2 = (1 : Int32) then
  (sn_gd (sn_in x3 6) (some ((sn_I t_3 (70 + 1) x3.toNatClampNeg).toInt64, t_3)))
  else
  ((fX3_firstBelow t_3 70 x4).bind fun t_6 => (if t_6 = (-1 : Int32) then
  (some ((0 : Int64), t_3))
  else
  (some ((1 : Int64), t_3))))))))
theorem wX4_worth_in (C : sn_C p s m args meth c RX4 cX4_worth 5 (some .long) D ct ad layC A) {σ : sn_S} {q1 : Nat} {x2 : Int32} {x3 : Int32} {x4 : Int32} (h1 : sn_isX2 q1) {o : (Int64 × sn_S)} (hf : fX4_worth σ q1 x2 x3 x4 = some o) (kr : sn_Kr p l e rmX4_worth s m args below meth c Q D ct ad layC A cX4_worth .lreturn (true) o.2 [.long o.1]) : sn_At p l e rmX4_worth s m args below meth c Q D ct ad layC A 5 σ 0 [(0, .ref (ad 57)), (1, .ref (ad q1)), (2, .int x2), (3, .int x3), (4, .int x4)] [] := by
  intro H locs ls hw hl
  have hx := C.1
  have hb := C.2.1
  unfold fX4_worth at hf
  refine lv_iload_n hx hb dX4_worth_0 rfl (lv_at hl 2 rfl) ?_
  refine lv_if_ne (tgt := 22) hx hb dX4_worth_1 (by decide) (fun c_1 => ?_) (fun c_1 => ?_)
  · have hf := sn_el c_1 hf
    refine lv_aload_n hx hb dX4_worth_22 rfl (lv_at hl 0 rfl) ?_
    refine sn_getC (r := 70) C hw fd_RX4_25 layC_57 rfl dX4_worth_23 ?_
    refine lv_aload_n hx hb dX4_worth_26 rfl (lv_at hl 1 rfl) ?_
    refine lv_aload_n hx hb dX4_worth_27 rfl (lv_at hl 0 rfl) ?_
    refine sn_getC (r := 59) C hw fd_RX4_18 layC_57 rfl dX4_worth_28 ?_
    refine lv_aload_n hx hb dX4_worth_31 rfl (lv_at hl 1 rfl) ?_
    refine sn_getC (r := (q1 + 1)) C hw fd_RX4_29 (sn_look h1 (k := 0) rfl) rfl dX4_worth_32 ?_
    refine lv_iconst (v := 2) hx hb dX4_worth_35 rfl ?_
    obtain ⟨g_2, hf⟩ := sn_gdE hf
    refine sn_iald C hw (sn_look h1 (k := 1) rfl) g_2 dX4_worth_36 ?_
    obtain ⟨t_3, h_4, hf⟩ := sn_bd hf
    refine sn_callVv (rest := []) C hw (ctX3_reckon l sn_isX3_70 h1 sn_isX0_59 h_4) kl_RX4_85 (sn_look sn_isX3_70 (k := 0) rfl) rfl rfl rfl rfl (Nat.le_of_ble_eq_true rfl) dX4_worth_37 hl.1 (fun H locs hw => ?_)
    refine lv_iload_n hx hb dX4_worth_40 rfl (lv_at hl 2 rfl) ?_
    refine lv_iconst (v := 1) hx hb dX4_worth_41 rfl ?_
    refine lv_icmp_ne (tgt := 56) hx hb dX4_worth_42 (by decide) (fun c_5 => ?_) (fun c_5 => ?_)
    · have hf := sn_el c_5 hf
      refine lv_aload_n hx hb dX4_worth_56 rfl (lv_at hl 0 rfl) ?_
      refine sn_getC (r := 70) C hw fd_RX4_25 layC_57 rfl dX4_worth_57 ?_
      refine lv_iload hx hb dX4_worth_60 (lv_at hl 4 rfl) ?_
      obtain ⟨t_6, h_7, hf⟩ := sn_bd hf
      refine sn_callVi (rest := []) C hw (ctX3_firstBelow l sn_isX3_70 h_7) kl_RX4_92 (sn_look sn_isX3_70 (k := 0) rfl) rfl rfl rfl rfl (Nat.le_of_ble_eq_true rfl) dX4_worth_62 hl.1 (fun H locs hw => ?_)
      refine lv_iconst (v := (-1)) hx hb dX4_worth_65 rfl ?_
      refine lv_icmp_eq (tgt := 73) hx hb dX4_worth_66 (by decide) (fun c_8 => ?_) (fun c_8 => ?_)
      · have hf := sn_if c_8 hf
        refine lv_lconst (v := 0) hx hb dX4_worth_73 rfl ?_
        cases hf
        exact kr _ _ _ _ hw rfl dX4_worth_74
      · have hf := sn_el c_8 hf
        refine lv_lconst (v := 1) hx hb dX4_worth_69 rfl ?_
        refine lv_goto (tgt := 74) hx hb dX4_worth_70 (by decide) ?_
        cases hf
        exact kr _ _ _ _ hw rfl dX4_worth_74
    · have hf := sn_if c_5 hf
      refine lv_aload_n hx hb dX4_worth_45 rfl (lv_at hl 0 rfl) ?_
      refine sn_getC (r := 70) C hw fd_RX4_25 layC_57 rfl dX4_worth_46 ?_
      refine sn_getC (r := (70 + 1)) C hw fd_RX4_89 (sn_look sn_isX3_70 (k := 0) rfl) rfl dX4_worth_49 ?_
      refine lv_iload_n hx hb dX4_worth_52 rfl (lv_at hl 3 rfl) ?_
      obtain ⟨g_9, hf⟩ := sn_gdE hf
      refine sn_iald C hw (sn_look sn_isX3_70 (k := 1) rfl) g_9 dX4_worth_53 ?_
      refine lv_i2l hx hb dX4_worth_54 rfl ?_
      cases hf
      exact kr _ _ _ _ hw rfl dX4_worth_55
  · have hf := sn_if c_1 hf
    refine lv_aload_n hx hb dX4_worth_4 rfl (lv_at hl 0 rfl) ?_
    refine sn_getC (r := 59) C hw fd_RX4_18 layC_57 rfl dX4_worth_5 ?_
    refine sn_getC (r := (59 + 10)) C hw fd_RX4_82 (sn_look sn_isX0_59 (k := 0) rfl) rfl dX4_worth_8 ?_
    refine lv_iload_n hx hb dX4_worth_11 rfl (lv_at hl 3 rfl) ?_
    obtain ⟨g_10, hf⟩ := sn_gdE hf
    refine sn_iald C hw (sn_look sn_isX0_59 (k := 10) rfl) g_10 dX4_worth_12 ?_
    refine lv_if_eq (tgt := 20) hx hb dX4_worth_13 (by decide) (fun c_11 => ?_) (fun c_11 => ?_)
    · have hf := sn_if c_11 hf
      refine lv_lconst (v := 0) hx hb dX4_worth_20 rfl ?_
      cases hf
      exact kr _ _ _ _ hw rfl dX4_worth_21
    · have hf := sn_el c_11 hf
      refine lv_lconst (v := 1) hx hb dX4_worth_16 rfl ?_
      refine lv_goto (tgt := 21) hx hb dX4_worth_17 (by decide) ?_
      cases hf
      exact kr _ _ _ _ hw rfl dX4_worth_21
theorem ctX4_worth (l : Launch) {σ : sn_S} {q1 : Nat} {x2 : Int32} {x3 : Int32} {x4 : Int32} (h1 : sn_isX2 q1) {o : (Int64 × sn_S)} (hf : fX4_worth σ q1 x2 x3 x4 = some o) : sn_M l yX4_worth cX4_worth 5 (some .long) rmX4_worth layC (fun ad => [.ref (ad 57), .ref (ad q1), .int x2, .int x3, .int x4]) σ (some (fun _ => .long o.1)) o.2 :=
  sn_met (by decide) (fun _ => Nat.le_of_ble_eq_true rfl) (fun p e s m args below meth c ls D ct ad A C hw hl => wX4_worth_in C h1 hf (fun H locs ls pc hw ok hd => sn_lret C hw hd) _ _ _ hw hl)
-- X4_lower
abbrev rmX4_lower : Room := { frames := 0, cells := 0, slots := 0, locals := 0 }
def BX4_lower_42 (σ : sn_S) (x3 : Int64) : Option (sn_S) :=
  (if (lg_cmp x3 (1 : Int64)) ≤ 0 then
  (some σ)
  else
  (sn_gd (x3 != 0) (sn_lt (sn_pL σ 57 0 ((sn_L σ 57 0) / x3)) fun σ_3 => (sn_gd (x3 != 0) (sn_lt (sn_pL σ_3 57 1 ((sn_L σ_3 57 1) / x3)) fun σ_6 => (some σ_6))))))
def BX4_lower_13 (σ : sn_S) (x1 : Int64) (x3 : Int64) (x5 : Int32) : Option ((Int64 × Int64 × Int32) ⊕ (Int64)) :=
  (if (100 : Int32) ≤ x5 then
  (some (.inr (x3)))
  else
  (if (lg_cmp x1 (0 : Int64)) = 0 then
  (some (.inr (x3)))
  else
  (sn_gd (x1 != 0) (sn_lt (x3 - x3 / x1 * x1) fun y_4 => (sn_lt (x5 + 1) fun y_6 => (some (.inl (y_4, x1, y_6))))))))
def LX4_lower_13 (σ : sn_S) (s : Int64 × Int64 × Int32) : Option ((Int64 × Int64 × Int32) ⊕ (Int64)) := BX4_lower_13 σ s.1 s.2.1 s.2.2
def fX4_lower (σ : sn_S) : Option sn_S :=
  (sn_lt (sn_L σ 57 0) fun y_1 => (sn_lt (sn_L σ 57 1) fun y_3 => ((sn_it (LX4_lower_13 σ) 5000 (y_1, y_3, (0 : Int32))).bind fun t_5 => (BX4_lower_42 σ t_5))))
theorem wX4_lower_42 (C : sn_C p s m args meth c RX4 cX4_lower 8 none D ct ad layC A) {σ : sn_S} {x3 : Int64}  {o : sn_S} (hf : BX4_lower_42 σ x3 = some o) (kr : sn_Kr p l e rmX4_lower s m args below meth c Q D ct ad layC A cX4_lower .return_ (true) o []) : sn_At p l e rmX4_lower s m args below meth c Q D ct ad layC A 8 σ 42 [(0, .ref (ad 57)), (3, .long x3)] [] := by
  intro H locs ls hw hl
  have hx := C.1
  have hb := C.2.1
  unfold BX4_lower_42 at hf
  refine lv_lload_n hx hb dX4_lower_42 rfl (lv_at hl 1 rfl) ?_
  refine lv_lconst (v := 1) hx hb dX4_lower_43 rfl ?_
  refine W.lcmp hx hb dX4_lower_44 ?_
  refine lv_if_le (tgt := 68) hx hb dX4_lower_45 (by decide) (fun c_1 => ?_) (fun c_1 => ?_)
  · have hf := sn_if c_1 hf
    cases hf
    exact kr _ _ _ _ hw rfl dX4_lower_68
  · have hf := sn_el c_1 hf
    refine lv_aload_n hx hb dX4_lower_48 rfl (lv_at hl 0 rfl) ?_
    refine lv_dup hx hb dX4_lower_49 rfl ?_
    refine sn_getL C hw fd_RX4_43 layC_57 rfl dX4_lower_50 ?_
    refine lv_lload_n hx hb dX4_lower_53 rfl (lv_at hl 1 rfl) ?_
    obtain ⟨g_2, hf⟩ := sn_gdE hf
    refine lv_ldiv hx hb dX4_lower_54 (sn_nzL g_2) ?_
    refine sn_putL C hw fp_RX4_43 layC_57 rfl dX4_lower_55 (fun H locs hw => ?_)
    obtain ⟨σ_3, e_4, hf⟩ := sn_ltE hf
    rw [← e_4] at hw
    refine lv_aload_n hx hb dX4_lower_58 rfl (lv_at hl 0 rfl) ?_
    refine lv_dup hx hb dX4_lower_59 rfl ?_
    refine sn_getL C hw fd_RX4_74 layC_57 rfl dX4_lower_60 ?_
    refine lv_lload_n hx hb dX4_lower_63 rfl (lv_at hl 1 rfl) ?_
    obtain ⟨g_5, hf⟩ := sn_gdE hf
    refine lv_ldiv hx hb dX4_lower_64 (sn_nzL g_5) ?_
    refine sn_putL C hw fp_RX4_74 layC_57 rfl dX4_lower_65 (fun H locs hw => ?_)
    obtain ⟨σ_6, e_7, hf⟩ := sn_ltE hf
    rw [← e_7] at hw
    cases hf
    exact kr _ _ _ _ hw rfl dX4_lower_68
theorem wX4_lower_13 (C : sn_C p s m args meth c RX4 cX4_lower 8 none D ct ad layC A) {σ : sn_S} {x1 : Int64} {x3 : Int64} {x5 : Int32}  {o : (Int64 × Int64 × Int32) ⊕ (Int64)} (hf : BX4_lower_13 σ x1 x3 x5 = some o) (kc : ∀ v, o = .inl v → sn_At p l e rmX4_lower s m args below meth c Q D ct ad layC A 8 σ 13 [(0, .ref (ad 57)), (1, .long v.1), (3, .long v.2.1), (5, .int v.2.2)] []) (kx : ∀ v, o = .inr v → sn_At p l e rmX4_lower s m args below meth c Q D ct ad layC A 8 σ 42 [(0, .ref (ad 57)), (3, .long v)] []) : sn_At p l e rmX4_lower s m args below meth c Q D ct ad layC A 8 σ 13 [(0, .ref (ad 57)), (1, .long x1), (3, .long x3), (5, .int x5)] [] := by
  intro H locs ls hw hl
  have hx := C.1
  have hb := C.2.1
  unfold BX4_lower_13 at hf
  refine lv_iload hx hb dX4_lower_13 (lv_at hl 3 rfl) ?_
  refine lv_bipush (v := 100) hx hb dX4_lower_15 (by decide) ?_
  refine lv_icmp_ge (tgt := 42) hx hb dX4_lower_17 (by decide) (fun c_1 => ?_) (fun c_1 => ?_)
  · have hf := sn_if c_1 hf
    cases hf
    exact kx _ rfl _ _ _ hw (lv_sub hl [0, 2] rfl)
  · have hf := sn_el c_1 hf
    refine lv_lload_n hx hb dX4_lower_20 rfl (lv_at hl 1 rfl) ?_
    refine lv_lconst (v := 0) hx hb dX4_lower_21 rfl ?_
    refine W.lcmp hx hb dX4_lower_22 ?_
    refine lv_if_eq (tgt := 42) hx hb dX4_lower_23 (by decide) (fun c_2 => ?_) (fun c_2 => ?_)
    · have hf := sn_if c_2 hf
      cases hf
      exact kx _ rfl _ _ _ hw (lv_sub hl [0, 2] rfl)
    · have hf := sn_el c_2 hf
      refine lv_lload_n hx hb dX4_lower_26 rfl (lv_at hl 2 rfl) ?_
      refine lv_lload_n hx hb dX4_lower_27 rfl (lv_at hl 1 rfl) ?_
      obtain ⟨g_3, hf⟩ := sn_gdE hf
      refine lv_lrem hx hb dX4_lower_28 (sn_nzL g_3) ?_
      obtain ⟨y_4, e_5, hf⟩ := sn_ltE hf
      refine lv_topl (fun y_4_ e_5_ => ?_)
      obtain rfl : y_4 = y_4_ := e_5.trans e_5_.symm
      refine lv_lstore (lv' := [(6, .long y_4), (0, .ref (ad 57)), (1, .long x1), (3, .long x3), (5, .int x5)]) hx hb dX4_lower_29 hl (by decide) rfl (fun ls hl => ?_)
      refine lv_lload_n hx hb dX4_lower_31 rfl (lv_at hl 2 rfl) ?_
      refine lv_lstore_n (lv' := [(3, .long x1), (6, .long y_4), (0, .ref (ad 57)), (1, .long x1), (5, .int x5)]) hx hb dX4_lower_32 rfl hl (by decide) rfl (fun ls hl => ?_)
      refine lv_lload hx hb dX4_lower_33 (lv_at hl 1 rfl) ?_
      refine lv_lstore_n (lv' := [(1, .long y_4), (3, .long x1), (6, .long y_4), (0, .ref (ad 57)), (5, .int x5)]) hx hb dX4_lower_35 rfl hl (by decide) rfl (fun ls hl => ?_)
      obtain ⟨y_6, e_7, hf⟩ := sn_ltE hf
      refine lv_iinc (v := y_6) (lv' := [(5, .int y_6), (1, .long y_4), (3, .long x1), (6, .long y_4), (0, .ref (ad 57))]) hx hb dX4_lower_36 hl (k := 4) rfl (by rw [e_7]; rfl) (by decide) rfl (fun ls hl => ?_)
      refine lv_goto (tgt := 13) hx hb dX4_lower_39 (by decide) ?_
      cases hf
      exact kc _ rfl _ _ _ hw (lv_sub hl [4, 1, 2, 0] rfl)
theorem wX4_lower_L13 (C : sn_C p s m args meth c RX4 cX4_lower 8 none D ct ad layC A) {σ : sn_S}   {z : Int64 × Int64 × Int32} {t : Int64} (h : sn_it (LX4_lower_13 σ) 5000 z = some t) (kx : ∀ v, t = v → sn_At p l e rmX4_lower s m args below meth c Q D ct ad layC A 8 σ 42 [(0, .ref (ad 57)), (3, .long v)] []) : sn_At p l e rmX4_lower s m args below meth c Q D ct ad layC A 8 σ 13 [(0, .ref (ad 57)), (1, .long z.1), (3, .long z.2.1), (5, .int z.2.2)] [] :=
  sn_loop (f := LX4_lower_13 σ) (G := fun z => sn_At p l e rmX4_lower s m args below meth c Q D ct ad layC A 8 σ 13 [(0, .ref (ad 57)), (1, .long z.1), (3, .long z.2.1), (5, .int z.2.2)] []) (E := fun t => (∀ v, t = v → sn_At p l e rmX4_lower s m args below meth c Q D ct ad layC A 8 σ 42 [(0, .ref (ad 57)), (3, .long v)] []) ∧ True) (fun z o hf k1 k2 => wX4_lower_13 C  hf (fun v e => k1 v e) (fun v e => (k2 _ e).1 v rfl)) 5000 z t h ⟨kx, trivial⟩
theorem wX4_lower_in (C : sn_C p s m args meth c RX4 cX4_lower 8 none D ct ad layC A) {σ : sn_S}  {o : sn_S} (hf : fX4_lower σ = some o) (kr : sn_Kr p l e rmX4_lower s m args below meth c Q D ct ad layC A cX4_lower .return_ (true) o []) : sn_At p l e rmX4_lower s m args below meth c Q D ct ad layC A 8 σ 0 [(0, .ref (ad 57))] [] := by
  intro H locs ls hw hl
  have hx := C.1
  have hb := C.2.1
  unfold fX4_lower at hf
  refine lv_aload_n hx hb dX4_lower_0 rfl (lv_at hl 0 rfl) ?_
  refine sn_getL C hw fd_RX4_43 layC_57 rfl dX4_lower_1 ?_
  obtain ⟨y_1, e_2, hf⟩ := sn_ltE hf
  refine lv_topl (fun y_1_ e_2_ => ?_)
  obtain rfl : y_1 = y_1_ := e_2.trans e_2_.symm
  refine lv_lstore_n (lv' := [(1, .long y_1), (0, .ref (ad 57))]) hx hb dX4_lower_4 rfl hl (by decide) rfl (fun ls hl => ?_)
  refine lv_aload_n hx hb dX4_lower_5 rfl (lv_at hl 1 rfl) ?_
  refine sn_getL C hw fd_RX4_74 layC_57 rfl dX4_lower_6 ?_
  obtain ⟨y_3, e_4, hf⟩ := sn_ltE hf
  refine lv_topl (fun y_3_ e_4_ => ?_)
  obtain rfl : y_3 = y_3_ := e_4.trans e_4_.symm
  refine lv_lstore_n (lv' := [(3, .long y_3), (1, .long y_1), (0, .ref (ad 57))]) hx hb dX4_lower_9 rfl hl (by decide) rfl (fun ls hl => ?_)
  refine lv_iconst (v := 0) hx hb dX4_lower_10 rfl ?_
  refine lv_istore (lv' := [(5, .int (0 : Int32)), (3, .long y_3), (1, .long y_1), (0, .ref (ad 57))]) hx hb dX4_lower_11 hl (by decide) rfl (fun ls hl => ?_)
  obtain ⟨t_5, h_6, hf⟩ := sn_bd hf
  exact wX4_lower_L13 C  h_6 (fun v e => by cases e; exact wX4_lower_42 C  hf kr) _ _ _ hw (lv_sub hl [3, 2, 1, 0] rfl)
theorem ctX4_lower (l : Launch) {σ : sn_S}  {o : sn_S} (hf : fX4_lower σ = some o) : sn_M l yX4_lower cX4_lower 8 none rmX4_lower layC (fun ad => [.ref (ad 57)]) σ none o :=
  sn_met (by decide) (fun _ => Nat.le_of_ble_eq_true rfl) (fun p e s m args below meth c ls D ct ad A C hw hl => wX4_lower_in C  hf (fun H locs ls pc hw ok hd => sn_vret C hw hd) _ _ _ hw hl)
-- X4_reckon
abbrev rmX4_reckon : Room := { frames := 5, cells := 0, slots := 0, locals := 123 }
def BX4_reckon_211 (σ : sn_S) (q1 : Nat) (q2 : Nat) : Option (sn_S) :=
  ((fX4_lower σ).bind fun t_1 => (some t_1))
def BX4_reckon_186 (σ : sn_S) (q1 : Nat) (q2 : Nat) (x6 : Int32) (x7 : Int32) : Option ((sn_S × Int32) ⊕ (sn_S)) :=
  (if x6 ≤ x7 then
  (some (.inr (σ)))
  else
  (sn_lt (sn_pL σ 57 1 ((sn_L σ 57 1) * (10 : Int64))) fun σ_2 => (sn_lt (x7 + 1) fun y_4 => (some (.inl (σ_2, y_4))))))
def LX4_reckon_186 (q1 : Nat) (q2 : Nat) (x6 : Int32) (s : sn_S × Int32) : Option ((sn_S × Int32) ⊕ (sn_S)) := BX4_reckon_186 s.1 q1 q2 x6 s.2
def BX4_reckon_178 (σ : sn_S) (q1 : Nat) (q2 : Nat) (x6 : Int32) : Option (sn_S) :=
  (sn_lt (sn_pL σ 57 1 (1 : Int64)) fun σ_1 => ((sn_it (LX4_reckon_186 q1 q2 x6) 5000 (σ_1, (0 : Int32))).bind fun t_3 => (BX4_reckon_211 t_3 q1 q2)))
def BX4_reckon_139 (σ : sn_S) (q1 : Nat) (q2 : Nat) (x3 : Int32) (x4 : Int32) (x6 : Int32) (x7 : Int32) (t1 : Int32) (t2 : Int32) : Option ((sn_S × Int32) ⊕ (sn_S)) :=
  ((fX0_live σ 59 t1 t2).bind fun t_1 => ((fJ6_bitCount_0f7a4 x7).bind fun t_3 => (sn_gd (sn_in t_3 9) ((fX4_worth t_1 q1 x3 x4 x6).bind fun t_6 => (sn_lt (sn_pL t_6.2 57 0 ((sn_L t_1 57 0) + ((sn_L t_1 58 t_3.toNatClampNeg) * t_6.1))) fun σ_8 => (sn_lt (x7 + 1) fun y_10 => (some (.inl (σ_8, y_10)))))))))
def BX4_reckon_119 (σ : sn_S) (q1 : Nat) (q2 : Nat) (x3 : Int32) (x4 : Int32) (x6 : Int32) (x7 : Int32) (x8 : Int32) : Option ((sn_S × Int32) ⊕ (sn_S)) :=
  (if x3 = (2 : Int32) then
  (BX4_reckon_139 σ q1 q2 x3 x4 x6 x7 x8 (sn_I σ q2 0))
  else
  (BX4_reckon_139 σ q1 q2 x3 x4 x6 x7 x8 x6))
def BX4_reckon_111 (σ : sn_S) (q1 : Nat) (q2 : Nat) (x3 : Int32) (x4 : Int32) (x6 : Int32) (x7 : Int32) (x8 : Int32) (x9 : Int32) (t1 : Int32) (t2 : Int32) (t3 : Int32) : Option ((sn_S × Int32) ⊕ (sn_S)) :=
  (sn_gd (sn_in t1 30) (sn_lt (sn_pI σ (59 + 1) t1.toNatClampNeg (t2 + t3)) fun σ_2 => (sn_lt (x9 + 1) fun y_4 => (some (.inl (σ_2, y_4))))))
def BX4_reckon_68 (σ : sn_S) (q1 : Nat) (q2 : Nat) (x3 : Int32) (x4 : Int32) (x6 : Int32) (x7 : Int32) (x8 : Int32) (x9 : Int32) : Option ((sn_S × Int32) ⊕ (sn_S)) :=
  (if x6 ≤ x9 then
  (some (.inr (σ)))
  else
  (sn_gd (sn_in x9 30) ((fX8_hasBit x7 ((x6 - (1 : Int32)) - x9)).bind fun t_3 => (if t_3 = 0 then
  (BX4_reckon_111 σ q1 q2 x3 x4 x6 x7 x8 x9 x9 (sn_I σ (q2 + 1) x9.toNatClampNeg) (0 : Int32))
  else
  (BX4_reckon_111 σ q1 q2 x3 x4 x6 x7 x8 x9 x9 (sn_I σ (q2 + 1) x9.toNatClampNeg) (3 : Int32))))))
def LX4_reckon_68 (q1 : Nat) (q2 : Nat) (x3 : Int32) (x4 : Int32) (x6 : Int32) (x7 : Int32) (x8 : Int32) (s : sn_S × Int32) : Option ((sn_S × Int32) ⊕ (sn_S)) := BX4_reckon_68 s.1 q1 q2 x3 x4 x6 x7 x8 s.2
def BX4_reckon_62 (σ : sn_S) (q1 : Nat) (q2 : Nat) (x3 : Int32) (x4 : Int32) (x6 : Int32) (x7 : Int32) (t0 : Int32) : Option ((sn_S × Int32) ⊕ (sn_S)) :=
  ((sn_it (LX4_reckon_68 q1 q2 x3 x4 x6 x7 t0) 5000 (σ, t0)).bind fun t_1 => (BX4_reckon_119 t_1 q1 q2 x3 x4 x6 x7 t0))
def BX4_reckon_34 (σ : sn_S) (q1 : Nat) (q2 : Nat) (x3 : Int32) (x4 : Int32) (x6 : Int32) (x7 : Int32) : Option ((sn_S × Int32) ⊕ (sn_S)) :=
  (if ((1 : Int32) <<< (x6 &&& 31)) ≤ x7 then
  (some (.inr (σ)))
  else
  (if x7 = 0 then
  (BX4_reckon_62 σ q1 q2 x3 x4 x6 x7 (0 : Int32))
  else
  ((fX8_lowestBit x7).bind fun t_3 => (BX4_reckon_62 σ q1 q2 x3 x4 x6 x7 ((x6 - (1 : Int32)) - t_3)))))
def LX4_reckon_34 (q1 : Nat) (q2 : Nat) (x3 : Int32) (x4 : Int32) (x6 : Int32) (s : sn_S × Int32) : Option ((sn_S × Int32) ⊕ (sn_S)) := BX4_reckon_34 s.1 q1 q2 x3 x4 x6 s.2
def fX4_reckon (σ : sn_S) (q1 : Nat) (q2 : Nat) (x3 : Int32) (x4 : Int32) (x5 : Int32) : Option sn_S :=
  (sn_lt (x5 + (1 : Int32)) fun y_1 => (sn_gd (sn_in (4 : Int32) 11) ((fX4_weigh σ y_1 (sn_I σ (q1 + 1) (4 : Int32).toNatClampNeg)).bind fun t_4 => ((fX0_copyFrom t_4 59 q2).bind fun t_6 => (sn_lt (sn_pL t_6 57 0 (0 : Int64)) fun σ_8 => ((sn_it (LX4_reckon_34 q1 q2 x3 x4 y_1) 5000 (σ_8, (0 : Int32))).bind fun t_10 => (BX4_reckon_178 t_10 q1 q2 y_1)))))))
theorem wX4_reckon_211 (C : sn_C p s m args meth c RX4 cX4_reckon 10 none D ct ad layC A) {σ : sn_S} {q1 : Nat} {q2 : Nat} (h1 : sn_isX2 q1) (h2 : sn_isX0 q2) {o : sn_S} (hf : BX4_reckon_211 σ q1 q2 = some o) (kr : sn_Kr p l e rmX4_reckon s m args below meth c Q D ct ad layC A cX4_reckon .return_ (true) o []) : sn_At p l e rmX4_reckon s m args below meth c Q D ct ad layC A 10 σ 211 [(0, .ref (ad 57))] [] := by
  intro H locs ls hw hl
  have hx := C.1
  have hb := C.2.1
  unfold BX4_reckon_211 at hf
  refine lv_aload_n hx hb dX4_reckon_211 rfl (lv_at hl 0 rfl) ?_
  obtain ⟨t_1, h_2, hf⟩ := sn_bd hf
  refine sn_callVv (rest := []) C hw (ctX4_lower l  h_2) kl_RX4_79 layC_57 rfl rfl rfl rfl (Nat.le_of_ble_eq_true rfl) dX4_reckon_212 hl.1 (fun H locs hw => ?_)
  cases hf
  exact kr _ _ _ _ hw rfl dX4_reckon_215
theorem wX4_reckon_186 (C : sn_C p s m args meth c RX4 cX4_reckon 10 none D ct ad layC A) {σ : sn_S} {q1 : Nat} {q2 : Nat} {x6 : Int32} {x7 : Int32} (h1 : sn_isX2 q1) (h2 : sn_isX0 q2) {o : (sn_S × Int32) ⊕ (sn_S)} (hf : BX4_reckon_186 σ q1 q2 x6 x7 = some o) (kc : ∀ v, o = .inl v → sn_At p l e rmX4_reckon s m args below meth c Q D ct ad layC A 10 v.1 186 [(0, .ref (ad 57)), (6, .int x6), (7, .int v.2)] []) (kx : ∀ v, o = .inr v → sn_At p l e rmX4_reckon s m args below meth c Q D ct ad layC A 10 v 211 [(0, .ref (ad 57))] []) : sn_At p l e rmX4_reckon s m args below meth c Q D ct ad layC A 10 σ 186 [(0, .ref (ad 57)), (6, .int x6), (7, .int x7)] [] := by
  intro H locs ls hw hl
  have hx := C.1
  have hb := C.2.1
  unfold BX4_reckon_186 at hf
  refine lv_iload hx hb dX4_reckon_186 (lv_at hl 2 rfl) ?_
  refine lv_iload hx hb dX4_reckon_188 (lv_at hl 1 rfl) ?_
  refine lv_icmp_ge (tgt := 211) hx hb dX4_reckon_190 (by decide) (fun c_1 => ?_) (fun c_1 => ?_)
  · have hf := sn_if c_1 hf
    cases hf
    exact kx _ rfl _ _ _ hw (lv_sub hl [0] rfl)
  · have hf := sn_el c_1 hf
    refine lv_aload_n hx hb dX4_reckon_193 rfl (lv_at hl 0 rfl) ?_
    refine lv_dup hx hb dX4_reckon_194 rfl ?_
    refine sn_getL C hw fd_RX4_74 layC_57 rfl dX4_reckon_195 ?_
    refine lv_ldc2 hx hb C.2.2.2.1 (C.2.2.2.2.1 _ kk_RX4_77) dX4_reckon_198 ?_
    refine lv_lmul hx hb dX4_reckon_201 ?_
    refine sn_putL C hw fp_RX4_74 layC_57 rfl dX4_reckon_202 (fun H locs hw => ?_)
    obtain ⟨σ_2, e_3, hf⟩ := sn_ltE hf
    rw [← e_3] at hw
    obtain ⟨y_4, e_5, hf⟩ := sn_ltE hf
    refine lv_iinc (v := y_4) (lv' := [(7, .int y_4), (0, .ref (ad 57)), (6, .int x6)]) hx hb dX4_reckon_205 hl (k := 2) rfl (by rw [e_5]; rfl) (by decide) rfl (fun ls hl => ?_)
    refine lv_goto (tgt := 186) hx hb dX4_reckon_208 (by decide) ?_
    cases hf
    exact kc _ rfl _ _ _ hw (lv_sub hl [1, 2, 0] rfl)
theorem wX4_reckon_L186 (C : sn_C p s m args meth c RX4 cX4_reckon 10 none D ct ad layC A) {q1 : Nat} {q2 : Nat} {x6 : Int32}  (h1 : sn_isX2 q1) (h2 : sn_isX0 q2) {z : sn_S × Int32} {t : sn_S} (h : sn_it (LX4_reckon_186 q1 q2 x6) 5000 z = some t) (kx : ∀ v, t = v → sn_At p l e rmX4_reckon s m args below meth c Q D ct ad layC A 10 v 211 [(0, .ref (ad 57))] []) : sn_At p l e rmX4_reckon s m args below meth c Q D ct ad layC A 10 z.1 186 [(0, .ref (ad 57)), (6, .int x6), (7, .int z.2)] [] :=
  sn_loop (f := LX4_reckon_186 q1 q2 x6) (G := fun z => sn_At p l e rmX4_reckon s m args below meth c Q D ct ad layC A 10 z.1 186 [(0, .ref (ad 57)), (6, .int x6), (7, .int z.2)] []) (E := fun t => (∀ v, t = v → sn_At p l e rmX4_reckon s m args below meth c Q D ct ad layC A 10 v 211 [(0, .ref (ad 57))] []) ∧ True) (fun z o hf k1 k2 => wX4_reckon_186 C h1 h2 hf (fun v e => k1 v e) (fun v e => (k2 _ e).1 v rfl)) 5000 z t h ⟨kx, trivial⟩
theorem wX4_reckon_178 (C : sn_C p s m args meth c RX4 cX4_reckon 10 none D ct ad layC A) {σ : sn_S} {q1 : Nat} {q2 : Nat} {x6 : Int32} (h1 : sn_isX2 q1) (h2 : sn_isX0 q2) {o : sn_S} (hf : BX4_reckon_178 σ q1 q2 x6 = some o) (kr : sn_Kr p l e rmX4_reckon s m args below meth c Q D ct ad layC A cX4_reckon .return_ (true) o []) : sn_At p l e rmX4_reckon s m args below meth c Q D ct ad layC A 10 σ 178 [(0, .ref (ad 57)), (6, .int x6)] [] := by
  intro H locs ls hw hl
  have hx := C.1
  have hb := C.2.1
  unfold BX4_reckon_178 at hf
  refine lv_aload_n hx hb dX4_reckon_178 rfl (lv_at hl 0 rfl) ?_
  refine lv_lconst (v := 1) hx hb dX4_reckon_179 rfl ?_
  refine sn_putL C hw fp_RX4_74 layC_57 rfl dX4_reckon_180 (fun H locs hw => ?_)
  obtain ⟨σ_1, e_2, hf⟩ := sn_ltE hf
  rw [← e_2] at hw
  refine lv_iconst (v := 0) hx hb dX4_reckon_183 rfl ?_
  refine lv_istore (lv' := [(7, .int (0 : Int32)), (0, .ref (ad 57)), (6, .int x6)]) hx hb dX4_reckon_184 hl (by decide) rfl (fun ls hl => ?_)
  obtain ⟨t_3, h_4, hf⟩ := sn_bd hf
  exact wX4_reckon_L186 C h1 h2 h_4 (fun v e => by cases e; exact wX4_reckon_211 C h1 h2 hf kr) _ _ _ hw (lv_sub hl [1, 2, 0] rfl)
theorem wX4_reckon_139 (C : sn_C p s m args meth c RX4 cX4_reckon 10 none D ct ad layC A) {σ : sn_S} {q1 : Nat} {q2 : Nat} {x3 : Int32} {x4 : Int32} {x6 : Int32} {x7 : Int32} {t1 : Int32} {t2 : Int32} (h1 : sn_isX2 q1) (h2 : sn_isX0 q2) {o : (sn_S × Int32) ⊕ (sn_S)} (hf : BX4_reckon_139 σ q1 q2 x3 x4 x6 x7 t1 t2 = some o) (kc : ∀ v, o = .inl v → sn_At p l e rmX4_reckon s m args below meth c Q D ct ad layC A 10 v.1 34 [(0, .ref (ad 57)), (1, .ref (ad q1)), (2, .ref (ad q2)), (3, .int x3), (4, .int x4), (6, .int x6), (7, .int v.2)] []) (kx : ∀ v, o = .inr v → sn_At p l e rmX4_reckon s m args below meth c Q D ct ad layC A 10 v 178 [(0, .ref (ad 57)), (6, .int x6)] []) : sn_At p l e rmX4_reckon s m args below meth c Q D ct ad layC A 10 σ 139 [(0, .ref (ad 57)), (1, .ref (ad q1)), (2, .ref (ad q2)), (3, .int x3), (4, .int x4), (6, .int x6), (7, .int x7)] [.int t2, .int t1, .ref (ad 59)] := by
  intro H locs ls hw hl
  have hx := C.1
  have hb := C.2.1
  unfold BX4_reckon_139 at hf
  obtain ⟨t_1, h_2, hf⟩ := sn_bd hf
  refine sn_callVv (rest := []) C hw (ctX0_live l sn_isX0_59 h_2) kl_RX4_62 (sn_look sn_isX0_59 (k := 0) rfl) rfl rfl rfl rfl (Nat.le_of_ble_eq_true rfl) dX4_reckon_139 hl.1 (fun H locs hw => ?_)
  refine lv_aload_n hx hb dX4_reckon_142 rfl (lv_at hl 0 rfl) ?_
  refine lv_dup hx hb dX4_reckon_143 rfl ?_
  refine sn_getL C hw fd_RX4_43 layC_57 rfl dX4_reckon_144 ?_
  refine lv_aload_n hx hb dX4_reckon_147 rfl (lv_at hl 0 rfl) ?_
  refine sn_getC (r := 58) C hw fd_RX4_9 layC_57 rfl dX4_reckon_148 ?_
  refine lv_iload hx hb dX4_reckon_151 (lv_at hl 6 rfl) ?_
  obtain ⟨t_3, h_4, hf⟩ := sn_bd hf
  refine sn_callSi (rest := [.ref (ad 58), .long (sn_L t_1 57 0), .ref (ad 57)]) C hw (ctJ6_bitCount_0f7a4 l  h_4) kl_RX4_65 rfl rfl rfl (Nat.le_of_ble_eq_true rfl) dX4_reckon_153 hl.1 (fun H locs hw => ?_)
  obtain ⟨g_5, hf⟩ := sn_gdE hf
  refine sn_lald C hw layC_58 g_5 dX4_reckon_156 ?_
  refine lv_aload_n hx hb dX4_reckon_157 rfl (lv_at hl 0 rfl) ?_
  refine lv_aload_n hx hb dX4_reckon_158 rfl (lv_at hl 1 rfl) ?_
  refine lv_iload_n hx hb dX4_reckon_159 rfl (lv_at hl 3 rfl) ?_
  refine lv_iload hx hb dX4_reckon_160 (lv_at hl 4 rfl) ?_
  refine lv_iload hx hb dX4_reckon_162 (lv_at hl 5 rfl) ?_
  obtain ⟨t_6, h_7, hf⟩ := sn_bd hf
  refine sn_callVl (rest := [.long (sn_L t_1 58 t_3.toNatClampNeg), .long (sn_L t_1 57 0), .ref (ad 57)]) C hw (ctX4_worth l h1 h_7) kl_RX4_70 layC_57 rfl rfl rfl rfl (Nat.le_of_ble_eq_true rfl) dX4_reckon_164 hl.1 (fun H locs hw => ?_)
  refine lv_lmul hx hb dX4_reckon_167 ?_
  refine lv_ladd hx hb dX4_reckon_168 ?_
  refine sn_putL C hw fp_RX4_43 layC_57 rfl dX4_reckon_169 (fun H locs hw => ?_)
  obtain ⟨σ_8, e_9, hf⟩ := sn_ltE hf
  rw [← e_9] at hw
  obtain ⟨y_10, e_11, hf⟩ := sn_ltE hf
  refine lv_iinc (v := y_10) (lv' := [(7, .int y_10), (0, .ref (ad 57)), (1, .ref (ad q1)), (2, .ref (ad q2)), (3, .int x3), (4, .int x4), (6, .int x6)]) hx hb dX4_reckon_172 hl (k := 6) rfl (by rw [e_11]; rfl) (by decide) rfl (fun ls hl => ?_)
  refine lv_goto (tgt := 34) hx hb dX4_reckon_175 (by decide) ?_
  cases hf
  exact kc _ rfl _ _ _ hw (lv_sub hl [1, 2, 3, 4, 5, 6, 0] rfl)
theorem wX4_reckon_119 (C : sn_C p s m args meth c RX4 cX4_reckon 10 none D ct ad layC A) {σ : sn_S} {q1 : Nat} {q2 : Nat} {x3 : Int32} {x4 : Int32} {x6 : Int32} {x7 : Int32} {x8 : Int32} (h1 : sn_isX2 q1) (h2 : sn_isX0 q2) {o : (sn_S × Int32) ⊕ (sn_S)} (hf : BX4_reckon_119 σ q1 q2 x3 x4 x6 x7 x8 = some o) (kc : ∀ v, o = .inl v → sn_At p l e rmX4_reckon s m args below meth c Q D ct ad layC A 10 v.1 34 [(0, .ref (ad 57)), (1, .ref (ad q1)), (2, .ref (ad q2)), (3, .int x3), (4, .int x4), (6, .int x6), (7, .int v.2)] []) (kx : ∀ v, o = .inr v → sn_At p l e rmX4_reckon s m args below meth c Q D ct ad layC A 10 v 178 [(0, .ref (ad 57)), (6, .int x6)] []) : sn_At p l e rmX4_reckon s m args below meth c Q D ct ad layC A 10 σ 119 [(0, .ref (ad 57)), (1, .ref (ad q1)), (2, .ref (ad q2)), (3, .int x3), (4, .int x4), (6, .int x6), (7, .int x7), (8, .int x8)] [] := by
  intro H locs ls hw hl
  have hx := C.1
  have hb := C.2.1
  unfold BX4_reckon_119 at hf
  refine lv_aload_n hx hb dX4_reckon_119 rfl (lv_at hl 0 rfl) ?_
  refine sn_getC (r := 59) C hw fd_RX4_18 layC_57 rfl dX4_reckon_120 ?_
  refine lv_iload hx hb dX4_reckon_123 (lv_at hl 7 rfl) ?_
  refine lv_iload_n hx hb dX4_reckon_125 rfl (lv_at hl 3 rfl) ?_
  refine lv_iconst (v := 2) hx hb dX4_reckon_126 rfl ?_
  refine lv_icmp_ne (tgt := 137) hx hb dX4_reckon_127 (by decide) (fun c_1 => ?_) (fun c_1 => ?_)
  · have hf := sn_el c_1 hf
    refine lv_iload hx hb dX4_reckon_137 (lv_at hl 5 rfl) ?_
    exact wX4_reckon_139 C h1 h2 hf kc kx _ _ _ hw (lv_sub hl [0, 1, 2, 3, 4, 5, 6] rfl)
  · have hf := sn_if c_1 hf
    refine lv_aload_n hx hb dX4_reckon_130 rfl (lv_at hl 2 rfl) ?_
    refine sn_getI C hw fd_RX4_58 (sn_look h2 (k := 0) rfl) rfl dX4_reckon_131 ?_
    refine lv_goto (tgt := 139) hx hb dX4_reckon_134 (by decide) ?_
    exact wX4_reckon_139 C h1 h2 hf kc kx _ _ _ hw (lv_sub hl [0, 1, 2, 3, 4, 5, 6] rfl)
theorem wX4_reckon_111 (C : sn_C p s m args meth c RX4 cX4_reckon 10 none D ct ad layC A) {σ : sn_S} {q1 : Nat} {q2 : Nat} {x3 : Int32} {x4 : Int32} {x6 : Int32} {x7 : Int32} {x8 : Int32} {x9 : Int32} {t1 : Int32} {t2 : Int32} {t3 : Int32} (h1 : sn_isX2 q1) (h2 : sn_isX0 q2) {o : (sn_S × Int32) ⊕ (sn_S)} (hf : BX4_reckon_111 σ q1 q2 x3 x4 x6 x7 x8 x9 t1 t2 t3 = some o) (kc : ∀ v, o = .inl v → sn_At p l e rmX4_reckon s m args below meth c Q D ct ad layC A 10 v.1 68 [(0, .ref (ad 57)), (1, .ref (ad q1)), (2, .ref (ad q2)), (3, .int x3), (4, .int x4), (6, .int x6), (7, .int x7), (8, .int x8), (9, .int v.2)] []) (kx : ∀ v, o = .inr v → sn_At p l e rmX4_reckon s m args below meth c Q D ct ad layC A 10 v 119 [(0, .ref (ad 57)), (1, .ref (ad q1)), (2, .ref (ad q2)), (3, .int x3), (4, .int x4), (6, .int x6), (7, .int x7), (8, .int x8)] []) : sn_At p l e rmX4_reckon s m args below meth c Q D ct ad layC A 10 σ 111 [(0, .ref (ad 57)), (1, .ref (ad q1)), (2, .ref (ad q2)), (3, .int x3), (4, .int x4), (6, .int x6), (7, .int x7), (8, .int x8), (9, .int x9)] [.int t3, .int t2, .int t1, .ref (ad (59 + 1))] := by
  intro H locs ls hw hl
  have hx := C.1
  have hb := C.2.1
  unfold BX4_reckon_111 at hf
  refine lv_iadd hx hb dX4_reckon_111 ?_
  obtain ⟨g_1, hf⟩ := sn_gdE hf
  refine sn_iast C hw (sn_look sn_isX0_59 (k := 1) rfl) g_1 dX4_reckon_112 (fun H locs hw => ?_)
  obtain ⟨σ_2, e_3, hf⟩ := sn_ltE hf
  rw [← e_3] at hw
  obtain ⟨y_4, e_5, hf⟩ := sn_ltE hf
  refine lv_iinc (v := y_4) (lv' := [(9, .int y_4), (0, .ref (ad 57)), (1, .ref (ad q1)), (2, .ref (ad q2)), (3, .int x3), (4, .int x4), (6, .int x6), (7, .int x7), (8, .int x8)]) hx hb dX4_reckon_113 hl (k := 8) rfl (by rw [e_5]; rfl) (by decide) rfl (fun ls hl => ?_)
  refine lv_goto (tgt := 68) hx hb dX4_reckon_116 (by decide) ?_
  cases hf
  exact kc _ rfl _ _ _ hw (lv_sub hl [1, 2, 3, 4, 5, 6, 7, 8, 0] rfl)
theorem wX4_reckon_68 (C : sn_C p s m args meth c RX4 cX4_reckon 10 none D ct ad layC A) {σ : sn_S} {q1 : Nat} {q2 : Nat} {x3 : Int32} {x4 : Int32} {x6 : Int32} {x7 : Int32} {x8 : Int32} {x9 : Int32} (h1 : sn_isX2 q1) (h2 : sn_isX0 q2) {o : (sn_S × Int32) ⊕ (sn_S)} (hf : BX4_reckon_68 σ q1 q2 x3 x4 x6 x7 x8 x9 = some o) (kc : ∀ v, o = .inl v → sn_At p l e rmX4_reckon s m args below meth c Q D ct ad layC A 10 v.1 68 [(0, .ref (ad 57)), (1, .ref (ad q1)), (2, .ref (ad q2)), (3, .int x3), (4, .int x4), (6, .int x6), (7, .int x7), (8, .int x8), (9, .int v.2)] []) (kx : ∀ v, o = .inr v → sn_At p l e rmX4_reckon s m args below meth c Q D ct ad layC A 10 v 119 [(0, .ref (ad 57)), (1, .ref (ad q1)), (2, .ref (ad q2)), (3, .int x3), (4, .int x4), (6, .int x6), (7, .int x7), (8, .int x8)] []) : sn_At p l e rmX4_reckon s m args below meth c Q D ct ad layC A 10 σ 68 [(0, .ref (ad 57)), (1, .ref (ad q1)), (2, .ref (ad q2)), (3, .int x3), (4, .int x4), (6, .int x6), (7, .int x7), (8, .int x8), (9, .int x9)] [] := by
  intro H locs ls hw hl
  have hx := C.1
  have hb := C.2.1
  unfold BX4_reckon_68 at hf
  refine lv_iload hx hb dX4_reckon_68 (lv_at hl 8 rfl) ?_
  refine lv_iload hx hb dX4_reckon_70 (lv_at hl 5 rfl) ?_
  refine lv_icmp_ge (tgt := 119) hx hb dX4_reckon_72 (by decide) (fun c_1 => ?_) (fun c_1 => ?_)
  · have hf := sn_if c_1 hf
    cases hf
    exact kx _ rfl _ _ _ hw (lv_sub hl [0, 1, 2, 3, 4, 5, 6, 7] rfl)
  · have hf := sn_el c_1 hf
    refine lv_aload_n hx hb dX4_reckon_75 rfl (lv_at hl 0 rfl) ?_
    refine sn_getC (r := 59) C hw fd_RX4_18 layC_57 rfl dX4_reckon_76 ?_
    refine sn_getC (r := (59 + 1)) C hw fd_RX4_51 (sn_look sn_isX0_59 (k := 0) rfl) rfl dX4_reckon_79 ?_
    refine lv_iload hx hb dX4_reckon_82 (lv_at hl 8 rfl) ?_
    refine lv_aload_n hx hb dX4_reckon_84 rfl (lv_at hl 2 rfl) ?_
    refine sn_getC (r := (q2 + 1)) C hw fd_RX4_51 (sn_look h2 (k := 0) rfl) rfl dX4_reckon_85 ?_
    refine lv_iload hx hb dX4_reckon_88 (lv_at hl 8 rfl) ?_
    obtain ⟨g_2, hf⟩ := sn_gdE hf
    refine sn_iald C hw (sn_look h2 (k := 1) rfl) g_2 dX4_reckon_90 ?_
    refine lv_iload hx hb dX4_reckon_91 (lv_at hl 6 rfl) ?_
    refine lv_iload hx hb dX4_reckon_93 (lv_at hl 5 rfl) ?_
    refine lv_iconst (v := 1) hx hb dX4_reckon_95 rfl ?_
    refine lv_isub hx hb dX4_reckon_96 ?_
    refine lv_iload hx hb dX4_reckon_97 (lv_at hl 8 rfl) ?_
    refine lv_isub hx hb dX4_reckon_99 ?_
    obtain ⟨t_3, h_4, hf⟩ := sn_bd hf
    refine sn_callNi (rest := [.int (sn_I σ (q2 + 1) x9.toNatClampNeg), .int x9, .ref (ad (59 + 1))]) C hw (ctX8_hasBit l  h_4) kl_RX4_54 rfl rfl rfl (Nat.le_of_ble_eq_true rfl) dX4_reckon_100 hl.1 (fun H locs hw => ?_)
    refine lv_if_eq (tgt := 110) hx hb dX4_reckon_103 (by decide) (fun c_5 => ?_) (fun c_5 => ?_)
    · have hf := sn_if c_5 hf
      refine lv_iconst (v := 0) hx hb dX4_reckon_110 rfl ?_
      exact wX4_reckon_111 C h1 h2 hf kc kx _ _ _ hw (lv_sub hl [0, 1, 2, 3, 4, 5, 6, 7, 8] rfl)
    · have hf := sn_el c_5 hf
      refine lv_iconst (v := 3) hx hb dX4_reckon_106 rfl ?_
      refine lv_goto (tgt := 111) hx hb dX4_reckon_107 (by decide) ?_
      exact wX4_reckon_111 C h1 h2 hf kc kx _ _ _ hw (lv_sub hl [0, 1, 2, 3, 4, 5, 6, 7, 8] rfl)
theorem wX4_reckon_L68 (C : sn_C p s m args meth c RX4 cX4_reckon 10 none D ct ad layC A) {q1 : Nat} {q2 : Nat} {x3 : Int32} {x4 : Int32} {x6 : Int32} {x7 : Int32} {x8 : Int32}  (h1 : sn_isX2 q1) (h2 : sn_isX0 q2) {z : sn_S × Int32} {t : sn_S} (h : sn_it (LX4_reckon_68 q1 q2 x3 x4 x6 x7 x8) 5000 z = some t) (kx : ∀ v, t = v → sn_At p l e rmX4_reckon s m args below meth c Q D ct ad layC A 10 v 119 [(0, .ref (ad 57)), (1, .ref (ad q1)), (2, .ref (ad q2)), (3, .int x3), (4, .int x4), (6, .int x6), (7, .int x7), (8, .int x8)] []) : sn_At p l e rmX4_reckon s m args below meth c Q D ct ad layC A 10 z.1 68 [(0, .ref (ad 57)), (1, .ref (ad q1)), (2, .ref (ad q2)), (3, .int x3), (4, .int x4), (6, .int x6), (7, .int x7), (8, .int x8), (9, .int z.2)] [] :=
  sn_loop (f := LX4_reckon_68 q1 q2 x3 x4 x6 x7 x8) (G := fun z => sn_At p l e rmX4_reckon s m args below meth c Q D ct ad layC A 10 z.1 68 [(0, .ref (ad 57)), (1, .ref (ad q1)), (2, .ref (ad q2)), (3, .int x3), (4, .int x4), (6, .int x6), (7, .int x7), (8, .int x8), (9, .int z.2)] []) (E := fun t => (∀ v, t = v → sn_At p l e rmX4_reckon s m args below meth c Q D ct ad layC A 10 v 119 [(0, .ref (ad 57)), (1, .ref (ad q1)), (2, .ref (ad q2)), (3, .int x3), (4, .int x4), (6, .int x6), (7, .int x7), (8, .int x8)] []) ∧ True) (fun z o hf k1 k2 => wX4_reckon_68 C h1 h2 hf (fun v e => k1 v e) (fun v e => (k2 _ e).1 v rfl)) 5000 z t h ⟨kx, trivial⟩
theorem wX4_reckon_62 (C : sn_C p s m args meth c RX4 cX4_reckon 10 none D ct ad layC A) {σ : sn_S} {q1 : Nat} {q2 : Nat} {x3 : Int32} {x4 : Int32} {x6 : Int32} {x7 : Int32} {t0 : Int32} (h1 : sn_isX2 q1) (h2 : sn_isX0 q2) {o : (sn_S × Int32) ⊕ (sn_S)} (hf : BX4_reckon_62 σ q1 q2 x3 x4 x6 x7 t0 = some o) (kc : ∀ v, o = .inl v → sn_At p l e rmX4_reckon s m args below meth c Q D ct ad layC A 10 v.1 34 [(0, .ref (ad 57)), (1, .ref (ad q1)), (2, .ref (ad q2)), (3, .int x3), (4, .int x4), (6, .int x6), (7, .int v.2)] []) (kx : ∀ v, o = .inr v → sn_At p l e rmX4_reckon s m args below meth c Q D ct ad layC A 10 v 178 [(0, .ref (ad 57)), (6, .int x6)] []) : sn_At p l e rmX4_reckon s m args below meth c Q D ct ad layC A 10 σ 62 [(0, .ref (ad 57)), (1, .ref (ad q1)), (2, .ref (ad q2)), (3, .int x3), (4, .int x4), (6, .int x6), (7, .int x7)] [.int t0] := by
  intro H locs ls hw hl
  have hx := C.1
  have hb := C.2.1
  unfold BX4_reckon_62 at hf
  refine lv_istore (lv' := [(8, .int t0), (0, .ref (ad 57)), (1, .ref (ad q1)), (2, .ref (ad q2)), (3, .int x3), (4, .int x4), (6, .int x6), (7, .int x7)]) hx hb dX4_reckon_62 hl (by decide) rfl (fun ls hl => ?_)
  refine lv_iload hx hb dX4_reckon_64 (lv_at hl 0 rfl) ?_
  refine lv_istore (lv' := [(9, .int t0), (8, .int t0), (0, .ref (ad 57)), (1, .ref (ad q1)), (2, .ref (ad q2)), (3, .int x3), (4, .int x4), (6, .int x6), (7, .int x7)]) hx hb dX4_reckon_66 hl (by decide) rfl (fun ls hl => ?_)
  obtain ⟨t_1, h_2, hf⟩ := sn_bd hf
  exact wX4_reckon_L68 C h1 h2 h_2 (fun v e => by cases e; exact wX4_reckon_119 C h1 h2 hf kc kx) _ _ _ hw (lv_sub hl [2, 3, 4, 5, 6, 7, 8, 1, 0] rfl)
theorem wX4_reckon_34 (C : sn_C p s m args meth c RX4 cX4_reckon 10 none D ct ad layC A) {σ : sn_S} {q1 : Nat} {q2 : Nat} {x3 : Int32} {x4 : Int32} {x6 : Int32} {x7 : Int32} (h1 : sn_isX2 q1) (h2 : sn_isX0 q2) {o : (sn_S × Int32) ⊕ (sn_S)} (hf : BX4_reckon_34 σ q1 q2 x3 x4 x6 x7 = some o) (kc : ∀ v, o = .inl v → sn_At p l e rmX4_reckon s m args below meth c Q D ct ad layC A 10 v.1 34 [(0, .ref (ad 57)), (1, .ref (ad q1)), (2, .ref (ad q2)), (3, .int x3), (4, .int x4), (6, .int x6), (7, .int v.2)] []) (kx : ∀ v, o = .inr v → sn_At p l e rmX4_reckon s m args below meth c Q D ct ad layC A 10 v 178 [(0, .ref (ad 57)), (6, .int x6)] []) : sn_At p l e rmX4_reckon s m args below meth c Q D ct ad layC A 10 σ 34 [(0, .ref (ad 57)), (1, .ref (ad q1)), (2, .ref (ad q2)), (3, .int x3), (4, .int x4), (6, .int x6), (7, .int x7)] [] := by
  intro H locs ls hw hl
  have hx := C.1
  have hb := C.2.1
  unfold BX4_reckon_34 at hf
  refine lv_iload hx hb dX4_reckon_34 (lv_at hl 6 rfl) ?_
  refine lv_iconst (v := 1) hx hb dX4_reckon_36 rfl ?_
  refine lv_iload hx hb dX4_reckon_37 (lv_at hl 5 rfl) ?_
  refine lv_ishl hx hb dX4_reckon_39 ?_
  refine lv_icmp_ge (tgt := 178) hx hb dX4_reckon_40 (by decide) (fun c_1 => ?_) (fun c_1 => ?_)
  · have hf := sn_if c_1 hf
    cases hf
    exact kx _ rfl _ _ _ hw (lv_sub hl [0, 5] rfl)
  · have hf := sn_el c_1 hf
    refine lv_iload hx hb dX4_reckon_43 (lv_at hl 6 rfl) ?_
    refine lv_if_ne (tgt := 52) hx hb dX4_reckon_45 (by decide) (fun c_2 => ?_) (fun c_2 => ?_)
    · have hf := sn_el c_2 hf
      refine lv_iload hx hb dX4_reckon_52 (lv_at hl 5 rfl) ?_
      refine lv_iconst (v := 1) hx hb dX4_reckon_54 rfl ?_
      refine lv_isub hx hb dX4_reckon_55 ?_
      refine lv_iload hx hb dX4_reckon_56 (lv_at hl 6 rfl) ?_
      obtain ⟨t_3, h_4, hf⟩ := sn_bd hf
      refine sn_callNi (rest := [.int (x6 - (1 : Int32))]) C hw (ctX8_lowestBit l  h_4) kl_RX4_47 rfl rfl rfl (Nat.le_of_ble_eq_true rfl) dX4_reckon_58 hl.1 (fun H locs hw => ?_)
      refine lv_isub hx hb dX4_reckon_61 ?_
      exact wX4_reckon_62 C h1 h2 hf kc kx _ _ _ hw (lv_sub hl [0, 1, 2, 3, 4, 5, 6] rfl)
    · have hf := sn_if c_2 hf
      refine lv_iconst (v := 0) hx hb dX4_reckon_48 rfl ?_
      refine lv_goto (tgt := 62) hx hb dX4_reckon_49 (by decide) ?_
      exact wX4_reckon_62 C h1 h2 hf kc kx _ _ _ hw (lv_sub hl [0, 1, 2, 3, 4, 5, 6] rfl)
theorem wX4_reckon_L34 (C : sn_C p s m args meth c RX4 cX4_reckon 10 none D ct ad layC A) {q1 : Nat} {q2 : Nat} {x3 : Int32} {x4 : Int32} {x6 : Int32}  (h1 : sn_isX2 q1) (h2 : sn_isX0 q2) {z : sn_S × Int32} {t : sn_S} (h : sn_it (LX4_reckon_34 q1 q2 x3 x4 x6) 5000 z = some t) (kx : ∀ v, t = v → sn_At p l e rmX4_reckon s m args below meth c Q D ct ad layC A 10 v 178 [(0, .ref (ad 57)), (6, .int x6)] []) : sn_At p l e rmX4_reckon s m args below meth c Q D ct ad layC A 10 z.1 34 [(0, .ref (ad 57)), (1, .ref (ad q1)), (2, .ref (ad q2)), (3, .int x3), (4, .int x4), (6, .int x6), (7, .int z.2)] [] :=
  sn_loop (f := LX4_reckon_34 q1 q2 x3 x4 x6) (G := fun z => sn_At p l e rmX4_reckon s m args below meth c Q D ct ad layC A 10 z.1 34 [(0, .ref (ad 57)), (1, .ref (ad q1)), (2, .ref (ad q2)), (3, .int x3), (4, .int x4), (6, .int x6), (7, .int z.2)] []) (E := fun t => (∀ v, t = v → sn_At p l e rmX4_reckon s m args below meth c Q D ct ad layC A 10 v 178 [(0, .ref (ad 57)), (6, .int x6)] []) ∧ True) (fun z o hf k1 k2 => wX4_reckon_34 C h1 h2 hf (fun v e => k1 v e) (fun v e => (k2 _ e).1 v rfl)) 5000 z t h ⟨kx, trivial⟩
theorem wX4_reckon_in (C : sn_C p s m args meth c RX4 cX4_reckon 10 none D ct ad layC A) {σ : sn_S} {q1 : Nat} {q2 : Nat} {x3 : Int32} {x4 : Int32} {x5 : Int32} (h1 : sn_isX2 q1) (h2 : sn_isX0 q2) {o : sn_S} (hf : fX4_reckon σ q1 q2 x3 x4 x5 = some o) (kr : sn_Kr p l e rmX4_reckon s m args below meth c Q D ct ad layC A cX4_reckon .return_ (true) o []) : sn_At p l e rmX4_reckon s m args below meth c Q D ct ad layC A 10 σ 0 [(0, .ref (ad 57)), (1, .ref (ad q1)), (2, .ref (ad q2)), (3, .int x3), (4, .int x4), (5, .int x5)] [] := by
  intro H locs ls hw hl
  have hx := C.1
  have hb := C.2.1
  unfold fX4_reckon at hf
  refine lv_iload hx hb dX4_reckon_0 (lv_at hl 5 rfl) ?_
  refine lv_iconst (v := 1) hx hb dX4_reckon_2 rfl ?_
  refine lv_iadd hx hb dX4_reckon_3 ?_
  obtain ⟨y_1, e_2, hf⟩ := sn_ltE hf
  refine lv_topi (fun y_1_ e_2_ => ?_)
  obtain rfl : y_1 = y_1_ := e_2.trans e_2_.symm
  refine lv_istore (lv' := [(6, .int y_1), (0, .ref (ad 57)), (1, .ref (ad q1)), (2, .ref (ad q2)), (3, .int x3), (4, .int x4), (5, .int x5)]) hx hb dX4_reckon_4 hl (by decide) rfl (fun ls hl => ?_)
  refine lv_aload_n hx hb dX4_reckon_6 rfl (lv_at hl 1 rfl) ?_
  refine lv_iload hx hb dX4_reckon_7 (lv_at hl 0 rfl) ?_
  refine lv_aload_n hx hb dX4_reckon_9 rfl (lv_at hl 2 rfl) ?_
  refine sn_getC (r := (q1 + 1)) C hw fd_RX4_29 (sn_look h1 (k := 0) rfl) rfl dX4_reckon_10 ?_
  refine lv_iconst (v := 4) hx hb dX4_reckon_13 rfl ?_
  obtain ⟨g_3, hf⟩ := sn_gdE hf
  refine sn_iald C hw (sn_look h1 (k := 1) rfl) g_3 dX4_reckon_14 ?_
  obtain ⟨t_4, h_5, hf⟩ := sn_bd hf
  refine sn_callVv (rest := []) C hw (ctX4_weigh l  h_5) kl_RX4_35 layC_57 rfl rfl rfl rfl (Nat.le_of_ble_eq_true rfl) dX4_reckon_15 hl.1 (fun H locs hw => ?_)
  refine lv_aload_n hx hb dX4_reckon_18 rfl (lv_at hl 1 rfl) ?_
  refine sn_getC (r := 59) C hw fd_RX4_18 layC_57 rfl dX4_reckon_19 ?_
  refine lv_aload_n hx hb dX4_reckon_22 rfl (lv_at hl 3 rfl) ?_
  obtain ⟨t_6, h_7, hf⟩ := sn_bd hf
  refine sn_callVv (rest := []) C hw (ctX0_copyFrom l sn_isX0_59 h2 h_7) kl_RX4_39 (sn_look sn_isX0_59 (k := 0) rfl) rfl rfl rfl rfl (Nat.le_of_ble_eq_true rfl) dX4_reckon_23 hl.1 (fun H locs hw => ?_)
  refine lv_aload_n hx hb dX4_reckon_26 rfl (lv_at hl 1 rfl) ?_
  refine lv_lconst (v := 0) hx hb dX4_reckon_27 rfl ?_
  refine sn_putL C hw fp_RX4_43 layC_57 rfl dX4_reckon_28 (fun H locs hw => ?_)
  obtain ⟨σ_8, e_9, hf⟩ := sn_ltE hf
  rw [← e_9] at hw
  refine lv_iconst (v := 0) hx hb dX4_reckon_31 rfl ?_
  refine lv_istore (lv' := [(7, .int (0 : Int32)), (6, .int y_1), (0, .ref (ad 57)), (1, .ref (ad q1)), (2, .ref (ad q2)), (3, .int x3), (4, .int x4), (5, .int x5)]) hx hb dX4_reckon_32 hl (by decide) rfl (fun ls hl => ?_)
  obtain ⟨t_10, h_11, hf⟩ := sn_bd hf
  exact wX4_reckon_L34 C h1 h2 h_11 (fun v e => by cases e; exact wX4_reckon_178 C h1 h2 hf kr) _ _ _ hw (lv_sub hl [2, 3, 4, 5, 6, 1, 0] rfl)
theorem ctX4_reckon (l : Launch) {σ : sn_S} {q1 : Nat} {q2 : Nat} {x3 : Int32} {x4 : Int32} {x5 : Int32} (h1 : sn_isX2 q1) (h2 : sn_isX0 q2) {o : sn_S} (hf : fX4_reckon σ q1 q2 x3 x4 x5 = some o) : sn_M l yX4_reckon cX4_reckon 10 none rmX4_reckon layC (fun ad => [.ref (ad 57), .ref (ad q1), .ref (ad q2), .int x3, .int x4, .int x5]) σ none o :=
  sn_met (by decide) (fun _ => Nat.le_of_ble_eq_true rfl) (fun p e s m args below meth c ls D ct ad A C hw hl => wX4_reckon_in C h1 h2 hf (fun H locs ls pc hw ok hd => sn_vret C hw hd) _ _ _ hw hl)
-- X5_put
abbrev rmX5_put : Room := { frames := 0, cells := 0, slots := 0, locals := 0 }
def BX5_put_49 (σ : sn_S) : Option (sn_S) :=
  (some σ)
def BX5_put_3 (σ : sn_S) (x1 : Int32) (x2 : Int32) : Option ((sn_S × Int32) ⊕ (sn_S)) :=
  (if x2 < 0 then
  (some (.inr (σ)))
  else
  (if (900 : Int32) ≤ (sn_I σ 17 1) then
  (some (.inr (σ)))
  else
  (sn_gd (sn_in (sn_I σ 17 1) 900) (sn_lt (sn_pI σ 18 (sn_I σ 17 1).toNatClampNeg ((x1 >>> (x2 &&& 31)) &&& (255 : Int32))) fun σ_4 => (sn_lt (sn_pI σ_4 17 1 ((sn_I σ_4 17 1) + (1 : Int32))) fun σ_6 => (sn_lt (x2 + (-8)) fun y_8 => (some (.inl (σ_6, y_8)))))))))
def LX5_put_3 (x1 : Int32) (s : sn_S × Int32) : Option ((sn_S × Int32) ⊕ (sn_S)) := BX5_put_3 s.1 x1 s.2
def fX5_put (σ : sn_S) (x1 : Int32) : Option sn_S :=
  ((sn_it (LX5_put_3 x1) 5000 (σ, (24 : Int32))).bind fun t_1 => (BX5_put_49 t_1))
theorem wX5_put_49 (C : sn_C p s m args meth c RX5 cX5_put 3 none D ct ad layC A) {σ : sn_S}  {o : sn_S} (hf : BX5_put_49 σ = some o) (kr : sn_Kr p l e rmX5_put s m args below meth c Q D ct ad layC A cX5_put .return_ (true) o []) : sn_At p l e rmX5_put s m args below meth c Q D ct ad layC A 3 σ 49 [] [] := by
  intro H locs ls hw hl
  have hx := C.1
  have hb := C.2.1
  unfold BX5_put_49 at hf
  cases hf
  exact kr _ _ _ _ hw rfl dX5_put_49
theorem wX5_put_3 (C : sn_C p s m args meth c RX5 cX5_put 3 none D ct ad layC A) {σ : sn_S} {x1 : Int32} {x2 : Int32}  {o : (sn_S × Int32) ⊕ (sn_S)} (hf : BX5_put_3 σ x1 x2 = some o) (kc : ∀ v, o = .inl v → sn_At p l e rmX5_put s m args below meth c Q D ct ad layC A 3 v.1 3 [(0, .ref (ad 17)), (1, .int x1), (2, .int v.2)] []) (kx : ∀ v, o = .inr v → sn_At p l e rmX5_put s m args below meth c Q D ct ad layC A 3 v 49 [] []) : sn_At p l e rmX5_put s m args below meth c Q D ct ad layC A 3 σ 3 [(0, .ref (ad 17)), (1, .int x1), (2, .int x2)] [] := by
  intro H locs ls hw hl
  have hx := C.1
  have hb := C.2.1
  unfold BX5_put_3 at hf
  refine lv_iload_n hx hb dX5_put_3 rfl (lv_at hl 2 rfl) ?_
  refine lv_if_lt (tgt := 49) hx hb dX5_put_4 (by decide) (fun c_1 => ?_) (fun c_1 => ?_)
  · have hf := sn_if c_1 hf
    cases hf
    exact kx _ rfl _ _ _ hw (lv_sub hl [] rfl)
  · have hf := sn_el c_1 hf
    refine lv_aload_n hx hb dX5_put_7 rfl (lv_at hl 0 rfl) ?_
    refine sn_getI C hw fd_RX5_19 layC_17 rfl dX5_put_8 ?_
    refine lv_sipush (v := 900) hx hb dX5_put_11 (by decide) ?_
    refine lv_icmp_ge (tgt := 49) hx hb dX5_put_14 (by decide) (fun c_2 => ?_) (fun c_2 => ?_)
    · have hf := sn_if c_2 hf
      cases hf
      exact kx _ rfl _ _ _ hw (lv_sub hl [] rfl)
    · have hf := sn_el c_2 hf
      refine lv_aload_n hx hb dX5_put_17 rfl (lv_at hl 0 rfl) ?_
      refine sn_getC (r := 18) C hw fd_RX5_9 layC_17 rfl dX5_put_18 ?_
      refine lv_aload_n hx hb dX5_put_21 rfl (lv_at hl 0 rfl) ?_
      refine sn_getI C hw fd_RX5_19 layC_17 rfl dX5_put_22 ?_
      refine lv_iload_n hx hb dX5_put_25 rfl (lv_at hl 1 rfl) ?_
      refine lv_iload_n hx hb dX5_put_26 rfl (lv_at hl 2 rfl) ?_
      refine lv_ishr hx hb dX5_put_27 ?_
      refine lv_sipush (v := 255) hx hb dX5_put_28 (by decide) ?_
      refine lv_iand hx hb dX5_put_31 ?_
      obtain ⟨g_3, hf⟩ := sn_gdE hf
      refine sn_iast C hw layC_18 g_3 dX5_put_32 (fun H locs hw => ?_)
      obtain ⟨σ_4, e_5, hf⟩ := sn_ltE hf
      rw [← e_5] at hw
      refine lv_aload_n hx hb dX5_put_33 rfl (lv_at hl 0 rfl) ?_
      refine lv_dup hx hb dX5_put_34 rfl ?_
      refine sn_getI C hw fd_RX5_19 layC_17 rfl dX5_put_35 ?_
      refine lv_iconst (v := 1) hx hb dX5_put_38 rfl ?_
      refine lv_iadd hx hb dX5_put_39 ?_
      refine sn_putI C hw fp_RX5_19 layC_17 rfl dX5_put_40 (fun H locs hw => ?_)
      obtain ⟨σ_6, e_7, hf⟩ := sn_ltE hf
      rw [← e_7] at hw
      obtain ⟨y_8, e_9, hf⟩ := sn_ltE hf
      refine lv_iinc (v := y_8) (lv' := [(2, .int y_8), (0, .ref (ad 17)), (1, .int x1)]) hx hb dX5_put_43 hl (k := 2) rfl (by rw [e_9]; rfl) (by decide) rfl (fun ls hl => ?_)
      refine lv_goto (tgt := 3) hx hb dX5_put_46 (by decide) ?_
      cases hf
      exact kc _ rfl _ _ _ hw (lv_sub hl [1, 2, 0] rfl)
theorem wX5_put_L3 (C : sn_C p s m args meth c RX5 cX5_put 3 none D ct ad layC A) {x1 : Int32}   {z : sn_S × Int32} {t : sn_S} (h : sn_it (LX5_put_3 x1) 5000 z = some t) (kx : ∀ v, t = v → sn_At p l e rmX5_put s m args below meth c Q D ct ad layC A 3 v 49 [] []) : sn_At p l e rmX5_put s m args below meth c Q D ct ad layC A 3 z.1 3 [(0, .ref (ad 17)), (1, .int x1), (2, .int z.2)] [] :=
  sn_loop (f := LX5_put_3 x1) (G := fun z => sn_At p l e rmX5_put s m args below meth c Q D ct ad layC A 3 z.1 3 [(0, .ref (ad 17)), (1, .int x1), (2, .int z.2)] []) (E := fun t => (∀ v, t = v → sn_At p l e rmX5_put s m args below meth c Q D ct ad layC A 3 v 49 [] []) ∧ True) (fun z o hf k1 k2 => wX5_put_3 C  hf (fun v e => k1 v e) (fun v e => (k2 _ e).1 v rfl)) 5000 z t h ⟨kx, trivial⟩
theorem wX5_put_in (C : sn_C p s m args meth c RX5 cX5_put 3 none D ct ad layC A) {σ : sn_S} {x1 : Int32}  {o : sn_S} (hf : fX5_put σ x1 = some o) (kr : sn_Kr p l e rmX5_put s m args below meth c Q D ct ad layC A cX5_put .return_ (true) o []) : sn_At p l e rmX5_put s m args below meth c Q D ct ad layC A 3 σ 0 [(0, .ref (ad 17)), (1, .int x1)] [] := by
  intro H locs ls hw hl
  have hx := C.1
  have hb := C.2.1
  unfold fX5_put at hf
  refine lv_bipush (v := 24) hx hb dX5_put_0 (by decide) ?_
  refine lv_istore_n (lv' := [(2, .int (24 : Int32)), (0, .ref (ad 17)), (1, .int x1)]) hx hb dX5_put_2 rfl hl (by decide) rfl (fun ls hl => ?_)
  obtain ⟨t_1, h_2, hf⟩ := sn_bd hf
  exact wX5_put_L3 C  h_2 (fun v e => by cases e; exact wX5_put_49 C  hf kr) _ _ _ hw (lv_sub hl [1, 2, 0] rfl)
theorem ctX5_put (l : Launch) {σ : sn_S} {x1 : Int32}  {o : sn_S} (hf : fX5_put σ x1 = some o) : sn_M l yX5_put cX5_put 3 none rmX5_put layC (fun ad => [.ref (ad 17), .int x1]) σ none o :=
  sn_met (by decide) (fun _ => Nat.le_of_ble_eq_true rfl) (fun p e s m args below meth c ls D ct ad A C hw hl => wX5_put_in C  hf (fun H locs ls pc hw ok hd => sn_vret C hw hd) _ _ _ hw hl)
-- X5_kindAt
abbrev rmX5_kindAt : Room := { frames := 0, cells := 0, slots := 0, locals := 0 }
def BX5_kindAt_59 (σ : sn_S) (x2 : Int32) : Option (Int32) :=
  (if x2 = (59 : Int32) then
  (some (3 : Int32))
  else
  (some (5 : Int32)))
def BX5_kindAt_45 (σ : sn_S) (x2 : Int32) : Option (Int32) :=
  (if x2 < (48 : Int32) then
  (BX5_kindAt_59 σ x2)
  else
  (if (57 : Int32) < x2 then
  (BX5_kindAt_59 σ x2)
  else
  (some (2 : Int32))))
def fX5_kindAt (σ : sn_S) (x1 : Int32) : Option Int32 :=
  (if x1 < (sn_I σ 17 1) then
  (sn_gd (sn_in x1 900) (sn_lt (sn_I σ 18 x1.toNatClampNeg) fun y_3 => (if y_3 = (32 : Int32) then
  (some (4 : Int32))
  else
  (if y_3 = (10 : Int32) then
  (some (4 : Int32))
  else
  (if y_3 < (97 : Int32) then
  (BX5_kindAt_45 σ y_3)
  else
  (if (122 : Int32) < y_3 then
  (BX5_kindAt_45 σ y_3)
  else
  (some (1 : Int32))))))))
  else
  (some (0 : Int32)))
theorem wX5_kindAt_59 (C : sn_C p s m args meth c RX5 cX5_kindAt 3 (some .int) D ct ad layC A) {σ : sn_S} {x2 : Int32}  {o : Int32} (hf : BX5_kindAt_59 σ x2 = some o) (kr : sn_Kr p l e rmX5_kindAt s m args below meth c Q D ct ad layC A cX5_kindAt .ireturn (true) σ [.int o]) : sn_At p l e rmX5_kindAt s m args below meth c Q D ct ad layC A 3 σ 59 [(2, .int x2)] [] := by
  intro H locs ls hw hl
  have hx := C.1
  have hb := C.2.1
  unfold BX5_kindAt_59 at hf
  refine lv_iload_n hx hb dX5_kindAt_59 rfl (lv_at hl 0 rfl) ?_
  refine lv_bipush (v := 59) hx hb dX5_kindAt_60 (by decide) ?_
  refine lv_icmp_ne (tgt := 69) hx hb dX5_kindAt_62 (by decide) (fun c_1 => ?_) (fun c_1 => ?_)
  · have hf := sn_el c_1 hf
    refine lv_iconst (v := 5) hx hb dX5_kindAt_69 rfl ?_
    cases hf
    exact kr _ _ _ _ hw rfl dX5_kindAt_70
  · have hf := sn_if c_1 hf
    refine lv_iconst (v := 3) hx hb dX5_kindAt_65 rfl ?_
    refine lv_goto (tgt := 70) hx hb dX5_kindAt_66 (by decide) ?_
    cases hf
    exact kr _ _ _ _ hw rfl dX5_kindAt_70
theorem wX5_kindAt_45 (C : sn_C p s m args meth c RX5 cX5_kindAt 3 (some .int) D ct ad layC A) {σ : sn_S} {x2 : Int32}  {o : Int32} (hf : BX5_kindAt_45 σ x2 = some o) (kr : sn_Kr p l e rmX5_kindAt s m args below meth c Q D ct ad layC A cX5_kindAt .ireturn (true) σ [.int o]) : sn_At p l e rmX5_kindAt s m args below meth c Q D ct ad layC A 3 σ 45 [(2, .int x2)] [] := by
  intro H locs ls hw hl
  have hx := C.1
  have hb := C.2.1
  unfold BX5_kindAt_45 at hf
  refine lv_iload_n hx hb dX5_kindAt_45 rfl (lv_at hl 0 rfl) ?_
  refine lv_bipush (v := 48) hx hb dX5_kindAt_46 (by decide) ?_
  refine lv_icmp_lt (tgt := 59) hx hb dX5_kindAt_48 (by decide) (fun c_1 => ?_) (fun c_1 => ?_)
  · have hf := sn_if c_1 hf
    exact wX5_kindAt_59 C  hf kr _ _ _ hw (lv_sub hl [0] rfl)
  · have hf := sn_el c_1 hf
    refine lv_iload_n hx hb dX5_kindAt_51 rfl (lv_at hl 0 rfl) ?_
    refine lv_bipush (v := 57) hx hb dX5_kindAt_52 (by decide) ?_
    refine lv_icmp_gt (tgt := 59) hx hb dX5_kindAt_54 (by decide) (fun c_2 => ?_) (fun c_2 => ?_)
    · have hf := sn_if c_2 hf
      exact wX5_kindAt_59 C  hf kr _ _ _ hw (lv_sub hl [0] rfl)
    · have hf := sn_el c_2 hf
      refine lv_iconst (v := 2) hx hb dX5_kindAt_57 rfl ?_
      cases hf
      exact kr _ _ _ _ hw rfl dX5_kindAt_58
theorem wX5_kindAt_in (C : sn_C p s m args meth c RX5 cX5_kindAt 3 (some .int) D ct ad layC A) {σ : sn_S} {x1 : Int32}  {o : Int32} (hf : fX5_kindAt σ x1 = some o) (kr : sn_Kr p l e rmX5_kindAt s m args below meth c Q D ct ad layC A cX5_kindAt .ireturn (true) σ [.int o]) : sn_At p l e rmX5_kindAt s m args below meth c Q D ct ad layC A 3 σ 0 [(0, .ref (ad 17)), (1, .int x1)] [] := by
  intro H locs ls hw hl
  have hx := C.1
  have hb := C.2.1
  unfold fX5_kindAt at hf
  refine lv_iload_n hx hb dX5_kindAt_0 rfl (lv_at hl 1 rfl) ?_
  refine lv_aload_n hx hb dX5_kindAt_1 rfl (lv_at hl 0 rfl) ?_
  refine sn_getI C hw fd_RX5_19 layC_17 rfl dX5_kindAt_2 ?_
  refine lv_icmp_lt (tgt := 10) hx hb dX5_kindAt_5 (by decide) (fun c_1 => ?_) (fun c_1 => ?_)
  · have hf := sn_if c_1 hf
    refine lv_aload_n hx hb dX5_kindAt_10 rfl (lv_at hl 0 rfl) ?_
    refine sn_getC (r := 18) C hw fd_RX5_9 layC_17 rfl dX5_kindAt_11 ?_
    refine lv_iload_n hx hb dX5_kindAt_14 rfl (lv_at hl 1 rfl) ?_
    obtain ⟨g_2, hf⟩ := sn_gdE hf
    refine sn_iald C hw layC_18 g_2 dX5_kindAt_15 ?_
    obtain ⟨y_3, e_4, hf⟩ := sn_ltE hf
    refine lv_topi (fun y_3_ e_4_ => ?_)
    obtain rfl : y_3 = y_3_ := e_4.trans e_4_.symm
    refine lv_istore_n (lv' := [(2, .int y_3), (0, .ref (ad 17)), (1, .int x1)]) hx hb dX5_kindAt_16 rfl hl (by decide) rfl (fun ls hl => ?_)
    refine lv_iload_n hx hb dX5_kindAt_17 rfl (lv_at hl 0 rfl) ?_
    refine lv_bipush (v := 32) hx hb dX5_kindAt_18 (by decide) ?_
    refine lv_icmp_eq (tgt := 29) hx hb dX5_kindAt_20 (by decide) (fun c_5 => ?_) (fun c_5 => ?_)
    · have hf := sn_if c_5 hf
      refine lv_iconst (v := 4) hx hb dX5_kindAt_29 rfl ?_
      cases hf
      exact kr _ _ _ _ hw rfl dX5_kindAt_30
    · have hf := sn_el c_5 hf
      refine lv_iload_n hx hb dX5_kindAt_23 rfl (lv_at hl 0 rfl) ?_
      refine lv_bipush (v := 10) hx hb dX5_kindAt_24 (by decide) ?_
      refine lv_icmp_ne (tgt := 31) hx hb dX5_kindAt_26 (by decide) (fun c_6 => ?_) (fun c_6 => ?_)
      · have hf := sn_el c_6 hf
        refine lv_iload_n hx hb dX5_kindAt_31 rfl (lv_at hl 0 rfl) ?_
        refine lv_bipush (v := 97) hx hb dX5_kindAt_32 (by decide) ?_
        refine lv_icmp_lt (tgt := 45) hx hb dX5_kindAt_34 (by decide) (fun c_7 => ?_) (fun c_7 => ?_)
        · have hf := sn_if c_7 hf
          exact wX5_kindAt_45 C  hf kr _ _ _ hw (lv_sub hl [0] rfl)
        · have hf := sn_el c_7 hf
          refine lv_iload_n hx hb dX5_kindAt_37 rfl (lv_at hl 0 rfl) ?_
          refine lv_bipush (v := 122) hx hb dX5_kindAt_38 (by decide) ?_
          refine lv_icmp_gt (tgt := 45) hx hb dX5_kindAt_40 (by decide) (fun c_8 => ?_) (fun c_8 => ?_)
          · have hf := sn_if c_8 hf
            exact wX5_kindAt_45 C  hf kr _ _ _ hw (lv_sub hl [0] rfl)
          · have hf := sn_el c_8 hf
            refine lv_iconst (v := 1) hx hb dX5_kindAt_43 rfl ?_
            cases hf
            exact kr _ _ _ _ hw rfl dX5_kindAt_44
      · have hf := sn_if c_6 hf
        refine lv_iconst (v := 4) hx hb dX5_kindAt_29 rfl ?_
        cases hf
        exact kr _ _ _ _ hw rfl dX5_kindAt_30
  · have hf := sn_el c_1 hf
    refine lv_iconst (v := 0) hx hb dX5_kindAt_8 rfl ?_
    cases hf
    exact kr _ _ _ _ hw rfl dX5_kindAt_9
theorem ctX5_kindAt (l : Launch) {σ : sn_S} {x1 : Int32}  {o : Int32} (hf : fX5_kindAt σ x1 = some o) : sn_M l yX5_kindAt cX5_kindAt 3 (some .int) rmX5_kindAt layC (fun ad => [.ref (ad 17), .int x1]) σ (some (fun _ => .int o)) σ :=
  sn_met (by decide) (fun _ => Nat.le_of_ble_eq_true rfl) (fun p e s m args below meth c ls D ct ad A C hw hl => wX5_kindAt_in C  hf (fun H locs ls pc hw ok hd => sn_iret C hw hd) _ _ _ hw hl)
-- X5_step
abbrev rmX5_step : Room := { frames := 1, cells := 0, slots := 0, locals := 32 }
def BX5_step_128 (σ : sn_S) : Option (sn_S) :=
  (some σ)
def BX5_step_89 (σ : sn_S) : Option ((sn_S) ⊕ (sn_S)) :=
  (if (sn_I σ 17 1) ≤ (sn_I σ 17 5) then
  (some (.inr (σ)))
  else
  ((fX5_kindAt σ (sn_I σ 17 5)).bind fun t_2 => (if t_2 = (sn_I σ 17 6) then
  (sn_lt (sn_pI σ 17 5 ((sn_I σ 17 5) + (1 : Int32))) fun σ_5 => (some (.inl (σ_5))))
  else
  (some (.inr (σ))))))
def BX5_step_73 (σ : sn_S) : Option ((sn_S) ⊕ (sn_S)) :=
  (if (sn_I σ 17 6) = (1 : Int32) then
  (BX5_step_89 σ)
  else
  (if (sn_I σ 17 6) = (2 : Int32) then
  (BX5_step_89 σ)
  else
  (some (.inr (σ)))))
def LX5_step_73  (s : sn_S) : Option ((sn_S) ⊕ (sn_S)) := BX5_step_73 s
def BX5_step_44 (σ : sn_S) : Option (sn_S) :=
  ((fX5_kindAt σ (sn_I σ 17 4)).bind fun t_1 => (sn_lt (sn_pI σ 17 6 t_1) fun σ_3 => (sn_lt (if (sn_I σ_3 17 1) < ((sn_I σ_3 17 4) + (1 : Int32)) then (sn_I σ_3 17 1) else ((sn_I σ_3 17 4) + (1 : Int32))) fun y_5 => (sn_lt (sn_pI σ_3 17 5 y_5) fun σ_7 => ((sn_it (LX5_step_73 ) 5000 (σ_7)).bind fun t_9 => (BX5_step_128 t_9))))))
def BX5_step_8 (σ : sn_S) : Option ((sn_S) ⊕ (sn_S)) :=
  (if (sn_I σ 17 1) ≤ (sn_I σ 17 4) then
  (some (.inr (σ)))
  else
  ((fX5_kindAt σ (sn_I σ 17 4)).bind fun t_2 => (if t_2 = (4 : Int32) then
  (sn_lt (sn_pI σ 17 4 ((sn_I σ 17 4) + (1 : Int32))) fun σ_5 => (some (.inl (σ_5))))
  else
  (some (.inr (σ))))))
def LX5_step_8  (s : sn_S) : Option ((sn_S) ⊕ (sn_S)) := BX5_step_8 s
def fX5_step (σ : sn_S) : Option sn_S :=
  (sn_lt (sn_pI σ 17 4 (sn_I σ 17 5)) fun σ_1 => ((sn_it (LX5_step_8 ) 5000 (σ_1)).bind fun t_3 => (BX5_step_44 t_3)))
theorem wX5_step_128 (C : sn_C p s m args meth c RX5 cX5_step 1 none D ct ad layC A) {σ : sn_S}  {o : sn_S} (hf : BX5_step_128 σ = some o) (kr : sn_Kr p l e rmX5_step s m args below meth c Q D ct ad layC A cX5_step .return_ (true) o []) : sn_At p l e rmX5_step s m args below meth c Q D ct ad layC A 1 σ 128 [] [] := by
  intro H locs ls hw hl
  have hx := C.1
  have hb := C.2.1
  unfold BX5_step_128 at hf
  cases hf
  exact kr _ _ _ _ hw rfl dX5_step_128
theorem wX5_step_89 (C : sn_C p s m args meth c RX5 cX5_step 1 none D ct ad layC A) {σ : sn_S}  {o : (sn_S) ⊕ (sn_S)} (hf : BX5_step_89 σ = some o) (kc : ∀ v, o = .inl v → sn_At p l e rmX5_step s m args below meth c Q D ct ad layC A 1 v 73 [(0, .ref (ad 17))] []) (kx : ∀ v, o = .inr v → sn_At p l e rmX5_step s m args below meth c Q D ct ad layC A 1 v 128 [] []) : sn_At p l e rmX5_step s m args below meth c Q D ct ad layC A 1 σ 89 [(0, .ref (ad 17))] [] := by
  intro H locs ls hw hl
  have hx := C.1
  have hb := C.2.1
  unfold BX5_step_89 at hf
  refine lv_aload_n hx hb dX5_step_89 rfl (lv_at hl 0 rfl) ?_
  refine sn_getI C hw fd_RX5_34 layC_17 rfl dX5_step_90 ?_
  refine lv_aload_n hx hb dX5_step_93 rfl (lv_at hl 0 rfl) ?_
  refine sn_getI C hw fd_RX5_19 layC_17 rfl dX5_step_94 ?_
  refine lv_icmp_ge (tgt := 128) hx hb dX5_step_97 (by decide) (fun c_1 => ?_) (fun c_1 => ?_)
  · have hf := sn_if c_1 hf
    cases hf
    exact kx _ rfl _ _ _ hw (lv_sub hl [] rfl)
  · have hf := sn_el c_1 hf
    refine lv_aload_n hx hb dX5_step_100 rfl (lv_at hl 0 rfl) ?_
    refine lv_aload_n hx hb dX5_step_101 rfl (lv_at hl 0 rfl) ?_
    refine sn_getI C hw fd_RX5_34 layC_17 rfl dX5_step_102 ?_
    obtain ⟨t_2, h_3, hf⟩ := sn_bd hf
    refine sn_callVi (rest := []) C hw (ctX5_kindAt l  h_3) kl_RX5_148 layC_17 rfl rfl rfl rfl (Nat.le_of_ble_eq_true rfl) dX5_step_105 hl.1 (fun H locs hw => ?_)
    refine lv_aload_n hx hb dX5_step_108 rfl (lv_at hl 0 rfl) ?_
    refine sn_getI C hw fd_RX5_40 layC_17 rfl dX5_step_109 ?_
    refine lv_icmp_ne (tgt := 128) hx hb dX5_step_112 (by decide) (fun c_4 => ?_) (fun c_4 => ?_)
    · have hf := sn_el c_4 hf
      cases hf
      exact kx _ rfl _ _ _ hw (lv_sub hl [] rfl)
    · have hf := sn_if c_4 hf
      refine lv_aload_n hx hb dX5_step_115 rfl (lv_at hl 0 rfl) ?_
      refine lv_dup hx hb dX5_step_116 rfl ?_
      refine sn_getI C hw fd_RX5_34 layC_17 rfl dX5_step_117 ?_
      refine lv_iconst (v := 1) hx hb dX5_step_120 rfl ?_
      refine lv_iadd hx hb dX5_step_121 ?_
      refine sn_putI C hw fp_RX5_34 layC_17 rfl dX5_step_122 (fun H locs hw => ?_)
      obtain ⟨σ_5, e_6, hf⟩ := sn_ltE hf
      rw [← e_6] at hw
      refine lv_goto (tgt := 73) hx hb dX5_step_125 (by decide) ?_
      cases hf
      exact kc _ rfl _ _ _ hw (lv_sub hl [0] rfl)
theorem wX5_step_73 (C : sn_C p s m args meth c RX5 cX5_step 1 none D ct ad layC A) {σ : sn_S}  {o : (sn_S) ⊕ (sn_S)} (hf : BX5_step_73 σ = some o) (kc : ∀ v, o = .inl v → sn_At p l e rmX5_step s m args below meth c Q D ct ad layC A 1 v 73 [(0, .ref (ad 17))] []) (kx : ∀ v, o = .inr v → sn_At p l e rmX5_step s m args below meth c Q D ct ad layC A 1 v 128 [] []) : sn_At p l e rmX5_step s m args below meth c Q D ct ad layC A 1 σ 73 [(0, .ref (ad 17))] [] := by
  intro H locs ls hw hl
  have hx := C.1
  have hb := C.2.1
  unfold BX5_step_73 at hf
  refine lv_aload_n hx hb dX5_step_73 rfl (lv_at hl 0 rfl) ?_
  refine sn_getI C hw fd_RX5_40 layC_17 rfl dX5_step_74 ?_
  refine lv_iconst (v := 1) hx hb dX5_step_77 rfl ?_
  refine lv_icmp_eq (tgt := 89) hx hb dX5_step_78 (by decide) (fun c_1 => ?_) (fun c_1 => ?_)
  · have hf := sn_if c_1 hf
    exact wX5_step_89 C  hf kc kx _ _ _ hw (lv_sub hl [0] rfl)
  · have hf := sn_el c_1 hf
    refine lv_aload_n hx hb dX5_step_81 rfl (lv_at hl 0 rfl) ?_
    refine sn_getI C hw fd_RX5_40 layC_17 rfl dX5_step_82 ?_
    refine lv_iconst (v := 2) hx hb dX5_step_85 rfl ?_
    refine lv_icmp_ne (tgt := 128) hx hb dX5_step_86 (by decide) (fun c_2 => ?_) (fun c_2 => ?_)
    · have hf := sn_el c_2 hf
      cases hf
      exact kx _ rfl _ _ _ hw (lv_sub hl [] rfl)
    · have hf := sn_if c_2 hf
      exact wX5_step_89 C  hf kc kx _ _ _ hw (lv_sub hl [0] rfl)
theorem wX5_step_L73 (C : sn_C p s m args meth c RX5 cX5_step 1 none D ct ad layC A)    {z : sn_S} {t : sn_S} (h : sn_it (LX5_step_73 ) 5000 z = some t) (kx : ∀ v, t = v → sn_At p l e rmX5_step s m args below meth c Q D ct ad layC A 1 v 128 [] []) : sn_At p l e rmX5_step s m args below meth c Q D ct ad layC A 1 z 73 [(0, .ref (ad 17))] [] :=
  sn_loop (f := LX5_step_73 ) (G := fun z => sn_At p l e rmX5_step s m args below meth c Q D ct ad layC A 1 z 73 [(0, .ref (ad 17))] []) (E := fun t => (∀ v, t = v → sn_At p l e rmX5_step s m args below meth c Q D ct ad layC A 1 v 128 [] []) ∧ True) (fun z o hf k1 k2 => wX5_step_73 C  hf (fun v e => k1 v e) (fun v e => (k2 _ e).1 v rfl)) 5000 z t h ⟨kx, trivial⟩
theorem wX5_step_44 (C : sn_C p s m args meth c RX5 cX5_step 1 none D ct ad layC A) {σ : sn_S}  {o : sn_S} (hf : BX5_step_44 σ = some o) (kr : sn_Kr p l e rmX5_step s m args below meth c Q D ct ad layC A cX5_step .return_ (true) o []) : sn_At p l e rmX5_step s m args below meth c Q D ct ad layC A 1 σ 44 [(0, .ref (ad 17))] [] := by
  intro H locs ls hw hl
  have hx := C.1
  have hb := C.2.1
  unfold BX5_step_44 at hf
  refine lv_aload_n hx hb dX5_step_44 rfl (lv_at hl 0 rfl) ?_
  refine lv_aload_n hx hb dX5_step_45 rfl (lv_at hl 0 rfl) ?_
  refine lv_aload_n hx hb dX5_step_46 rfl (lv_at hl 0 rfl) ?_
  refine sn_getI C hw fd_RX5_131 layC_17 rfl dX5_step_47 ?_
  obtain ⟨t_1, h_2, hf⟩ := sn_bd hf
  refine sn_callVi (rest := [.ref (ad 17)]) C hw (ctX5_kindAt l  h_2) kl_RX5_148 layC_17 rfl rfl rfl rfl (Nat.le_of_ble_eq_true rfl) dX5_step_50 hl.1 (fun H locs hw => ?_)
  refine sn_putI C hw fp_RX5_40 layC_17 rfl dX5_step_53 (fun H locs hw => ?_)
  obtain ⟨σ_3, e_4, hf⟩ := sn_ltE hf
  rw [← e_4] at hw
  refine lv_aload_n hx hb dX5_step_56 rfl (lv_at hl 0 rfl) ?_
  refine lv_aload_n hx hb dX5_step_57 rfl (lv_at hl 0 rfl) ?_
  refine sn_getI C hw fd_RX5_131 layC_17 rfl dX5_step_58 ?_
  refine lv_iconst (v := 1) hx hb dX5_step_61 rfl ?_
  refine lv_iadd hx hb dX5_step_62 ?_
  refine lv_aload_n hx hb dX5_step_63 rfl (lv_at hl 0 rfl) ?_
  refine sn_getI C hw fd_RX5_19 layC_17 rfl dX5_step_64 ?_
  refine va_mmin hx hb (C.2.2.1.trans hl.1.symm) C.2.2.2.1 (C.2.2.2.2.1 _ km_RX5_134) (C.2.2.2.2.1 _ kst_minI) (C.2.2.2.2.1 _ ki_Math) (C.2.2.2.2.1 _ kc_minI) (Nat.le_of_ble_eq_true rfl) (Nat.le_of_ble_eq_true rfl) (Nat.zero_le _) (Nat.zero_le _) dX5_step_67 ?_
  obtain ⟨y_5, e_6, hf⟩ := sn_ltE hf
  refine lv_topi (fun y_5_ e_6_ => ?_)
  obtain rfl : y_5 = y_5_ := e_6.trans e_6_.symm
  refine sn_putI C hw fp_RX5_34 layC_17 rfl dX5_step_70 (fun H locs hw => ?_)
  obtain ⟨σ_7, e_8, hf⟩ := sn_ltE hf
  rw [← e_8] at hw
  obtain ⟨t_9, h_10, hf⟩ := sn_bd hf
  exact wX5_step_L73 C  h_10 (fun v e => by cases e; exact wX5_step_128 C  hf kr) _ _ _ hw (lv_sub hl [0] rfl)
theorem wX5_step_8 (C : sn_C p s m args meth c RX5 cX5_step 1 none D ct ad layC A) {σ : sn_S}  {o : (sn_S) ⊕ (sn_S)} (hf : BX5_step_8 σ = some o) (kc : ∀ v, o = .inl v → sn_At p l e rmX5_step s m args below meth c Q D ct ad layC A 1 v 8 [(0, .ref (ad 17))] []) (kx : ∀ v, o = .inr v → sn_At p l e rmX5_step s m args below meth c Q D ct ad layC A 1 v 44 [(0, .ref (ad 17))] []) : sn_At p l e rmX5_step s m args below meth c Q D ct ad layC A 1 σ 8 [(0, .ref (ad 17))] [] := by
  intro H locs ls hw hl
  have hx := C.1
  have hb := C.2.1
  unfold BX5_step_8 at hf
  refine lv_aload_n hx hb dX5_step_8 rfl (lv_at hl 0 rfl) ?_
  refine sn_getI C hw fd_RX5_131 layC_17 rfl dX5_step_9 ?_
  refine lv_aload_n hx hb dX5_step_12 rfl (lv_at hl 0 rfl) ?_
  refine sn_getI C hw fd_RX5_19 layC_17 rfl dX5_step_13 ?_
  refine lv_icmp_ge (tgt := 44) hx hb dX5_step_16 (by decide) (fun c_1 => ?_) (fun c_1 => ?_)
  · have hf := sn_if c_1 hf
    cases hf
    exact kx _ rfl _ _ _ hw (lv_sub hl [0] rfl)
  · have hf := sn_el c_1 hf
    refine lv_aload_n hx hb dX5_step_19 rfl (lv_at hl 0 rfl) ?_
    refine lv_aload_n hx hb dX5_step_20 rfl (lv_at hl 0 rfl) ?_
    refine sn_getI C hw fd_RX5_131 layC_17 rfl dX5_step_21 ?_
    obtain ⟨t_2, h_3, hf⟩ := sn_bd hf
    refine sn_callVi (rest := []) C hw (ctX5_kindAt l  h_3) kl_RX5_148 layC_17 rfl rfl rfl rfl (Nat.le_of_ble_eq_true rfl) dX5_step_24 hl.1 (fun H locs hw => ?_)
    refine lv_iconst (v := 4) hx hb dX5_step_27 rfl ?_
    refine lv_icmp_ne (tgt := 44) hx hb dX5_step_28 (by decide) (fun c_4 => ?_) (fun c_4 => ?_)
    · have hf := sn_el c_4 hf
      cases hf
      exact kx _ rfl _ _ _ hw (lv_sub hl [0] rfl)
    · have hf := sn_if c_4 hf
      refine lv_aload_n hx hb dX5_step_31 rfl (lv_at hl 0 rfl) ?_
      refine lv_dup hx hb dX5_step_32 rfl ?_
      refine sn_getI C hw fd_RX5_131 layC_17 rfl dX5_step_33 ?_
      refine lv_iconst (v := 1) hx hb dX5_step_36 rfl ?_
      refine lv_iadd hx hb dX5_step_37 ?_
      refine sn_putI C hw fp_RX5_131 layC_17 rfl dX5_step_38 (fun H locs hw => ?_)
      obtain ⟨σ_5, e_6, hf⟩ := sn_ltE hf
      rw [← e_6] at hw
      refine lv_goto (tgt := 8) hx hb dX5_step_41 (by decide) ?_
      cases hf
      exact kc _ rfl _ _ _ hw (lv_sub hl [0] rfl)
theorem wX5_step_L8 (C : sn_C p s m args meth c RX5 cX5_step 1 none D ct ad layC A)    {z : sn_S} {t : sn_S} (h : sn_it (LX5_step_8 ) 5000 z = some t) (kx : ∀ v, t = v → sn_At p l e rmX5_step s m args below meth c Q D ct ad layC A 1 v 44 [(0, .ref (ad 17))] []) : sn_At p l e rmX5_step s m args below meth c Q D ct ad layC A 1 z 8 [(0, .ref (ad 17))] [] :=
  sn_loop (f := LX5_step_8 ) (G := fun z => sn_At p l e rmX5_step s m args below meth c Q D ct ad layC A 1 z 8 [(0, .ref (ad 17))] []) (E := fun t => (∀ v, t = v → sn_At p l e rmX5_step s m args below meth c Q D ct ad layC A 1 v 44 [(0, .ref (ad 17))] []) ∧ True) (fun z o hf k1 k2 => wX5_step_8 C  hf (fun v e => k1 v e) (fun v e => (k2 _ e).1 v rfl)) 5000 z t h ⟨kx, trivial⟩
theorem wX5_step_in (C : sn_C p s m args meth c RX5 cX5_step 1 none D ct ad layC A) {σ : sn_S}  {o : sn_S} (hf : fX5_step σ = some o) (kr : sn_Kr p l e rmX5_step s m args below meth c Q D ct ad layC A cX5_step .return_ (true) o []) : sn_At p l e rmX5_step s m args below meth c Q D ct ad layC A 1 σ 0 [(0, .ref (ad 17))] [] := by
  intro H locs ls hw hl
  have hx := C.1
  have hb := C.2.1
  unfold fX5_step at hf
  refine lv_aload_n hx hb dX5_step_0 rfl (lv_at hl 0 rfl) ?_
  refine lv_aload_n hx hb dX5_step_1 rfl (lv_at hl 0 rfl) ?_
  refine sn_getI C hw fd_RX5_34 layC_17 rfl dX5_step_2 ?_
  refine sn_putI C hw fp_RX5_131 layC_17 rfl dX5_step_5 (fun H locs hw => ?_)
  obtain ⟨σ_1, e_2, hf⟩ := sn_ltE hf
  rw [← e_2] at hw
  obtain ⟨t_3, h_4, hf⟩ := sn_bd hf
  exact wX5_step_L8 C  h_4 (fun v e => by cases e; exact wX5_step_44 C  hf kr) _ _ _ hw (lv_sub hl [0] rfl)
theorem ctX5_step (l : Launch) {σ : sn_S}  {o : sn_S} (hf : fX5_step σ = some o) : sn_M l yX5_step cX5_step 1 none rmX5_step layC (fun ad => [.ref (ad 17)]) σ none o :=
  sn_met (by decide) (fun _ => Nat.le_of_ble_eq_true rfl) (fun p e s m args below meth c ls D ct ad A C hw hl => wX5_step_in C  hf (fun H locs ls pc hw ok hd => sn_vret C hw hd) _ _ _ hw hl)
end
