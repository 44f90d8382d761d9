section
section
variable {p : Program} {l : Launch} {e : Env} {s : State} {m : MethodId} {args : Array Value} {below : List Frame} {meth : Method} {c : Code} {Q : State → Prop} {D : va_G} {ct : Nat → ClassId} {ad : Nat → Nat} {A : Nat → Prop} {lay : List sn_E}
-- X3_moneyAt
abbrev rmX3_moneyAt : Room := { frames := 0, cells := 0, slots := 0, locals := 0 }
def BX3_moneyAt_50 (σ : sn_S) (q0 : Nat) (x2 : Int32) : Option (Int32) :=
  (some x2)
def BX3_moneyAt_44 (σ : sn_S) (q0 : Nat) (x1 : Int32) (x2 : Int32) (x3 : Int32) : Option ((Int32 × Int32) ⊕ (Int32)) :=
  (sn_lt (x3 + 1) fun y_1 => (some (.inl (x2, y_1))))
def BX3_moneyAt_7 (σ : sn_S) (q0 : Nat) (x1 : Int32) (x2 : Int32) (x3 : Int32) : Option ((Int32 × Int32) ⊕ (Int32)) :=
  (if (sn_I σ q0 2) ≤ x3 then
  (some (.inr (x2)))
  else
  (sn_gd (sn_in x3 6) (if (sn_I σ (q0 + 2) x3.toNatClampNeg) = (-1 : Int32) then
  (BX3_moneyAt_44 σ q0 x1 x2 x3)
  else
  (sn_gd (sn_in x3 6) (if x1 < (sn_I σ (q0 + 2) x3.toNatClampNeg) then
  (BX3_moneyAt_44 σ q0 x1 x2 x3)
  else
  (sn_gd (sn_in x3 6) (sn_lt (x2 - (sn_I σ (q0 + 1) x3.toNatClampNeg)) fun y_7 => (BX3_moneyAt_44 σ q0 x1 y_7 x3))))))))
def LX3_moneyAt_7 (σ : sn_S) (q0 : Nat) (x1 : Int32) (s : Int32 × Int32) : Option ((Int32 × Int32) ⊕ (Int32)) := BX3_moneyAt_7 σ q0 x1 s.1 s.2
def fX3_moneyAt (σ : sn_S) (q0 : Nat) (x1 : Int32) : Option Int32 :=
  (sn_lt (sn_I σ q0 3) fun y_1 => ((sn_it (LX3_moneyAt_7 σ q0 x1) 5000 (y_1, (0 : Int32))).bind fun t_3 => (BX3_moneyAt_50 σ q0 t_3)))
theorem wX3_moneyAt_50 (C : sn_C p s m args meth c RX3 cX3_moneyAt 4 (some .int) D ct ad layC A) {σ : sn_S} {q0 : Nat} {x2 : Int32} (h0 : sn_isX3 q0) {o : Int32} (hf : BX3_moneyAt_50 σ q0 x2 = some o) (kr : sn_Kr p l e rmX3_moneyAt s m args below meth c Q D ct ad layC A cX3_moneyAt .ireturn (true) σ [.int o]) : sn_At p l e rmX3_moneyAt s m args below meth c Q D ct ad layC A 4 σ 50 [(2, .int x2)] [] := by
  intro H locs ls hw hl
  have hx := C.1
  have hb := C.2.1
  unfold BX3_moneyAt_50 at hf
  refine lv_iload_n hx hb dX3_moneyAt_50 rfl (lv_at hl 0 rfl) ?_
  cases hf
  exact kr _ _ _ _ hw rfl dX3_moneyAt_51
theorem wX3_moneyAt_44 (C : sn_C p s m args meth c RX3 cX3_moneyAt 4 (some .int) D ct ad layC A) {σ : sn_S} {q0 : Nat} {x1 : Int32} {x2 : Int32} {x3 : Int32} (h0 : sn_isX3 q0) {o : (Int32 × Int32) ⊕ (Int32)} (hf : BX3_moneyAt_44 σ q0 x1 x2 x3 = some o) (kc : ∀ v, o = .inl v → sn_At p l e rmX3_moneyAt s m args below meth c Q D ct ad layC A 4 σ 7 [(0, .ref (ad q0)), (1, .int x1), (2, .int v.1), (3, .int v.2)] []) (kx : ∀ v, o = .inr v → sn_At p l e rmX3_moneyAt s m args below meth c Q D ct ad layC A 4 σ 50 [(2, .int v)] []) : sn_At p l e rmX3_moneyAt s m args below meth c Q D ct ad layC A 4 σ 44 [(0, .ref (ad q0)), (1, .int x1), (2, .int x2), (3, .int x3)] [] := by
  intro H locs ls hw hl
  have hx := C.1
  have hb := C.2.1
  unfold BX3_moneyAt_44 at hf
  obtain ⟨y_1, e_2, hf⟩ := sn_ltE hf
  refine lv_iinc (v := y_1) (lv' := [(3, .int y_1), (0, .ref (ad q0)), (1, .int x1), (2, .int x2)]) hx hb dX3_moneyAt_44 hl (k := 3) rfl (by rw [e_2]; rfl) (by decide) rfl (fun ls hl => ?_)
  refine lv_goto (tgt := 7) hx hb dX3_moneyAt_47 (by decide) ?_
  cases hf
  exact kc _ rfl _ _ _ hw (lv_sub hl [1, 2, 3, 0] rfl)
theorem wX3_moneyAt_7 (C : sn_C p s m args meth c RX3 cX3_moneyAt 4 (some .int) D ct ad layC A) {σ : sn_S} {q0 : Nat} {x1 : Int32} {x2 : Int32} {x3 : Int32} (h0 : sn_isX3 q0) {o : (Int32 × Int32) ⊕ (Int32)} (hf : BX3_moneyAt_7 σ q0 x1 x2 x3 = some o) (kc : ∀ v, o = .inl v → sn_At p l e rmX3_moneyAt s m args below meth c Q D ct ad layC A 4 σ 7 [(0, .ref (ad q0)), (1, .int x1), (2, .int v.1), (3, .int v.2)] []) (kx : ∀ v, o = .inr v → sn_At p l e rmX3_moneyAt s m args below meth c Q D ct ad layC A 4 σ 50 [(2, .int v)] []) : sn_At p l e rmX3_moneyAt s m args below meth c Q D ct ad layC A 4 σ 7 [(0, .ref (ad q0)), (1, .int x1), (2, .int x2), (3, .int x3)] [] := by
  intro H locs ls hw hl
  have hx := C.1
  have hb := C.2.1
  unfold BX3_moneyAt_7 at hf
  refine lv_iload_n hx hb dX3_moneyAt_7 rfl (lv_at hl 3 rfl) ?_
  refine lv_aload_n hx hb dX3_moneyAt_8 rfl (lv_at hl 0 rfl) ?_
  refine sn_getI C hw fd_RX3_23 (sn_look h0 (k := 0) rfl) rfl dX3_moneyAt_9 ?_
  refine lv_icmp_ge (tgt := 50) hx hb dX3_moneyAt_12 (by decide) (fun c_1 => ?_) (fun c_1 => ?_)
  · have hf := sn_if c_1 hf
    cases hf
    exact kx _ rfl _ _ _ hw (lv_sub hl [2] rfl)
  · have hf := sn_el c_1 hf
    refine lv_aload_n hx hb dX3_moneyAt_15 rfl (lv_at hl 0 rfl) ?_
    refine sn_getC (r := (q0 + 2)) C hw fd_RX3_15 (sn_look h0 (k := 0) rfl) rfl dX3_moneyAt_16 ?_
    refine lv_iload_n hx hb dX3_moneyAt_19 rfl (lv_at hl 3 rfl) ?_
    obtain ⟨g_2, hf⟩ := sn_gdE hf
    refine sn_iald C hw (sn_look h0 (k := 2) rfl) g_2 dX3_moneyAt_20 ?_
    refine lv_iconst (v := (-1)) hx hb dX3_moneyAt_21 rfl ?_
    refine lv_icmp_eq (tgt := 44) hx hb dX3_moneyAt_22 (by decide) (fun c_3 => ?_) (fun c_3 => ?_)
    · have hf := sn_if c_3 hf
      exact wX3_moneyAt_44 C h0 hf kc kx _ _ _ hw (lv_sub hl [0, 1, 2, 3] rfl)
    · have hf := sn_el c_3 hf
      refine lv_aload_n hx hb dX3_moneyAt_25 rfl (lv_at hl 0 rfl) ?_
      refine sn_getC (r := (q0 + 2)) C hw fd_RX3_15 (sn_look h0 (k := 0) rfl) rfl dX3_moneyAt_26 ?_
      refine lv_iload_n hx hb dX3_moneyAt_29 rfl (lv_at hl 3 rfl) ?_
      obtain ⟨g_4, hf⟩ := sn_gdE hf
      refine sn_iald C hw (sn_look h0 (k := 2) rfl) g_4 dX3_moneyAt_30 ?_
      refine lv_iload_n hx hb dX3_moneyAt_31 rfl (lv_at hl 1 rfl) ?_
      refine lv_icmp_gt (tgt := 44) hx hb dX3_moneyAt_32 (by decide) (fun c_5 => ?_) (fun c_5 => ?_)
      · have hf := sn_if c_5 hf
        exact wX3_moneyAt_44 C h0 hf kc kx _ _ _ hw (lv_sub hl [0, 1, 2, 3] rfl)
      · have hf := sn_el c_5 hf
        refine lv_iload_n hx hb dX3_moneyAt_35 rfl (lv_at hl 2 rfl) ?_
        refine lv_aload_n hx hb dX3_moneyAt_36 rfl (lv_at hl 0 rfl) ?_
        refine sn_getC (r := (q0 + 1)) C hw fd_RX3_9 (sn_look h0 (k := 0) rfl) rfl dX3_moneyAt_37 ?_
        refine lv_iload_n hx hb dX3_moneyAt_40 rfl (lv_at hl 3 rfl) ?_
        obtain ⟨g_6, hf⟩ := sn_gdE hf
        refine sn_iald C hw (sn_look h0 (k := 1) rfl) g_6 dX3_moneyAt_41 ?_
        refine lv_isub hx hb dX3_moneyAt_42 ?_
        obtain ⟨y_7, e_8, hf⟩ := sn_ltE hf
        refine lv_topi (fun y_7_ e_8_ => ?_)
        obtain rfl : y_7 = y_7_ := e_8.trans e_8_.symm
        refine lv_istore_n (lv' := [(2, .int y_7), (0, .ref (ad q0)), (1, .int x1), (3, .int x3)]) hx hb dX3_moneyAt_43 rfl hl (by decide) rfl (fun ls hl => ?_)
        exact wX3_moneyAt_44 C h0 hf kc kx _ _ _ hw (lv_sub hl [1, 2, 0, 3] rfl)
theorem wX3_moneyAt_L7 (C : sn_C p s m args meth c RX3 cX3_moneyAt 4 (some .int) D ct ad layC A) {σ : sn_S} {q0 : Nat} {x1 : Int32}  (h0 : sn_isX3 q0) {z : Int32 × Int32} {t : Int32} (h : sn_it (LX3_moneyAt_7 σ q0 x1) 5000 z = some t) (kx : ∀ v, t = v → sn_At p l e rmX3_moneyAt s m args below meth c Q D ct ad layC A 4 σ 50 [(2, .int v)] []) : sn_At p l e rmX3_moneyAt s m args below meth c Q D ct ad layC A 4 σ 7 [(0, .ref (ad q0)), (1, .int x1), (2, .int z.1), (3, .int z.2)] [] :=
  sn_loop (f := LX3_moneyAt_7 σ q0 x1) (G := fun z => sn_At p l e rmX3_moneyAt s m args below meth c Q D ct ad layC A 4 σ 7 [(0, .ref (ad q0)), (1, .int x1), (2, .int z.1), (3, .int z.2)] []) (E := fun t => (∀ v, t = v → sn_At p l e rmX3_moneyAt s m args below meth c Q D ct ad layC A 4 σ 50 [(2, .int v)] []) ∧ True) (fun z o hf k1 k2 => wX3_moneyAt_7 C h0 hf (fun v e => k1 v e) (fun v e => (k2 _ e).1 v rfl)) 5000 z t h ⟨kx, trivial⟩
theorem wX3_moneyAt_in (C : sn_C p s m args meth c RX3 cX3_moneyAt 4 (some .int) D ct ad layC A) {σ : sn_S} {q0 : Nat} {x1 : Int32} (h0 : sn_isX3 q0) {o : Int32} (hf : fX3_moneyAt σ q0 x1 = some o) (kr : sn_Kr p l e rmX3_moneyAt s m args below meth c Q D ct ad layC A cX3_moneyAt .ireturn (true) σ [.int o]) : sn_At p l e rmX3_moneyAt s m args below meth c Q D ct ad layC A 4 σ 0 [(0, .ref (ad q0)), (1, .int x1)] [] := by
  intro H locs ls hw hl
  have hx := C.1
  have hb := C.2.1
  unfold fX3_moneyAt at hf
  refine lv_aload_n hx hb dX3_moneyAt_0 rfl (lv_at hl 0 rfl) ?_
  refine sn_getI C hw fd_RX3_27 (sn_look h0 (k := 0) rfl) rfl dX3_moneyAt_1 ?_
  obtain ⟨y_1, e_2, hf⟩ := sn_ltE hf
  refine lv_topi (fun y_1_ e_2_ => ?_)
  obtain rfl : y_1 = y_1_ := e_2.trans e_2_.symm
  refine lv_istore_n (lv' := [(2, .int y_1), (0, .ref (ad q0)), (1, .int x1)]) hx hb dX3_moneyAt_4 rfl hl (by decide) rfl (fun ls hl => ?_)
  refine lv_iconst (v := 0) hx hb dX3_moneyAt_5 rfl ?_
  refine lv_istore_n (lv' := [(3, .int (0 : Int32)), (2, .int y_1), (0, .ref (ad q0)), (1, .int x1)]) hx hb dX3_moneyAt_6 rfl hl (by decide) rfl (fun ls hl => ?_)
  obtain ⟨t_3, h_4, hf⟩ := sn_bd hf
  exact wX3_moneyAt_L7 C h0 h_4 (fun v e => by cases e; exact wX3_moneyAt_50 C h0 hf kr) _ _ _ hw (lv_sub hl [2, 3, 1, 0] rfl)
theorem ctX3_moneyAt (l : Launch) {σ : sn_S} {q0 : Nat} {x1 : Int32} (h0 : sn_isX3 q0) {o : Int32} (hf : fX3_moneyAt σ q0 x1 = some o) : sn_M l yX3_moneyAt cX3_moneyAt 4 (some .int) rmX3_moneyAt layC (fun ad => [.ref (ad q0), .int x1]) σ (some (fun _ => .int o)) σ :=
  sn_met (by decide) (fun _ => Nat.le_of_ble_eq_true rfl) (fun p e s m args below meth c ls D ct ad A C hw hl => wX3_moneyAt_in C h0 hf (fun H locs ls pc hw ok hd => sn_iret C hw hd) _ _ _ hw hl)
-- X3_firstBelow
abbrev rmX3_firstBelow : Room := { frames := 1, cells := 0, slots := 0, locals := 23 }
def BX3_firstBelow_23 (σ : sn_S) (q0 : Nat) : Option (Int32) :=
  (some (-1 : Int32))
def BX3_firstBelow_2 (σ : sn_S) (q0 : Nat) (x1 : Int32) (x2 : Int32) : Option ((Int32) ⊕ ((Unit) ⊕ Int32)) :=
  (if x1 ≤ x2 then
  (some (.inr (.inl ())))
  else
  ((fX3_moneyAt σ q0 x2).bind fun t_2 => (if 0 ≤ t_2 then
  (sn_lt (x2 + 1) fun y_5 => (some (.inl (y_5))))
  else
  (some (.inr (.inr x2))))))
def LX3_firstBelow_2 (σ : sn_S) (q0 : Nat) (x1 : Int32) (s : Int32) : Option ((Int32) ⊕ ((Unit) ⊕ Int32)) := BX3_firstBelow_2 σ q0 x1 s
def fX3_firstBelow (σ : sn_S) (q0 : Nat) (x1 : Int32) : Option Int32 :=
  ((sn_it (LX3_firstBelow_2 σ q0 x1) 5000 ((0 : Int32))).bind fun t_1 => Sum.elim (fun v_3 => (BX3_firstBelow_23 σ q0)) (fun r_4 => (some r_4)) t_1)
theorem wX3_firstBelow_23 (C : sn_C p s m args meth c RX3 cX3_firstBelow 3 (some .int) D ct ad layC A) {σ : sn_S} {q0 : Nat} (h0 : sn_isX3 q0) {o : Int32} (hf : BX3_firstBelow_23 σ q0 = some o) (kr : sn_Kr p l e rmX3_firstBelow s m args below meth c Q D ct ad layC A cX3_firstBelow .ireturn (true) σ [.int o]) : sn_At p l e rmX3_firstBelow s m args below meth c Q D ct ad layC A 3 σ 23 [] [] := by
  intro H locs ls hw hl
  have hx := C.1
  have hb := C.2.1
  unfold BX3_firstBelow_23 at hf
  refine lv_iconst (v := (-1)) hx hb dX3_firstBelow_23 rfl ?_
  cases hf
  exact kr _ _ _ _ hw rfl dX3_firstBelow_24
theorem wX3_firstBelow_2 (C : sn_C p s m args meth c RX3 cX3_firstBelow 3 (some .int) D ct ad layC A) {σ : sn_S} {q0 : Nat} {x1 : Int32} {x2 : Int32} (h0 : sn_isX3 q0) {o : (Int32) ⊕ ((Unit) ⊕ Int32)} (hf : BX3_firstBelow_2 σ q0 x1 x2 = some o) (kc : ∀ v, o = .inl v → sn_At p l e rmX3_firstBelow s m args below meth c Q D ct ad layC A 3 σ 2 [(0, .ref (ad q0)), (1, .int x1), (2, .int v)] []) (kx : ∀ v, o = .inr (.inl v) → sn_At p l e rmX3_firstBelow s m args below meth c Q D ct ad layC A 3 σ 23 [] []) (kr : ∀ r, o = .inr (.inr r) → sn_Kr p l e rmX3_firstBelow s m args below meth c Q D ct ad layC A cX3_firstBelow .ireturn (true) σ [.int r]) : sn_At p l e rmX3_firstBelow s m args below meth c Q D ct ad layC A 3 σ 2 [(0, .ref (ad q0)), (1, .int x1), (2, .int x2)] [] := by
  intro H locs ls hw hl
  have hx := C.1
  have hb := C.2.1
  unfold BX3_firstBelow_2 at hf
  refine lv_iload_n hx hb dX3_firstBelow_2 rfl (lv_at hl 2 rfl) ?_
  refine lv_iload_n hx hb dX3_firstBelow_3 rfl (lv_at hl 1 rfl) ?_
  refine lv_icmp_ge (tgt := 23) hx hb dX3_firstBelow_4 (by decide) (fun c_1 => ?_) (fun c_1 => ?_)
  · have hf := sn_if c_1 hf
    cases hf
    exact kx _ rfl _ _ _ hw (lv_sub hl [] rfl)
  · have hf := sn_el c_1 hf
    refine lv_aload_n hx hb dX3_firstBelow_7 rfl (lv_at hl 0 rfl) ?_
    refine lv_iload_n hx hb dX3_firstBelow_8 rfl (lv_at hl 2 rfl) ?_
    obtain ⟨t_2, h_3, hf⟩ := sn_bd hf
    refine sn_callVi (rest := []) C hw (ctX3_moneyAt l h0 h_3) kl_RX3_74 (sn_look h0 (k := 0) rfl) rfl rfl rfl rfl (Nat.le_of_ble_eq_true rfl) dX3_firstBelow_9 hl.1 (fun H locs hw => ?_)
    refine lv_if_ge (tgt := 17) hx hb dX3_firstBelow_12 (by decide) (fun c_4 => ?_) (fun c_4 => ?_)
    · have hf := sn_if c_4 hf
      obtain ⟨y_5, e_6, hf⟩ := sn_ltE hf
      refine lv_iinc (v := y_5) (lv' := [(2, .int y_5), (0, .ref (ad q0)), (1, .int x1)]) hx hb dX3_firstBelow_17 hl (k := 2) rfl (by rw [e_6]; rfl) (by decide) rfl (fun ls hl => ?_)
      refine lv_goto (tgt := 2) hx hb dX3_firstBelow_20 (by decide) ?_
      cases hf
      exact kc _ rfl _ _ _ hw (lv_sub hl [1, 2, 0] rfl)
    · have hf := sn_el c_4 hf
      refine lv_iload_n hx hb dX3_firstBelow_15 rfl (lv_at hl 2 rfl) ?_
      cases hf
      exact kr _ rfl _ _ _ _ hw rfl dX3_firstBelow_16
theorem wX3_firstBelow_L2 (C : sn_C p s m args meth c RX3 cX3_firstBelow 3 (some .int) D ct ad layC A) {σ : sn_S} {q0 : Nat} {x1 : Int32}  (h0 : sn_isX3 q0) {z : Int32} {t : (Unit) ⊕ Int32} (h : sn_it (LX3_firstBelow_2 σ q0 x1) 5000 z = some t) (kx : ∀ v, t = .inl v → sn_At p l e rmX3_firstBelow s m args below meth c Q D ct ad layC A 3 σ 23 [] []) (kr : ∀ r, t = .inr r → sn_Kr p l e rmX3_firstBelow s m args below meth c Q D ct ad layC A cX3_firstBelow .ireturn (true) σ [.int r]) : sn_At p l e rmX3_firstBelow s m args below meth c Q D ct ad layC A 3 σ 2 [(0, .ref (ad q0)), (1, .int x1), (2, .int z)] [] :=
  sn_loop (f := LX3_firstBelow_2 σ q0 x1) (G := fun z => sn_At p l e rmX3_firstBelow s m args below meth c Q D ct ad layC A 3 σ 2 [(0, .ref (ad q0)), (1, .int x1), (2, .int z)] []) (E := fun t => (∀ v, t = .inl v → sn_At p l e rmX3_firstBelow s m args below meth c Q D ct ad layC A 3 σ 23 [] []) ∧ (∀ r, t = .inr r → sn_Kr p l e rmX3_firstBelow s m args below meth c Q D ct ad layC A cX3_firstBelow .ireturn (true) σ [.int r])) (fun z o hf k1 k2 => wX3_firstBelow_2 C h0 hf (fun v e => k1 v e) (fun v e => (k2 _ e).1 v rfl) (fun r e => (k2 _ e).2 r rfl)) 5000 z t h ⟨kx, kr⟩
theorem wX3_firstBelow_in (C : sn_C p s m args meth c RX3 cX3_firstBelow 3 (some .int) D ct ad layC A) {σ : sn_S} {q0 : Nat} {x1 : Int32} (h0 : sn_isX3 q0) {o : Int32} (hf : fX3_firstBelow σ q0 x1 = some o) (kr : sn_Kr p l e rmX3_firstBelow s m args below meth c Q D ct ad layC A cX3_firstBelow .ireturn (true) σ [.int o]) : sn_At p l e rmX3_firstBelow s m args below meth c Q D ct ad layC A 3 σ 0 [(0, .ref (ad q0)), (1, .int x1)] [] := by
  intro H locs ls hw hl
  have hx := C.1
  have hb := C.2.1
  unfold fX3_firstBelow at hf
  refine lv_iconst (v := 0) hx hb dX3_firstBelow_0 rfl ?_
  refine lv_istore_n (lv' := [(2, .int (0 : Int32)), (0, .ref (ad q0)), (1, .int x1)]) hx hb dX3_firstBelow_1 rfl hl (by decide) rfl (fun ls hl => ?_)
  obtain ⟨t_1, h_2, hf⟩ := sn_bd hf
  rcases t_1 with v_3 | r_4
  · rw [Sum.elim_inl] at hf
    exact wX3_firstBelow_L2 C h0 h_2 (fun v e => by cases e; exact wX3_firstBelow_23 C h0 hf kr) (fun r e => by cases e) _ _ _ hw (lv_sub hl [1, 2, 0] rfl)
  · rw [Sum.elim_inr] at hf
    cases hf
    exact wX3_firstBelow_L2 C h0 h_2 (fun v e => by cases e) (fun r e => by cases e; exact kr) _ _ _ hw (lv_sub hl [1, 2, 0] rfl)
theorem ctX3_firstBelow (l : Launch) {σ : sn_S} {q0 : Nat} {x1 : Int32} (h0 : sn_isX3 q0) {o : Int32} (hf : fX3_firstBelow σ q0 x1 = some o) : sn_M l yX3_firstBelow cX3_firstBelow 3 (some .int) rmX3_firstBelow layC (fun ad => [.ref (ad q0), .int x1]) σ (some (fun _ => .int o)) σ :=
  sn_met (by decide) (fun _ => Nat.le_of_ble_eq_true rfl) (fun p e s m args below meth c ls D ct ad A C hw hl => wX3_firstBelow_in C h0 hf (fun H locs ls pc hw ok hd => sn_iret C hw hd) _ _ _ hw hl)
-- X3_poorestMinute
abbrev rmX3_poorestMinute : Room := { frames := 1, cells := 0, slots := 0, locals := 23 }
def BX3_poorestMinute_30 (σ : sn_S) (q0 : Nat) (x2 : Int32) : Option (Int32) :=
  (some x2)
def BX3_poorestMinute_24 (σ : sn_S) (q0 : Nat) (x1 : Int32) (x2 : Int32) (x3 : Int32) : Option ((Int32 × Int32) ⊕ (Int32)) :=
  (sn_lt (x3 + 1) fun y_1 => (some (.inl (x2, y_1))))
def BX3_poorestMinute_4 (σ : sn_S) (q0 : Nat) (x1 : Int32) (x2 : Int32) (x3 : Int32) : Option ((Int32 × Int32) ⊕ (Int32)) :=
  (if x1 ≤ x3 then
  (some (.inr (x2)))
  else
  ((fX3_moneyAt σ q0 x3).bind fun t_2 => ((fX3_moneyAt σ q0 x2).bind fun t_4 => (if t_4 ≤ t_2 then
  (BX3_poorestMinute_24 σ q0 x1 x2 x3)
  else
  (BX3_poorestMinute_24 σ q0 x1 x3 x3)))))
def LX3_poorestMinute_4 (σ : sn_S) (q0 : Nat) (x1 : Int32) (s : Int32 × Int32) : Option ((Int32 × Int32) ⊕ (Int32)) := BX3_poorestMinute_4 σ q0 x1 s.1 s.2
def fX3_poorestMinute (σ : sn_S) (q0 : Nat) (x1 : Int32) : Option Int32 :=
  ((sn_it (LX3_poorestMinute_4 σ q0 x1) 5000 ((0 : Int32), (1 : Int32))).bind fun t_1 => (BX3_poorestMinute_30 σ q0 t_1))
theorem wX3_poorestMinute_30 (C : sn_C p s m args meth c RX3 cX3_poorestMinute 4 (some .int) D ct ad layC A) {σ : sn_S} {q0 : Nat} {x2 : Int32} (h0 : sn_isX3 q0) {o : Int32} (hf : BX3_poorestMinute_30 σ q0 x2 = some o) (kr : sn_Kr p l e rmX3_poorestMinute s m args below meth c Q D ct ad layC A cX3_poorestMinute .ireturn (true) σ [.int o]) : sn_At p l e rmX3_poorestMinute s m args below meth c Q D ct ad layC A 4 σ 30 [(2, .int x2)] [] := by
  intro H locs ls hw hl
  have hx := C.1
  have hb := C.2.1
  unfold BX3_poorestMinute_30 at hf
  refine lv_iload_n hx hb dX3_poorestMinute_30 rfl (lv_at hl 0 rfl) ?_
  cases hf
  exact kr _ _ _ _ hw rfl dX3_poorestMinute_31
theorem wX3_poorestMinute_24 (C : sn_C p s m args meth c RX3 cX3_poorestMinute 4 (some .int) D ct ad layC A) {σ : sn_S} {q0 : Nat} {x1 : Int32} {x2 : Int32} {x3 : Int32} (h0 : sn_isX3 q0) {o : (Int32 × Int32) ⊕ (Int32)} (hf : BX3_poorestMinute_24 σ q0 x1 x2 x3 = some o) (kc : ∀ v, o = .inl v → sn_At p l e rmX3_poorestMinute s m args below meth c Q D ct ad layC A 4 σ 4 [(0, .ref (ad q0)), (1, .int x1), (2, .int v.1), (3, .int v.2)] []) (kx : ∀ v, o = .inr v → sn_At p l e rmX3_poorestMinute s m args below meth c Q D ct ad layC A 4 σ 30 [(2, .int v)] []) : sn_At p l e rmX3_poorestMinute s m args below meth c Q D ct ad layC A 4 σ 24 [(0, .ref (ad q0)), (1, .int x1), (2, .int x2), (3, .int x3)] [] := by
  intro H locs ls hw hl
  have hx := C.1
  have hb := C.2.1
  unfold BX3_poorestMinute_24 at hf
  obtain ⟨y_1, e_2, hf⟩ := sn_ltE hf
  refine lv_iinc (v := y_1) (lv' := [(3, .int y_1), (0, .ref (ad q0)), (1, .int x1), (2, .int x2)]) hx hb dX3_poorestMinute_24 hl (k := 3) rfl (by rw [e_2]; rfl) (by decide) rfl (fun ls hl => ?_)
  refine lv_goto (tgt := 4) hx hb dX3_poorestMinute_27 (by decide) ?_
  cases hf
  exact kc _ rfl _ _ _ hw (lv_sub hl [1, 2, 3, 0] rfl)
theorem wX3_poorestMinute_4 (C : sn_C p s m args meth c RX3 cX3_poorestMinute 4 (some .int) D ct ad layC A) {σ : sn_S} {q0 : Nat} {x1 : Int32} {x2 : Int32} {x3 : Int32} (h0 : sn_isX3 q0) {o : (Int32 × Int32) ⊕ (Int32)} (hf : BX3_poorestMinute_4 σ q0 x1 x2 x3 = some o) (kc : ∀ v, o = .inl v → sn_At p l e rmX3_poorestMinute s m args below meth c Q D ct ad layC A 4 σ 4 [(0, .ref (ad q0)), (1, .int x1), (2, .int v.1), (3, .int v.2)] []) (kx : ∀ v, o = .inr v → sn_At p l e rmX3_poorestMinute s m args below meth c Q D ct ad layC A 4 σ 30 [(2, .int v)] []) : sn_At p l e rmX3_poorestMinute s m args below meth c Q D ct ad layC A 4 σ 4 [(0, .ref (ad q0)), (1, .int x1), (2, .int x2), (3, .int x3)] [] := by
  intro H locs ls hw hl
  have hx := C.1
  have hb := C.2.1
  unfold BX3_poorestMinute_4 at hf
  refine lv_iload_n hx hb dX3_poorestMinute_4 rfl (lv_at hl 3 rfl) ?_
  refine lv_iload_n hx hb dX3_poorestMinute_5 rfl (lv_at hl 1 rfl) ?_
  refine lv_icmp_ge (tgt := 30) hx hb dX3_poorestMinute_6 (by decide) (fun c_1 => ?_) (fun c_1 => ?_)
  · have hf := sn_if c_1 hf
    cases hf
    exact kx _ rfl _ _ _ hw (lv_sub hl [2] rfl)
  · have hf := sn_el c_1 hf
    refine lv_aload_n hx hb dX3_poorestMinute_9 rfl (lv_at hl 0 rfl) ?_
    refine lv_iload_n hx hb dX3_poorestMinute_10 rfl (lv_at hl 3 rfl) ?_
    obtain ⟨t_2, h_3, hf⟩ := sn_bd hf
    refine sn_callVi (rest := []) C hw (ctX3_moneyAt l h0 h_3) kl_RX3_74 (sn_look h0 (k := 0) rfl) rfl rfl rfl rfl (Nat.le_of_ble_eq_true rfl) dX3_poorestMinute_11 hl.1 (fun H locs hw => ?_)
    refine lv_aload_n hx hb dX3_poorestMinute_14 rfl (lv_at hl 0 rfl) ?_
    refine lv_iload_n hx hb dX3_poorestMinute_15 rfl (lv_at hl 2 rfl) ?_
    obtain ⟨t_4, h_5, hf⟩ := sn_bd hf
    refine sn_callVi (rest := [.int t_2]) C hw (ctX3_moneyAt l h0 h_5) kl_RX3_74 (sn_look h0 (k := 0) rfl) rfl rfl rfl rfl (Nat.le_of_ble_eq_true rfl) dX3_poorestMinute_16 hl.1 (fun H locs hw => ?_)
    refine lv_icmp_ge (tgt := 24) hx hb dX3_poorestMinute_19 (by decide) (fun c_6 => ?_) (fun c_6 => ?_)
    · have hf := sn_if c_6 hf
      exact wX3_poorestMinute_24 C h0 hf kc kx _ _ _ hw (lv_sub hl [0, 1, 2, 3] rfl)
    · have hf := sn_el c_6 hf
      refine lv_iload_n hx hb dX3_poorestMinute_22 rfl (lv_at hl 3 rfl) ?_
      refine lv_istore_n (lv' := [(2, .int x3), (0, .ref (ad q0)), (1, .int x1), (3, .int x3)]) hx hb dX3_poorestMinute_23 rfl hl (by decide) rfl (fun ls hl => ?_)
      exact wX3_poorestMinute_24 C h0 hf kc kx _ _ _ hw (lv_sub hl [1, 2, 0, 3] rfl)
theorem wX3_poorestMinute_L4 (C : sn_C p s m args meth c RX3 cX3_poorestMinute 4 (some .int) D ct ad layC A) {σ : sn_S} {q0 : Nat} {x1 : Int32}  (h0 : sn_isX3 q0) {z : Int32 × Int32} {t : Int32} (h : sn_it (LX3_poorestMinute_4 σ q0 x1) 5000 z = some t) (kx : ∀ v, t = v → sn_At p l e rmX3_poorestMinute s m args below meth c Q D ct ad layC A 4 σ 30 [(2, .int v)] []) : sn_At p l e rmX3_poorestMinute s m args below meth c Q D ct ad layC A 4 σ 4 [(0, .ref (ad q0)), (1, .int x1), (2, .int z.1), (3, .int z.2)] [] :=
  sn_loop (f := LX3_poorestMinute_4 σ q0 x1) (G := fun z => sn_At p l e rmX3_poorestMinute s m args below meth c Q D ct ad layC A 4 σ 4 [(0, .ref (ad q0)), (1, .int x1), (2, .int z.1), (3, .int z.2)] []) (E := fun t => (∀ v, t = v → sn_At p l e rmX3_poorestMinute s m args below meth c Q D ct ad layC A 4 σ 30 [(2, .int v)] []) ∧ True) (fun z o hf k1 k2 => wX3_poorestMinute_4 C h0 hf (fun v e => k1 v e) (fun v e => (k2 _ e).1 v rfl)) 5000 z t h ⟨kx, trivial⟩
theorem wX3_poorestMinute_in (C : sn_C p s m args meth c RX3 cX3_poorestMinute 4 (some .int) D ct ad layC A) {σ : sn_S} {q0 : Nat} {x1 : Int32} (h0 : sn_isX3 q0) {o : Int32} (hf : fX3_poorestMinute σ q0 x1 = some o) (kr : sn_Kr p l e rmX3_poorestMinute s m args below meth c Q D ct ad layC A cX3_poorestMinute .ireturn (true) σ [.int o]) : sn_At p l e rmX3_poorestMinute s m args below meth c Q D ct ad layC A 4 σ 0 [(0, .ref (ad q0)), (1, .int x1)] [] := by
  intro H locs ls hw hl
  have hx := C.1
  have hb := C.2.1
  unfold fX3_poorestMinute at hf
  refine lv_iconst (v := 0) hx hb dX3_poorestMinute_0 rfl ?_
  refine lv_istore_n (lv' := [(2, .int (0 : Int32)), (0, .ref (ad q0)), (1, .int x1)]) hx hb dX3_poorestMinute_1 rfl hl (by decide) rfl (fun ls hl => ?_)
  refine lv_iconst (v := 1) hx hb dX3_poorestMinute_2 rfl ?_
  refine lv_istore_n (lv' := [(3, .int (1 : Int32)), (2, .int (0 : Int32)), (0, .ref (ad q0)), (1, .int x1)]) hx hb dX3_poorestMinute_3 rfl hl (by decide) rfl (fun ls hl => ?_)
  obtain ⟨t_1, h_2, hf⟩ := sn_bd hf
  exact wX3_poorestMinute_L4 C h0 h_2 (fun v e => by cases e; exact wX3_poorestMinute_30 C h0 hf kr) _ _ _ hw (lv_sub hl [2, 3, 1, 0] rfl)
theorem ctX3_poorestMinute (l : Launch) {σ : sn_S} {q0 : Nat} {x1 : Int32} (h0 : sn_isX3 q0) {o : Int32} (hf : fX3_poorestMinute σ q0 x1 = some o) : sn_M l yX3_poorestMinute cX3_poorestMinute 4 (some .int) rmX3_poorestMinute layC (fun ad => [.ref (ad q0), .int x1]) σ (some (fun _ => .int o)) σ :=
  sn_met (by decide) (fun _ => Nat.le_of_ble_eq_true rfl) (fun p e s m args below meth c ls D ct ad A C hw hl => wX3_poorestMinute_in C h0 hf (fun H locs ls pc hw ok hd => sn_iret C hw hd) _ _ _ hw hl)
-- X4_weigh
abbrev rmX4_weigh : Room := { frames := 0, cells := 0, slots := 0, locals := 0 }
def BX4_weigh_69 (σ : sn_S) : Option (sn_S) :=
  (some σ)
def BX4_weigh_55 (σ : sn_S) (x1 : Int32) (x2 : Int32) (x3 : Int32) (x4 : Int64) : Option ((sn_S × Int32) ⊕ (sn_S)) :=
  (sn_gd (sn_in x3 9) (sn_lt (sn_pL σ 58 x3.toNatClampNeg x4) fun σ_2 => (sn_lt (x3 + 1) fun y_4 => (some (.inl (σ_2, y_4))))))
def BX4_weigh_46 (σ : sn_S) (x1 : Int32) (x2 : Int32) (x3 : Int32) (x4 : Int64) (x6 : Int32) (t0 : Int64) (t1 : Int64) : Option ((Int64 × Int32) ⊕ (Int64)) :=
  (sn_lt (t0 * t1) fun y_1 => (sn_lt (x6 + 1) fun y_3 => (some (.inl (y_1, y_3)))))
def BX4_weigh_22 (σ : sn_S) (x1 : Int32) (x2 : Int32) (x3 : Int32) (x4 : Int64) (x6 : Int32) : Option ((Int64 × Int32) ⊕ (Int64)) :=
  (if x1 ≤ x6 then
  (some (.inr (x4)))
  else
  (if x3 ≤ x6 then
  (BX4_weigh_46 σ x1 x2 x3 x4 x6 x4 (((10 : Int32) - x2).toInt64))
  else
  (BX4_weigh_46 σ x1 x2 x3 x4 x6 x4 x2.toInt64)))
def LX4_weigh_22 (σ : sn_S) (x1 : Int32) (x2 : Int32) (x3 : Int32) (s : Int64 × Int32) : Option ((Int64 × Int32) ⊕ (Int64)) := BX4_weigh_22 σ x1 x2 x3 s.1 s.2
def BX4_weigh_2 (σ : sn_S) (x1 : Int32) (x2 : Int32) (x3 : Int32) : Option ((sn_S × Int32) ⊕ (sn_S)) :=
  (if x1 < x3 then
  (some (.inr (σ)))
  else
  (if (Int32.ofNat 9) ≤ x3 then
  (some (.inr (σ)))
  else
  ((sn_it (LX4_weigh_22 σ x1 x2 x3) 5000 ((1 : Int64), (0 : Int32))).bind fun t_3 => (BX4_weigh_55 σ x1 x2 x3 t_3))))
def LX4_weigh_2 (x1 : Int32) (x2 : Int32) (s : sn_S × Int32) : Option ((sn_S × Int32) ⊕ (sn_S)) := BX4_weigh_2 s.1 x1 x2 s.2
def fX4_weigh (σ : sn_S) (x1 : Int32) (x2 : Int32) : Option sn_S :=
  ((sn_it (LX4_weigh_2 x1 x2) 5000 (σ, (0 : Int32))).bind fun t_1 => (BX4_weigh_69 t_1))
theorem wX4_weigh_69 (C : sn_C p s m args meth c RX4 cX4_weigh 7 none D ct ad layC A) {σ : sn_S}  {o : sn_S} (hf : BX4_weigh_69 σ = some o) (kr : sn_Kr p l e rmX4_weigh s m args below meth c Q D ct ad layC A cX4_weigh .return_ (true) o []) : sn_At p l e rmX4_weigh s m args below meth c Q D ct ad layC A 7 σ 69 [] [] := by
  intro H locs ls hw hl
  have hx := C.1
  have hb := C.2.1
  unfold BX4_weigh_69 at hf
  cases hf
  exact kr _ _ _ _ hw rfl dX4_weigh_69
theorem wX4_weigh_55 (C : sn_C p s m args meth c RX4 cX4_weigh 7 none D ct ad layC A) {σ : sn_S} {x1 : Int32} {x2 : Int32} {x3 : Int32} {x4 : Int64}  {o : (sn_S × Int32) ⊕ (sn_S)} (hf : BX4_weigh_55 σ x1 x2 x3 x4 = some o) (kc : ∀ v, o = .inl v → sn_At p l e rmX4_weigh s m args below meth c Q D ct ad layC A 7 v.1 2 [(0, .ref (ad 57)), (1, .int x1), (2, .int x2), (3, .int v.2)] []) (kx : ∀ v, o = .inr v → sn_At p l e rmX4_weigh s m args below meth c Q D ct ad layC A 7 v 69 [] []) : sn_At p l e rmX4_weigh s m args below meth c Q D ct ad layC A 7 σ 55 [(0, .ref (ad 57)), (1, .int x1), (2, .int x2), (3, .int x3), (4, .long x4)] [] := by
  intro H locs ls hw hl
  have hx := C.1
  have hb := C.2.1
  unfold BX4_weigh_55 at hf
  refine lv_aload_n hx hb dX4_weigh_55 rfl (lv_at hl 0 rfl) ?_
  refine sn_getC (r := 58) C hw fd_RX4_9 layC_57 rfl dX4_weigh_56 ?_
  refine lv_iload_n hx hb dX4_weigh_59 rfl (lv_at hl 3 rfl) ?_
  refine lv_lload hx hb dX4_weigh_60 (lv_at hl 4 rfl) ?_
  obtain ⟨g_1, hf⟩ := sn_gdE hf
  refine sn_last C hw layC_58 g_1 dX4_weigh_62 (fun H locs hw => ?_)
  obtain ⟨σ_2, e_3, hf⟩ := sn_ltE hf
  rw [← e_3] at hw
  obtain ⟨y_4, e_5, hf⟩ := sn_ltE hf
  refine lv_iinc (v := y_4) (lv' := [(3, .int y_4), (0, .ref (ad 57)), (1, .int x1), (2, .int x2), (4, .long x4)]) hx hb dX4_weigh_63 hl (k := 3) rfl (by rw [e_5]; rfl) (by decide) rfl (fun ls hl => ?_)
  refine lv_goto (tgt := 2) hx hb dX4_weigh_66 (by decide) ?_
  cases hf
  exact kc _ rfl _ _ _ hw (lv_sub hl [1, 2, 3, 0] rfl)
theorem wX4_weigh_46 (C : sn_C p s m args meth c RX4 cX4_weigh 7 none D ct ad layC A) {σ : sn_S} {x1 : Int32} {x2 : Int32} {x3 : Int32} {x4 : Int64} {x6 : Int32} {t0 : Int64} {t1 : Int64}  {o : (Int64 × Int32) ⊕ (Int64)} (hf : BX4_weigh_46 σ x1 x2 x3 x4 x6 t0 t1 = some o) (kc : ∀ v, o = .inl v → sn_At p l e rmX4_weigh s m args below meth c Q D ct ad layC A 7 σ 22 [(0, .ref (ad 57)), (1, .int x1), (2, .int x2), (3, .int x3), (4, .long v.1), (6, .int v.2)] []) (kx : ∀ v, o = .inr v → sn_At p l e rmX4_weigh s m args below meth c Q D ct ad layC A 7 σ 55 [(0, .ref (ad 57)), (1, .int x1), (2, .int x2), (3, .int x3), (4, .long v)] []) : sn_At p l e rmX4_weigh s m args below meth c Q D ct ad layC A 7 σ 46 [(0, .ref (ad 57)), (1, .int x1), (2, .int x2), (3, .int x3), (4, .long x4), (6, .int x6)] [.long t1, .long t0] := by
  intro H locs ls hw hl
  have hx := C.1
  have hb := C.2.1
  unfold BX4_weigh_46 at hf
  refine lv_lmul hx hb dX4_weigh_46 ?_
  obtain ⟨y_1, e_2, hf⟩ := sn_ltE hf
  refine lv_topl (fun y_1_ e_2_ => ?_)
  obtain rfl : y_1 = y_1_ := e_2.trans e_2_.symm
  refine lv_lstore (lv' := [(4, .long y_1), (0, .ref (ad 57)), (1, .int x1), (2, .int x2), (3, .int x3), (6, .int x6)]) hx hb dX4_weigh_47 hl (by decide) rfl (fun ls hl => ?_)
  obtain ⟨y_3, e_4, hf⟩ := sn_ltE hf
  refine lv_iinc (v := y_3) (lv' := [(6, .int y_3), (4, .long y_1), (0, .ref (ad 57)), (1, .int x1), (2, .int x2), (3, .int x3)]) hx hb dX4_weigh_49 hl (k := 5) rfl (by rw [e_4]; rfl) (by decide) rfl (fun ls hl => ?_)
  refine lv_goto (tgt := 22) hx hb dX4_weigh_52 (by decide) ?_
  cases hf
  exact kc _ rfl _ _ _ hw (lv_sub hl [2, 3, 4, 5, 1, 0] rfl)
theorem wX4_weigh_22 (C : sn_C p s m args meth c RX4 cX4_weigh 7 none D ct ad layC A) {σ : sn_S} {x1 : Int32} {x2 : Int32} {x3 : Int32} {x4 : Int64} {x6 : Int32}  {o : (Int64 × Int32) ⊕ (Int64)} (hf : BX4_weigh_22 σ x1 x2 x3 x4 x6 = some o) (kc : ∀ v, o = .inl v → sn_At p l e rmX4_weigh s m args below meth c Q D ct ad layC A 7 σ 22 [(0, .ref (ad 57)), (1, .int x1), (2, .int x2), (3, .int x3), (4, .long v.1), (6, .int v.2)] []) (kx : ∀ v, o = .inr v → sn_At p l e rmX4_weigh s m args below meth c Q D ct ad layC A 7 σ 55 [(0, .ref (ad 57)), (1, .int x1), (2, .int x2), (3, .int x3), (4, .long v)] []) : sn_At p l e rmX4_weigh s m args below meth c Q D ct ad layC A 7 σ 22 [(0, .ref (ad 57)), (1, .int x1), (2, .int x2), (3, .int x3), (4, .long x4), (6, .int x6)] [] := by
  intro H locs ls hw hl
  have hx := C.1
  have hb := C.2.1
  unfold BX4_weigh_22 at hf
  refine lv_iload hx hb dX4_weigh_22 (lv_at hl 5 rfl) ?_
  refine lv_iload_n hx hb dX4_weigh_24 rfl (lv_at hl 1 rfl) ?_
  refine lv_icmp_ge (tgt := 55) hx hb dX4_weigh_25 (by decide) (fun c_1 => ?_) (fun c_1 => ?_)
  · have hf := sn_if c_1 hf
    cases hf
    exact kx _ rfl _ _ _ hw (lv_sub hl [0, 1, 2, 3, 4] rfl)
  · have hf := sn_el c_1 hf
    refine lv_lload hx hb dX4_weigh_28 (lv_at hl 4 rfl) ?_
    refine lv_iload hx hb dX4_weigh_30 (lv_at hl 5 rfl) ?_
    refine lv_iload_n hx hb dX4_weigh_32 rfl (lv_at hl 3 rfl) ?_
    refine lv_icmp_ge (tgt := 41) hx hb dX4_weigh_33 (by decide) (fun c_2 => ?_) (fun c_2 => ?_)
    · have hf := sn_if c_2 hf
      refine lv_bipush (v := 10) hx hb dX4_weigh_41 (by decide) ?_
      refine lv_iload_n hx hb dX4_weigh_43 rfl (lv_at hl 2 rfl) ?_
      refine lv_isub hx hb dX4_weigh_44 ?_
      refine lv_i2l hx hb dX4_weigh_45 rfl ?_
      exact wX4_weigh_46 C  hf kc kx _ _ _ hw (lv_sub hl [0, 1, 2, 3, 4, 5] rfl)
    · have hf := sn_el c_2 hf
      refine lv_iload_n hx hb dX4_weigh_36 rfl (lv_at hl 2 rfl) ?_
      refine lv_i2l hx hb dX4_weigh_37 rfl ?_
      refine lv_goto (tgt := 46) hx hb dX4_weigh_38 (by decide) ?_
      exact wX4_weigh_46 C  hf kc kx _ _ _ hw (lv_sub hl [0, 1, 2, 3, 4, 5] rfl)
theorem wX4_weigh_L22 (C : sn_C p s m args meth c RX4 cX4_weigh 7 none D ct ad layC A) {σ : sn_S} {x1 : Int32} {x2 : Int32} {x3 : Int32}   {z : Int64 × Int32} {t : Int64} (h : sn_it (LX4_weigh_22 σ x1 x2 x3) 5000 z = some t) (kx : ∀ v, t = v → sn_At p l e rmX4_weigh s m args below meth c Q D ct ad layC A 7 σ 55 [(0, .ref (ad 57)), (1, .int x1), (2, .int x2), (3, .int x3), (4, .long v)] []) : sn_At p l e rmX4_weigh s m args below meth c Q D ct ad layC A 7 σ 22 [(0, .ref (ad 57)), (1, .int x1), (2, .int x2), (3, .int x3), (4, .long z.1), (6, .int z.2)] [] :=
  sn_loop (f := LX4_weigh_22 σ x1 x2 x3) (G := fun z => sn_At p l e rmX4_weigh s m args below meth c Q D ct ad layC A 7 σ 22 [(0, .ref (ad 57)), (1, .int x1), (2, .int x2), (3, .int x3), (4, .long z.1), (6, .int z.2)] []) (E := fun t => (∀ v, t = v → sn_At p l e rmX4_weigh s m args below meth c Q D ct ad layC A 7 σ 55 [(0, .ref (ad 57)), (1, .int x1), (2, .int x2), (3, .int x3), (4, .long v)] []) ∧ True) (fun z o hf k1 k2 => wX4_weigh_22 C  hf (fun v e => k1 v e) (fun v e => (k2 _ e).1 v rfl)) 5000 z t h ⟨kx, trivial⟩
theorem wX4_weigh_2 (C : sn_C p s m args meth c RX4 cX4_weigh 7 none D ct ad layC A) {σ : sn_S} {x1 : Int32} {x2 : Int32} {x3 : Int32}  {o : (sn_S × Int32) ⊕ (sn_S)} (hf : BX4_weigh_2 σ x1 x2 x3 = some o) (kc : ∀ v, o = .inl v → sn_At p l e rmX4_weigh s m args below meth c Q D ct ad layC A 7 v.1 2 [(0, .ref (ad 57)), (1, .int x1), (2, .int x2), (3, .int v.2)] []) (kx : ∀ v, o = .inr v → sn_At p l e rmX4_weigh s m args below meth c Q D ct ad layC A 7 v 69 [] []) : sn_At p l e rmX4_weigh s m args below meth c Q D ct ad layC A 7 σ 2 [(0, .ref (ad 57)), (1, .int x1), (2, .int x2), (3, .int x3)] [] := by
  intro H locs ls hw hl
  have hx := C.1
  have hb := C.2.1
  unfold BX4_weigh_2 at hf
  refine lv_iload_n hx hb dX4_weigh_2 rfl (lv_at hl 3 rfl) ?_
  refine lv_iload_n hx hb dX4_weigh_3 rfl (lv_at hl 1 rfl) ?_
  refine lv_icmp_gt (tgt := 69) hx hb dX4_weigh_4 (by decide) (fun c_1 => ?_) (fun c_1 => ?_)
  · have hf := sn_if c_1 hf
    cases hf
    exact kx _ rfl _ _ _ hw (lv_sub hl [] rfl)
  · have hf := sn_el c_1 hf
    refine lv_iload_n hx hb dX4_weigh_7 rfl (lv_at hl 3 rfl) ?_
    refine lv_aload_n hx hb dX4_weigh_8 rfl (lv_at hl 0 rfl) ?_
    refine sn_getC (r := 58) C hw fd_RX4_9 layC_57 rfl dX4_weigh_9 ?_
    refine sn_alen C hw layC_58 rfl rfl dX4_weigh_12 ?_
    refine lv_icmp_ge (tgt := 69) hx hb dX4_weigh_13 (by decide) (fun c_2 => ?_) (fun c_2 => ?_)
    · have hf := sn_if c_2 hf
      cases hf
      exact kx _ rfl _ _ _ hw (lv_sub hl [] rfl)
    · have hf := sn_el c_2 hf
      refine lv_lconst (v := 1) hx hb dX4_weigh_16 rfl ?_
      refine lv_lstore (lv' := [(4, .long (1 : Int64)), (0, .ref (ad 57)), (1, .int x1), (2, .int x2), (3, .int x3)]) hx hb dX4_weigh_17 hl (by decide) rfl (fun ls hl => ?_)
      refine lv_iconst (v := 0) hx hb dX4_weigh_19 rfl ?_
      refine lv_istore (lv' := [(6, .int (0 : Int32)), (4, .long (1 : Int64)), (0, .ref (ad 57)), (1, .int x1), (2, .int x2), (3, .int x3)]) hx hb dX4_weigh_20 hl (by decide) rfl (fun ls hl => ?_)
      obtain ⟨t_3, h_4, hf⟩ := sn_bd hf
      exact wX4_weigh_L22 C  h_4 (fun v e => by cases e; exact wX4_weigh_55 C  hf kc kx) _ _ _ hw (lv_sub hl [2, 3, 4, 5, 1, 0] rfl)
theorem wX4_weigh_L2 (C : sn_C p s m args meth c RX4 cX4_weigh 7 none D ct ad layC A) {x1 : Int32} {x2 : Int32}   {z : sn_S × Int32} {t : sn_S} (h : sn_it (LX4_weigh_2 x1 x2) 5000 z = some t) (kx : ∀ v, t = v → sn_At p l e rmX4_weigh s m args below meth c Q D ct ad layC A 7 v 69 [] []) : sn_At p l e rmX4_weigh s m args below meth c Q D ct ad layC A 7 z.1 2 [(0, .ref (ad 57)), (1, .int x1), (2, .int x2), (3, .int z.2)] [] :=
  sn_loop (f := LX4_weigh_2 x1 x2) (G := fun z => sn_At p l e rmX4_weigh s m args below meth c Q D ct ad layC A 7 z.1 2 [(0, .ref (ad 57)), (1, .int x1), (2, .int x2), (3, .int z.2)] []) (E := fun t => (∀ v, t = v → sn_At p l e rmX4_weigh s m args below meth c Q D ct ad layC A 7 v 69 [] []) ∧ True) (fun z o hf k1 k2 => wX4_weigh_2 C  hf (fun v e => k1 v e) (fun v e => (k2 _ e).1 v rfl)) 5000 z t h ⟨kx, trivial⟩
theorem wX4_weigh_in (C : sn_C p s m args meth c RX4 cX4_weigh 7 none D ct ad layC A) {σ : sn_S} {x1 : Int32} {x2 : Int32}  {o : sn_S} (hf : fX4_weigh σ x1 x2 = some o) (kr : sn_Kr p l e rmX4_weigh s m args below meth c Q D ct ad layC A cX4_weigh .return_ (true) o []) : sn_At p l e rmX4_weigh s m args below meth c Q D ct ad layC A 7 σ 0 [(0, .ref (ad 57)), (1, .int x1), (2, .int x2)] [] := by
  intro H locs ls hw hl
  have hx := C.1
  have hb := C.2.1
  unfold fX4_weigh at hf
  refine lv_iconst (v := 0) hx hb dX4_weigh_0 rfl ?_
  refine lv_istore_n (lv' := [(3, .int (0 : Int32)), (0, .ref (ad 57)), (1, .int x1), (2, .int x2)]) hx hb dX4_weigh_1 rfl hl (by decide) rfl (fun ls hl => ?_)
  obtain ⟨t_1, h_2, hf⟩ := sn_bd hf
  exact wX4_weigh_L2 C  h_2 (fun v e => by cases e; exact wX4_weigh_69 C  hf kr) _ _ _ hw (lv_sub hl [1, 2, 3, 0] rfl)
theorem ctX4_weigh (l : Launch) {σ : sn_S} {x1 : Int32} {x2 : Int32}  {o : sn_S} (hf : fX4_weigh σ x1 x2 = some o) : sn_M l yX4_weigh cX4_weigh 7 none rmX4_weigh layC (fun ad => [.ref (ad 57), .int x1, .int x2]) σ none o :=
  sn_met (by decide) (fun _ => Nat.le_of_ble_eq_true rfl) (fun p e s m args below meth c ls D ct ad A C hw hl => wX4_weigh_in C  hf (fun H locs ls pc hw ok hd => sn_vret C hw hd) _ _ _ hw hl)
-- X4_worth
abbrev rmX4_worth : Room := { frames := 4, cells := 0, slots := 0, locals := 99 }
def fX4_worth (σ : sn_S) (q1 : Nat) (x2 : Int32) (x3 : Int32) (x4 : Int32) : Option (Int64 × sn_S) :=
  (if x2 = 0 then
  (sn_gd (sn_in x3 6) (if (sn_I σ (59 + 10) x3.toNatClampNeg) = 0 then
  (some ((0 : Int64), σ))
  else
  (some ((1 : Int64), σ))))
  else
  (sn_gd (sn_in (2 : Int32) 11) ((fX3_reckon σ 70 q1 59 (sn_I σ (q1 + 1) (2 : Int32).toNatClampNeg)).bind fun t_3 => (if x2 = (1 : Int32) then
  (sn_gd (sn_in x3 6) (some ((sn_I t_3 (70 + 1) x3.toNatClampNeg).toInt64, t_3)))
  else
  ((fX3_firstBelow t_3 70 x4).bind fun t_6 => (if t_6 = (-1 : Int32) then
  (some ((0 : Int64), t_3))
  else
  (some ((1 : Int64), t_3))))))))
theorem wX4_worth_in (C : sn_C p s m args meth c RX4 cX4_worth 5 (some .long) D ct ad layC A) {σ : sn_S} {q1 : Nat} {x2 : Int32} {x3 : Int32} {x4 : Int32} (h1 : sn_isX2 q1) {o : (Int64 × sn_S)} (hf : fX4_worth σ q1 x2 x3 x4 = some o) (kr : sn_Kr p l e rmX4_worth s m args below meth c Q D ct ad layC A cX4_worth .lreturn (true) o.2 [.long o.1]) : sn_At p l e rmX4_worth s m args below meth c Q D ct ad layC A 5 σ 0 [(0, .ref (ad 57)), (1, .ref (ad q1)), (2, .int x2), (3, .int x3), (4, .int x4)] [] := by
  intro H locs ls hw hl
  have hx := C.1
  have hb := C.2.1
  unfold fX4_worth at hf
  refine lv_iload_n hx hb dX4_worth_0 rfl (lv_at hl 2 rfl) ?_
  refine lv_if_ne (tgt := 22) hx hb dX4_worth_1 (by decide) (fun c_1 => ?_) (fun c_1 => ?_)
  · have hf := sn_el c_1 hf
    refine lv_aload_n hx hb dX4_worth_22 rfl (lv_at hl 0 rfl) ?_
    refine sn_getC (r := 70) C hw fd_RX4_25 layC_57 rfl dX4_worth_23 ?_
    refine lv_aload_n hx hb dX4_worth_26 rfl (lv_at hl 1 rfl) ?_
    refine lv_aload_n hx hb dX4_worth_27 rfl (lv_at hl 0 rfl) ?_
    refine sn_getC (r := 59) C hw fd_RX4_18 layC_57 rfl dX4_worth_28 ?_
    refine lv_aload_n hx hb dX4_worth_31 rfl (lv_at hl 1 rfl) ?_
    refine sn_getC (r := (q1 + 1)) C hw fd_RX4_29 (sn_look h1 (k := 0) rfl) rfl dX4_worth_32 ?_
    refine lv_iconst (v := 2) hx hb dX4_worth_35 rfl ?_
    obtain ⟨g_2, hf⟩ := sn_gdE hf
    refine sn_iald C hw (sn_look h1 (k := 1) rfl) g_2 dX4_worth_36 ?_
    obtain ⟨t_3, h_4, hf⟩ := sn_bd hf
    refine sn_callVv (rest := []) C hw (ctX3_reckon l sn_isX3_70 h1 sn_isX0_59 h_4) kl_RX4_85 (sn_look sn_isX3_70 (k := 0) rfl) rfl rfl rfl rfl (Nat.le_of_ble_eq_true rfl) dX4_worth_37 hl.1 (fun H locs hw => ?_)
    refine lv_iload_n hx hb dX4_worth_40 rfl (lv_at hl 2 rfl) ?_
    refine lv_iconst (v := 1) hx hb dX4_worth_41 rfl ?_
    refine lv_icmp_ne (tgt := 56) hx hb dX4_worth_42 (by decide) (fun c_5 => ?_) (fun c_5 => ?_)
    · have hf := sn_el c_5 hf
      refine lv_aload_n hx hb dX4_worth_56 rfl (lv_at hl 0 rfl) ?_
      refine sn_getC (r := 70) C hw fd_RX4_25 layC_57 rfl dX4_worth_57 ?_
      refine lv_iload hx hb dX4_worth_60 (lv_at hl 4 rfl) ?_
      obtain ⟨t_6, h_7, hf⟩ := sn_bd hf
      refine sn_callVi (rest := []) C hw (ctX3_firstBelow l sn_isX3_70 h_7) kl_RX4_92 (sn_look sn_isX3_70 (k := 0) rfl) rfl rfl rfl rfl (Nat.le_of_ble_eq_true rfl) dX4_worth_62 hl.1 (fun H locs hw => ?_)
      refine lv_iconst (v := (-1)) hx hb dX4_worth_65 rfl ?_
      refine lv_icmp_eq (tgt := 73) hx hb dX4_worth_66 (by decide) (fun c_8 => ?_) (fun c_8 => ?_)
      · have hf := sn_if c_8 hf
        refine lv_lconst (v := 0) hx hb dX4_worth_73 rfl ?_
        cases hf
        exact kr _ _ _ _ hw rfl dX4_worth_74
      · have hf := sn_el c_8 hf
        refine lv_lconst (v := 1) hx hb dX4_worth_69 rfl ?_
        refine lv_goto (tgt := 74) hx hb dX4_worth_70 (by decide) ?_
        cases hf
        exact kr _ _ _ _ hw rfl dX4_worth_74
    · have hf := sn_if c_5 hf
      refine lv_aload_n hx hb dX4_worth_45 rfl (lv_at hl 0 rfl) ?_
      refine sn_getC (r := 70) C hw fd_RX4_25 layC_57 rfl dX4_worth_46 ?_
      refine sn_getC (r := (70 + 1)) C hw fd_RX4_89 (sn_look sn_isX3_70 (k := 0) rfl) rfl dX4_worth_49 ?_
      refine lv_iload_n hx hb dX4_worth_52 rfl (lv_at hl 3 rfl) ?_
      obtain ⟨g_9, hf⟩ := sn_gdE hf
      refine sn_iald C hw (sn_look sn_isX3_70 (k := 1) rfl) g_9 dX4_worth_53 ?_
      refine lv_i2l hx hb dX4_worth_54 rfl ?_
      cases hf
      exact kr _ _ _ _ hw rfl dX4_worth_55
  · have hf := sn_if c_1 hf
    refine lv_aload_n hx hb dX4_worth_4 rfl (lv_at hl 0 rfl) ?_
    refine sn_getC (r := 59) C hw fd_RX4_18 layC_57 rfl dX4_worth_5 ?_
    refine sn_getC (r := (59 + 10)) C hw fd_RX4_82 (sn_look sn_isX0_59 (k := 0) rfl) rfl dX4_worth_8 ?_
    refine lv_iload_n hx hb dX4_worth_11 rfl (lv_at hl 3 rfl) ?_
    obtain ⟨g_10, hf⟩ := sn_gdE hf
    refine sn_iald C hw (sn_look sn_isX0_59 (k := 10) rfl) g_10 dX4_worth_12 ?_
    refine lv_if_eq (tgt := 20) hx hb dX4_worth_13 (by decide) (fun c_11 => ?_) (fun c_11 => ?_)
    · have hf := sn_if c_11 hf
      refine lv_lconst (v := 0) hx hb dX4_worth_20 rfl ?_
      cases hf
      exact kr _ _ _ _ hw rfl dX4_worth_21
    · have hf := sn_el c_11 hf
      refine lv_lconst (v := 1) hx hb dX4_worth_16 rfl ?_
      refine lv_goto (tgt := 21) hx hb dX4_worth_17 (by decide) ?_
      cases hf
      exact kr _ _ _ _ hw rfl dX4_worth_21
theorem ctX4_worth (l : Launch) {σ : sn_S} {q1 : Nat} {x2 : Int32} {x3 : Int32} {x4 : Int32} (h1 : sn_isX2 q1) {o : (Int64 × sn_S)} (hf : fX4_worth σ q1 x2 x3 x4 = some o) : sn_M l yX4_worth cX4_worth 5 (some .long) rmX4_worth layC (fun ad => [.ref (ad 57), .ref (ad q1), .int x2, .int x3, .int x4]) σ (some (fun _ => .long o.1)) o.2 :=
  sn_met (by decide) (fun _ => Nat.le_of_ble_eq_true rfl) (fun p e s m args below meth c ls D ct ad A C hw hl => wX4_worth_in C h1 hf (fun H locs ls pc hw ok hd => sn_lret C hw hd) _ _ _ hw hl)
-- X4_lower
abbrev rmX4_lower : Room := { frames := 0, cells := 0, slots := 0, locals := 0 }
def BX4_lower_42 (σ : sn_S) (x3 : Int64) : Option (sn_S) :=
  (if (lg_cmp x3 (1 : Int64)) ≤ 0 then
  (some σ)
  else
  (sn_gd (x3 != 0) (sn_lt (sn_pL σ 57 0 ((sn_L σ 57 0) / x3)) fun σ_3 => (sn_gd (x3 != 0) (sn_lt (sn_pL σ_3 57 1 ((sn_L σ_3 57 1) / x3)) fun σ_6 => (some σ_6))))))
def BX4_lower_13 (σ : sn_S) (x1 : Int64) (x3 : Int64) (x5 : Int32) : Option ((Int64 × Int64 × Int32) ⊕ (Int64)) :=
  (if (100 : Int32) ≤ x5 then
  (some (.inr (x3)))
  else
  (if (lg_cmp x1 (0 : Int64)) = 0 then
  (some (.inr (x3)))
  else
  (sn_gd (x1 != 0) (sn_lt (x3 - x3 / x1 * x1) fun y_4 => (sn_lt (x5 + 1) fun y_6 => (some (.inl (y_4, x1, y_6))))))))
def LX4_lower_13 (σ : sn_S) (s : Int64 × Int64 × Int32) : Option ((Int64 × Int64 × Int32) ⊕ (Int64)) := BX4_lower_13 σ s.1 s.2.1 s.2.2
def fX4_lower (σ : sn_S) : Option sn_S :=
  (sn_lt (sn_L σ 57 0) fun y_1 => (sn_lt (sn_L σ 57 1) fun y_3 => ((sn_it (LX4_lower_13 σ) 5000 (y_1, y_3, (0 : Int32))).bind fun t_5 => (BX4_lower_42 σ t_5))))
theorem wX4_lower_42 (C : sn_C p s m args meth c RX4 cX4_lower 8 none D ct ad layC A) {σ : sn_S} {x3 : Int64}  {o : sn_S} (hf : BX4_lower_42 σ x3 = some o) (kr : sn_Kr p l e rmX4_lower s m args below meth c Q D ct ad layC A cX4_lower .return_ (true) o []) : sn_At p l e rmX4_lower s m args below meth c Q D ct ad layC A 8 σ 42 [(0, .ref (ad 57)), (3, .long x3)] [] := by
  intro H locs ls hw hl
  have hx := C.1
  have hb := C.2.1
  unfold BX4_lower_42 at hf
  refine lv_lload_n hx hb dX4_lower_42 rfl (lv_at hl 1 rfl) ?_
  refine lv_lconst (v := 1) hx hb dX4_lower_43 rfl ?_
  refine W.lcmp hx hb dX4_lower_44 ?_
  refine lv_if_le (tgt := 68) hx hb dX4_lower_45 (by decide) (fun c_1 => ?_) (fun c_1 => ?_)
  · have hf := sn_if c_1 hf
    cases hf
    exact kr _ _ _ _ hw rfl dX4_lower_68
  · have hf := sn_el c_1 hf
    refine lv_aload_n hx hb dX4_lower_48 rfl (lv_at hl 0 rfl) ?_
    refine lv_dup hx hb dX4_lower_49 rfl ?_
    refine sn_getL C hw fd_RX4_43 layC_57 rfl dX4_lower_50 ?_
    refine lv_lload_n hx hb dX4_lower_53 rfl (lv_at hl 1 rfl) ?_
    obtain ⟨g_2, hf⟩ := sn_gdE hf
    refine lv_ldiv hx hb dX4_lower_54 (sn_nzL g_2) ?_
    refine sn_putL C hw fp_RX4_43 layC_57 rfl dX4_lower_55 (fun H locs hw => ?_)
    obtain ⟨σ_3, e_4, hf⟩ := sn_ltE hf
    rw [← e_4] at hw
    refine lv_aload_n hx hb dX4_lower_58 rfl (lv_at hl 0 rfl) ?_
    refine lv_dup hx hb dX4_lower_59 rfl ?_
    refine sn_getL C hw fd_RX4_74 layC_57 rfl dX4_lower_60 ?_
    refine lv_lload_n hx hb dX4_lower_63 rfl (lv_at hl 1 rfl) ?_
    obtain ⟨g_5, hf⟩ := sn_gdE hf
    refine lv_ldiv hx hb dX4_lower_64 (sn_nzL g_5) ?_
    refine sn_putL C hw fp_RX4_74 layC_57 rfl dX4_lower_65 (fun H locs hw => ?_)
    obtain ⟨σ_6, e_7, hf⟩ := sn_ltE hf
    rw [← e_7] at hw
    cases hf
    exact kr _ _ _ _ hw rfl dX4_lower_68
theorem wX4_lower_13 (C : sn_C p s m args meth c RX4 cX4_lower 8 none D ct ad layC A) {σ : sn_S} {x1 : Int64} {x3 : Int64} {x5 : Int32}  {o : (Int64 × Int64 × Int32) ⊕ (Int64)} (hf : BX4_lower_13 σ x1 x3 x5 = some o) (kc : ∀ v, o = .inl v → sn_At p l e rmX4_lower s m args below meth c Q D ct ad layC A 8 σ 13 [(0, .ref (ad 57)), (1, .long v.1), (3, .long v.2.1), (5, .int v.2.2)] []) (kx : ∀ v, o = .inr v → sn_At p l e rmX4_lower s m args below meth c Q D ct ad layC A 8 σ 42 [(0, .ref (ad 57)), (3, .long v)] []) : sn_At p l e rmX4_lower s m args below meth c Q D ct ad layC A 8 σ 13 [(0, .ref (ad 57)), (1, .long x1), (3, .long x3), (5, .int x5)] [] := by
  intro H locs ls hw hl
  have hx := C.1
  have hb := C.2.1
  unfold BX4_lower_13 at hf
  refine lv_iload hx hb dX4_lower_13 (lv_at hl 3 rfl) ?_
  refine lv_bipush (v := 100) hx hb dX4_lower_15 (by decide) ?_
  refine lv_icmp_ge (tgt := 42) hx hb dX4_lower_17 (by decide) (fun c_1 => ?_) (fun c_1 => ?_)
  · have hf := sn_if c_1 hf
    cases hf
    exact kx _ rfl _ _ _ hw (lv_sub hl [0, 2] rfl)
  · have hf := sn_el c_1 hf
    refine lv_lload_n hx hb dX4_lower_20 rfl (lv_at hl 1 rfl) ?_
    refine lv_lconst (v := 0) hx hb dX4_lower_21 rfl ?_
    refine W.lcmp hx hb dX4_lower_22 ?_
    refine lv_if_eq (tgt := 42) hx hb dX4_lower_23 (by decide) (fun c_2 => ?_) (fun c_2 => ?_)
    · have hf := sn_if c_2 hf
      cases hf
      exact kx _ rfl _ _ _ hw (lv_sub hl [0, 2] rfl)
    · have hf := sn_el c_2 hf
      refine lv_lload_n hx hb dX4_lower_26 rfl (lv_at hl 2 rfl) ?_
      refine lv_lload_n hx hb dX4_lower_27 rfl (lv_at hl 1 rfl) ?_
      obtain ⟨g_3, hf⟩ := sn_gdE hf
      refine lv_lrem hx hb dX4_lower_28 (sn_nzL g_3) ?_
      obtain ⟨y_4, e_5, hf⟩ := sn_ltE hf
      refine lv_topl (fun y_4_ e_5_ => ?_)
      obtain rfl : y_4 = y_4_ := e_5.trans e_5_.symm
      refine lv_lstore (lv' := [(6, .long y_4), (0, .ref (ad 57)), (1, .long x1), (3, .long x3), (5, .int x5)]) hx hb dX4_lower_29 hl (by decide) rfl (fun ls hl => ?_)
      refine lv_lload_n hx hb dX4_lower_31 rfl (lv_at hl 2 rfl) ?_
      refine lv_lstore_n (lv' := [(3, .long x1), (6, .long y_4), (0, .ref (ad 57)), (1, .long x1), (5, .int x5)]) hx hb dX4_lower_32 rfl hl (by decide) rfl (fun ls hl => ?_)
      refine lv_lload hx hb dX4_lower_33 (lv_at hl 1 rfl) ?_
      refine lv_lstore_n (lv' := [(1, .long y_4), (3, .long x1), (6, .long y_4), (0, .ref (ad 57)), (5, .int x5)]) hx hb dX4_lower_35 rfl hl (by decide) rfl (fun ls hl => ?_)
      obtain ⟨y_6, e_7, hf⟩ := sn_ltE hf
      refine lv_iinc (v := y_6) (lv' := [(5, .int y_6), (1, .long y_4), (3, .long x1), (6, .long y_4), (0, .ref (ad 57))]) hx hb dX4_lower_36 hl (k := 4) rfl (by rw [e_7]; rfl) (by decide) rfl (fun ls hl => ?_)
      refine lv_goto (tgt := 13) hx hb dX4_lower_39 (by decide) ?_
      cases hf
      exact kc _ rfl _ _ _ hw (lv_sub hl [4, 1, 2, 0] rfl)
theorem wX4_lower_L13 (C : sn_C p s m args meth c RX4 cX4_lower 8 none D ct ad layC A) {σ : sn_S}   {z : Int64 × Int64 × Int32} {t : Int64} (h : sn_it (LX4_lower_13 σ) 5000 z = some t) (kx : ∀ v, t = v → sn_At p l e rmX4_lower s m args below meth c Q D ct ad layC A 8 σ 42 [(0, .ref (ad 57)), (3, .long v)] []) : sn_At p l e rmX4_lower s m args below meth c Q D ct ad layC A 8 σ 13 [(0, .ref (ad 57)), (1, .long z.1), (3, .long z.2.1), (5, .int z.2.2)] [] :=
  sn_loop (f := LX4_lower_13 σ) (G := fun z => sn_At p l e rmX4_lower s m args below meth c Q D ct ad layC A 8 σ 13 [(0, .ref (ad 57)), (1, .long z.1), (3, .long z.2.1), (5, .int z.2.2)] []) (E := fun t => (∀ v, t = v → sn_At p l e rmX4_lower s m args below meth c Q D ct ad layC A 8 σ 42 [(0, .ref (ad 57)), (3, .long v)] []) ∧ True) (fun z o hf k1 k2 => wX4_lower_13 C  hf (fun v e => k1 v e) (fun v e => (k2 _ e).1 v rfl)) 5000 z t h ⟨kx, trivial⟩
theorem wX4_lower_in (C : sn_C p s m args meth c RX4 cX4_lower 8 none D ct ad layC A) {σ : sn_S}  {o : sn_S} (hf : fX4_lower σ = some o) (kr : sn_Kr p l e rmX4_lower s m args below meth c Q D ct ad layC A cX4_lower .return_ (true) o []) : sn_At p l e rmX4_lower s m args below meth c Q D ct ad layC A 8 σ 0 [(0, .ref (ad 57))] [] := by
  intro H locs ls hw hl
  have hx := C.1
  have hb := C.2.1
  unfold fX4_lower at hf
  refine lv_aload_n hx hb dX4_lower_0 rfl (lv_at hl 0 rfl) ?_
  refine sn_getL C hw fd_RX4_43 layC_57 rfl dX4_lower_1 ?_
  obtain ⟨y_1, e_2, hf⟩ := sn_ltE hf
  refine lv_topl (fun y_1_ e_2_ => ?_)
  obtain rfl : y_1 = y_1_ := e_2.trans e_2_.symm
  refine lv_lstore_n (lv' := [(1, .long y_1), (0, .ref (ad 57))]) hx hb dX4_lower_4 rfl hl (by decide) rfl (fun ls hl => ?_)
  refine lv_aload_n hx hb dX4_lower_5 rfl (lv_at hl 1 rfl) ?_
  refine sn_getL C hw fd_RX4_74 layC_57 rfl dX4_lower_6 ?_
  obtain ⟨y_3, e_4, hf⟩ := sn_ltE hf
  refine lv_topl (fun y_3_ e_4_ => ?_)
  obtain rfl : y_3 = y_3_ := e_4.trans e_4_.symm
  refine lv_lstore_n (lv' := [(3, .long y_3), (1, .long y_1), (0, .ref (ad 57))]) hx hb dX4_lower_9 rfl hl (by decide) rfl (fun ls hl => ?_)
  refine lv_iconst (v := 0) hx hb dX4_lower_10 rfl ?_
  refine lv_istore (lv' := [(5, .int (0 : Int32)), (3, .long y_3), (1, .long y_1), (0, .ref (ad 57))]) hx hb dX4_lower_11 hl (by decide) rfl (fun ls hl => ?_)
  obtain ⟨t_5, h_6, hf⟩ := sn_bd hf
  exact wX4_lower_L13 C  h_6 (fun v e => by cases e; exact wX4_lower_42 C  hf kr) _ _ _ hw (lv_sub hl [3, 2, 1, 0] rfl)
theorem ctX4_lower (l : Launch) {σ : sn_S}  {o : sn_S} (hf : fX4_lower σ = some o) : sn_M l yX4_lower cX4_lower 8 none rmX4_lower layC (fun ad => [.ref (ad 57)]) σ none o :=
  sn_met (by decide) (fun _ => Nat.le_of_ble_eq_true rfl) (fun p e s m args below meth c ls D ct ad A C hw hl => wX4_lower_in C  hf (fun H locs ls pc hw ok hd => sn_vret C hw hd) _ _ _ hw hl)
-- X4_reckon
abbrev rmX4_reckon : Room := { frames := 5, cells := 0, slots := 0, locals := 123 }
def BX4_reckon_211 (σ : sn_S) (q1 : Nat) (q2 : Nat) : Option (sn_S) :=
  ((fX4_lower σ).bind fun t_1 => (some t_1))
def BX4_reckon_186 (σ : sn_S) (q1 : Nat) (q2 : Nat) (x6 : Int32) (x7 : Int32) : Option ((sn_S × Int32) ⊕ (sn_S)) :=
  (if x6 ≤ x7 then
  (some (.inr (σ)))
  else
  (sn_lt (sn_pL σ 57 1 ((sn_L σ 57 1) * (10 : Int64))) fun σ_2 => (sn_lt (x7 + 1) fun y_4 => (some (.inl (σ_2, y_4))))))
def LX4_reckon_186 (q1 : Nat) (q2 : Nat) (x6 : Int32) (s : sn_S × Int32) : Option ((sn_S × Int32) ⊕ (sn_S)) := BX4_reckon_186 s.1 q1 q2 x6 s.2
def BX4_reckon_178 (σ : sn_S) (q1 : Nat) (q2 : Nat) (x6 : Int32) : Option (sn_S) :=
  (sn_lt (sn_pL σ 57 1 (1 : Int64)) fun σ_1 => ((sn_it (LX4_reckon_186 q1 q2 x6) 5000 (σ_1, (0 : Int32))).bind fun t_3 => (BX4_reckon_211 t_3 q1 q2)))
def BX4_reckon_139 (σ : sn_S) (q1 : Nat) (q2 : Nat) (x3 : Int32) (x4 : Int32) (x6 : Int32) (x7 : Int32) (t1 : Int32) (t2 : Int32) : Option ((sn_S × Int32) ⊕ (sn_S)) :=
  ((fX0_live σ 59 t1 t2).bind fun t_1 => ((fJ6_bitCount_0f7a4 x7).bind fun t_3 => (sn_gd (sn_in t_3 9) ((fX4_worth t_1 q1 x3 x4 x6).bind fun t_6 => (sn_lt (sn_pL t_6.2 57 0 ((sn_L t_1 57 0) + ((sn_L t_1 58 t_3.toNatClampNeg) * t_6.1))) fun σ_8 => (sn_lt (x7 + 1) fun y_10 => (some (.inl (σ_8, y_10)))))))))
def BX4_reckon_119 (σ : sn_S) (q1 : Nat) (q2 : Nat) (x3 : Int32) (x4 : Int32) (x6 : Int32) (x7 : Int32) (x8 : Int32) : Option ((sn_S × Int32) ⊕ (sn_S)) :=
  (if x3 = (2 : Int32) then
  (BX4_reckon_139 σ q1 q2 x3 x4 x6 x7 x8 (sn_I σ q2 0))
  else
  (BX4_reckon_139 σ q1 q2 x3 x4 x6 x7 x8 x6))
def BX4_reckon_111 (σ : sn_S) (q1 : Nat) (q2 : Nat) (x3 : Int32) (x4 : Int32) (x6 : Int32) (x7 : Int32) (x8 : Int32) (x9 : Int32) (t1 : Int32) (t2 : Int32) (t3 : Int32) : Option ((sn_S × Int32) ⊕ (sn_S)) :=
  (sn_gd (sn_in t1 30) (sn_lt (sn_pI σ (59 + 1) t1.toNatClampNeg (t2 + t3)) fun σ_2 => (sn_lt (x9 + 1) fun y_4 => (some (.inl (σ_2, y_4))))))
def BX4_reckon_68 (σ : sn_S) (q1 : Nat) (q2 : Nat) (x3 : Int32) (x4 : Int32) (x6 : Int32) (x7 : Int32) (x8 : Int32) (x9 : Int32) : Option ((sn_S × Int32) ⊕ (sn_S)) :=
  (if x6 ≤ x9 then
  (some (.inr (σ)))
  else
  (sn_gd (sn_in x9 30) ((fX8_hasBit x7 ((x6 - (1 : Int32)) - x9)).bind fun t_3 => (if t_3 = 0 then
  (BX4_reckon_111 σ q1 q2 x3 x4 x6 x7 x8 x9 x9 (sn_I σ (q2 + 1) x9.toNatClampNeg) (0 : Int32))
  else
  (BX4_reckon_111 σ q1 q2 x3 x4 x6 x7 x8 x9 x9 (sn_I σ (q2 + 1) x9.toNatClampNeg) (3 : Int32))))))
def LX4_reckon_68 (q1 : Nat) (q2 : Nat) (x3 : Int32) (x4 : Int32) (x6 : Int32) (x7 : Int32) (x8 : Int32) (s : sn_S × Int32) : Option ((sn_S × Int32) ⊕ (sn_S)) := BX4_reckon_68 s.1 q1 q2 x3 x4 x6 x7 x8 s.2
def BX4_reckon_62 (σ : sn_S) (q1 : Nat) (q2 : Nat) (x3 : Int32) (x4 : Int32) (x6 : Int32) (x7 : Int32) (t0 : Int32) : Option ((sn_S × Int32) ⊕ (sn_S)) :=
  ((sn_it (LX4_reckon_68 q1 q2 x3 x4 x6 x7 t0) 5000 (σ, t0)).bind fun t_1 => (BX4_reckon_119 t_1 q1 q2 x3 x4 x6 x7 t0))
def BX4_reckon_34 (σ : sn_S) (q1 : Nat) (q2 : Nat) (x3 : Int32) (x4 : Int32) (x6 : Int32) (x7 : Int32) : Option ((sn_S × Int32) ⊕ (sn_S)) :=
  (if ((1 : Int32) <<< (x6 &&& 31)) ≤ x7 then
  (some (.inr (σ)))
  else
  (if x7 = 0 then
  (BX4_reckon_62 σ q1 q2 x3 x4 x6 x7 (0 : Int32))
  else
  ((fX8_lowestBit x7).bind fun t_3 => (BX4_reckon_62 σ q1 q2 x3 x4 x6 x7 ((x6 - (1 : Int32)) - t_3)))))
def LX4_reckon_34 (q1 : Nat) (q2 : Nat) (x3 : Int32) (x4 : Int32) (x6 : Int32) (s : sn_S × Int32) : Option ((sn_S × Int32) ⊕ (sn_S)) := BX4_reckon_34 s.1 q1 q2 x3 x4 x6 s.2
def fX4_reckon (σ : sn_S) (q1 : Nat) (q2 : Nat) (x3 : Int32) (x4 : Int32) (x5 : Int32) : Option sn_S :=
  (sn_lt (x5 + (1 : Int32)) fun y_1 => (sn_gd (sn_in (4 : Int32) 11) ((fX4_weigh σ y_1 (sn_I σ (q1 + 1) (4 : Int32).toNatClampNeg)).bind fun t_4 => ((fX0_copyFrom t_4 59 q2).bind fun t_6 => (sn_lt (sn_pL t_6 57 0 (0 : Int64)) fun σ_8 => ((sn_it (LX4_reckon_34 q1 q2 x3 x4 y_1) 5000 (σ_8, (0 : Int32))).bind fun t_10 => (BX4_reckon_178 t_10 q1 q2 y_1)))))))
theorem wX4_reckon_211 (C : sn_C p s m args meth c RX4 cX4_reckon 10 none D ct ad layC A) {σ : sn_S} {q1 : Nat} {q2 : Nat} (h1 : sn_isX2 q1) (h2 : sn_isX0 q2) {o : sn_S} (hf : BX4_reckon_211 σ q1 q2 = some o) (kr : sn_Kr p l e rmX4_reckon s m args below meth c Q D ct ad layC A cX4_reckon .return_ (true) o []) : sn_At p l e rmX4_reckon s m args below meth c Q D ct ad layC A 10 σ 211 [(0, .ref (ad 57))] [] := by
  intro H locs ls hw hl
  have hx := C.1
  have hb := C.2.1
  unfold BX4_reckon_211 at hf
  refine lv_aload_n hx hb dX4_reckon_211 rfl (lv_at hl 0 rfl) ?_
  obtain ⟨t_1, h_2, hf⟩ := sn_bd hf
  refine sn_callVv (rest := []) C hw (ctX4_lower l  h_2) kl_RX4_79 layC_57 rfl rfl rfl rfl (Nat.le_of_ble_eq_true rfl) dX4_reckon_212 hl.1 (fun H locs hw => ?_)
  cases hf
  exact kr _ _ _ _ hw rfl dX4_reckon_215
theorem wX4_reckon_186 (C : sn_C p s m args meth c RX4 cX4_reckon 10 none D ct ad layC A) {σ : sn_S} {q1 : Nat} {q2 : Nat} {x6 : Int32} {x7 : Int32} (h1 : sn_isX2 q1) (h2 : sn_isX0 q2) {o : (sn_S × Int32) ⊕ (sn_S)} (hf : BX4_reckon_186 σ q1 q2 x6 x7 = some o) (kc : ∀ v, o = .inl v → sn_At p l e rmX4_reckon s m args below meth c Q D ct ad layC A 10 v.1 186 [(0, .ref (ad 57)), (6, .int x6), (7, .int v.2)] []) (kx : ∀ v, o = .inr v → sn_At p l e rmX4_reckon s m args below meth c Q D ct ad layC A 10 v 211 [(0, .ref (ad 57))] []) : sn_At p l e rmX4_reckon s m args below meth c Q D ct ad layC A 10 σ 186 [(0, .ref (ad 57)), (6, .int x6), (7, .int x7)] [] := by
  intro H locs ls hw hl
  have hx := C.1
  have hb := C.2.1
  unfold BX4_reckon_186 at hf
  refine lv_iload hx hb dX4_reckon_186 (lv_at hl 2 rfl) ?_
  refine lv_iload hx hb dX4_reckon_188 (lv_at hl 1 rfl) ?_
  refine lv_icmp_ge (tgt := 211) hx hb dX4_reckon_190 (by decide) (fun c_1 => ?_) (fun c_1 => ?_)
  · have hf := sn_if c_1 hf
    cases hf
    exact kx _ rfl _ _ _ hw (lv_sub hl [0] rfl)
  · have hf := sn_el c_1 hf
    refine lv_aload_n hx hb dX4_reckon_193 rfl (lv_at hl 0 rfl) ?_
    refine lv_dup hx hb dX4_reckon_194 rfl ?_
    refine sn_getL C hw fd_RX4_74 layC_57 rfl dX4_reckon_195 ?_
    refine lv_ldc2 hx hb C.2.2.2.1 (C.2.2.2.2.1 _ kk_RX4_77) dX4_reckon_198 ?_
    refine lv_lmul hx hb dX4_reckon_201 ?_
    refine sn_putL C hw fp_RX4_74 layC_57 rfl dX4_reckon_202 (fun H locs hw => ?_)
    obtain ⟨σ_2, e_3, hf⟩ := sn_ltE hf
    rw [← e_3] at hw
    obtain ⟨y_4, e_5, hf⟩ := sn_ltE hf
    refine lv_iinc (v := y_4) (lv' := [(7, .int y_4), (0, .ref (ad 57)), (6, .int x6)]) hx hb dX4_reckon_205 hl (k := 2) rfl (by rw [e_5]; rfl) (by decide) rfl (fun ls hl => ?_)
    refine lv_goto (tgt := 186) hx hb dX4_reckon_208 (by decide) ?_
    cases hf
    exact kc _ rfl _ _ _ hw (lv_sub hl [1, 2, 0] rfl)
theorem wX4_reckon_L186 (C : sn_C p s m args meth c RX4 cX4_reckon 10 none D ct ad layC A) {q1 : Nat} {q2 : Nat} {x6 : Int32}  (h1 : sn_isX2 q1) (h2 : sn_isX0 q2) {z : sn_S × Int32} {t : sn_S} (h : sn_it (LX4_reckon_186 q1 q2 x6) 5000 z = some t) (kx : ∀ v, t = v → sn_At p l e rmX4_reckon s m args below meth c Q D ct ad layC A 10 v 211 [(0, .ref (ad 57))] []) : sn_At p l e rmX4_reckon s m args below meth c Q D ct ad layC A 10 z.1 186 [(0, .ref (ad 57)), (6, .int x6), (7, .int z.2)] [] :=
  sn_loop (f := LX4_reckon_186 q1 q2 x6) (G := fun z => sn_At p l e rmX4_reckon s m args below meth c Q D ct ad layC A 10 z.1 186 [(0, .ref (ad 57)), (6, .int x6), (7, .int z.2)] []) (E := fun t => (∀ v, t = v → sn_At p l e rmX4_reckon s m args below meth c Q D ct ad layC A 10 v 211 [(0, .ref (ad 57))] []) ∧ True) (fun z o hf k1 k2 => wX4_reckon_186 C h1 h2 hf (fun v e => k1 v e) (fun v e => (k2 _ e).1 v rfl)) 5000 z t h ⟨kx, trivial⟩
theorem wX4_reckon_178 (C : sn_C p s m args meth c RX4 cX4_reckon 10 none D ct ad layC A) {σ : sn_S} {q1 : Nat} {q2 : Nat} {x6 : Int32} (h1 : sn_isX2 q1) (h2 : sn_isX0 q2) {o : sn_S} (hf : BX4_reckon_178 σ q1 q2 x6 = some o) (kr : sn_Kr p l e rmX4_reckon s m args below meth c Q D ct ad layC A cX4_reckon .return_ (true) o []) : sn_At p l e rmX4_reckon s m args below meth c Q D ct ad layC A 10 σ 178 [(0, .ref (ad 57)), (6, .int x6)] [] := by
  intro H locs ls hw hl
  have hx := C.1
  have hb := C.2.1
  unfold BX4_reckon_178 at hf
  refine lv_aload_n hx hb dX4_reckon_178 rfl (lv_at hl 0 rfl) ?_
  refine lv_lconst (v := 1) hx hb dX4_reckon_179 rfl ?_
  refine sn_putL C hw fp_RX4_74 layC_57 rfl dX4_reckon_180 (fun H locs hw => ?_)
  obtain ⟨σ_1, e_2, hf⟩ := sn_ltE hf
  rw [← e_2] at hw
  refine lv_iconst (v := 0) hx hb dX4_reckon_183 rfl ?_
  refine lv_istore (lv' := [(7, .int (0 : Int32)), (0, .ref (ad 57)), (6, .int x6)]) hx hb dX4_reckon_184 hl (by decide) rfl (fun ls hl => ?_)
  obtain ⟨t_3, h_4, hf⟩ := sn_bd hf
  exact wX4_reckon_L186 C h1 h2 h_4 (fun v e => by cases e; exact wX4_reckon_211 C h1 h2 hf kr) _ _ _ hw (lv_sub hl [1, 2, 0] rfl)
theorem wX4_reckon_139 (C : sn_C p s m args meth c RX4 cX4_reckon 10 none D ct ad layC A) {σ : sn_S} {q1 : Nat} {q2 : Nat} {x3 : Int32} {x4 : Int32} {x6 : Int32} {x7 : Int32} {t1 : Int32} {t2 : Int32} (h1 : sn_isX2 q1) (h2 : sn_isX0 q2) {o : (sn_S × Int32) ⊕ (sn_S)} (hf : BX4_reckon_139 σ q1 q2 x3 x4 x6 x7 t1 t2 = some o) (kc : ∀ v, o = .inl v → sn_At p l e rmX4_reckon s m args below meth c Q D ct ad layC A 10 v.1 34 [(0, .ref (ad 57)), (1, .ref (ad q1)), (2, .ref (ad q2)), (3, .int x3), (4, .int x4), (6, .int x6), (7, .int v.2)] []) (kx : ∀ v, o = .inr v → sn_At p l e rmX4_reckon s m args below meth c Q D ct ad layC A 10 v 178 [(0, .ref (ad 57)), (6, .int x6)] []) : sn_At p l e rmX4_reckon s m args below meth c Q D ct ad layC A 10 σ 139 [(0, .ref (ad 57)), (1, .ref (ad q1)), (2, .ref (ad q2)), (3, .int x3), (4, .int x4), (6, .int x6), (7, .int x7)] [.int t2, .int t1, .ref (ad 59)] := by
  intro H locs ls hw hl
  have hx := C.1
  have hb := C.2.1
  unfold BX4_reckon_139 at hf
  obtain ⟨t_1, h_2, hf⟩ := sn_bd hf
  refine sn_callVv (rest := []) C hw (ctX0_live l sn_isX0_59 h_2) kl_RX4_62 (sn_look sn_isX0_59 (k := 0) rfl) rfl rfl rfl rfl (Nat.le_of_ble_eq_true rfl) dX4_reckon_139 hl.1 (fun H locs hw => ?_)
  refine lv_aload_n hx hb dX4_reckon_142 rfl (lv_at hl 0 rfl) ?_
  refine lv_dup hx hb dX4_reckon_143 rfl ?_
  refine sn_getL C hw fd_RX4_43 layC_57 rfl dX4_reckon_144 ?_
  refine lv_aload_n hx hb dX4_reckon_147 rfl (lv_at hl 0 rfl) ?_
  refine sn_getC (r := 58) C hw fd_RX4_9 layC_57 rfl dX4_reckon_148 ?_
  refine lv_iload hx hb dX4_reckon_151 (lv_at hl 6 rfl) ?_
  obtain ⟨t_3, h_4, hf⟩ := sn_bd hf
  refine sn_callSi (rest := [.ref (ad 58), .long (sn_L t_1 57 0), .ref (ad 57)]) C hw (ctJ6_bitCount_0f7a4 l  h_4) kl_RX4_65 rfl rfl rfl (Nat.le_of_ble_eq_true rfl) dX4_reckon_153 hl.1 (fun H locs hw => ?_)
  obtain ⟨g_5, hf⟩ := sn_gdE hf
  refine sn_lald C hw layC_58 g_5 dX4_reckon_156 ?_
  refine lv_aload_n hx hb dX4_reckon_157 rfl (lv_at hl 0 rfl) ?_
  refine lv_aload_n hx hb dX4_reckon_158 rfl (lv_at hl 1 rfl) ?_
  refine lv_iload_n hx hb dX4_reckon_159 rfl (lv_at hl 3 rfl) ?_
  refine lv_iload hx hb dX4_reckon_160 (lv_at hl 4 rfl) ?_
  refine lv_iload hx hb dX4_reckon_162 (lv_at hl 5 rfl) ?_
  obtain ⟨t_6, h_7, hf⟩ := sn_bd hf
  refine sn_callVl (rest := [.long (sn_L t_1 58 t_3.toNatClampNeg), .long (sn_L t_1 57 0), .ref (ad 57)]) C hw (ctX4_worth l h1 h_7) kl_RX4_70 layC_57 rfl rfl rfl rfl (Nat.le_of_ble_eq_true rfl) dX4_reckon_164 hl.1 (fun H locs hw => ?_)
  refine lv_lmul hx hb dX4_reckon_167 ?_
  refine lv_ladd hx hb dX4_reckon_168 ?_
  refine sn_putL C hw fp_RX4_43 layC_57 rfl dX4_reckon_169 (fun H locs hw => ?_)
  obtain ⟨σ_8, e_9, hf⟩ := sn_ltE hf
  rw [← e_9] at hw
  obtain ⟨y_10, e_11, hf⟩ := sn_ltE hf
  refine lv_iinc (v := y_10) (lv' := [(7, .int y_10), (0, .ref (ad 57)), (1, .ref (ad q1)), (2, .ref (ad q2)), (3, .int x3), (4, .int x4), (6, .int x6)]) hx hb dX4_reckon_172 hl (k := 6) rfl (by rw [e_11]; rfl) (by decide) rfl (fun ls hl => ?_)
  refine lv_goto (tgt := 34) hx hb dX4_reckon_175 (by decide) ?_
  cases hf
  exact kc _ rfl _ _ _ hw (lv_sub hl [1, 2, 3, 4, 5, 6, 0] rfl)
theorem wX4_reckon_119 (C : sn_C p s m args meth c RX4 cX4_reckon 10 none D ct ad layC A) {σ : sn_S} {q1 : Nat} {q2 : Nat} {x3 : Int32} {x4 : Int32} {x6 : Int32} {x7 : Int32} {x8 : Int32} (h1 : sn_isX2 q1) (h2 : sn_isX0 q2) {o : (sn_S × Int32) ⊕ (sn_S)} (hf : BX4_reckon_119 σ q1 q2 x3 x4 x6 x7 x8 = some o) (kc : ∀ v, o = .inl v → sn_At p l e rmX4_reckon s m args below meth c Q D ct ad layC A 10 v.1 34 [(0, .ref (ad 57)), (1, .ref (ad q1)), (2, .ref (ad q2)), (3, .int x3), (4, .int x4), (6, .int x6), (7, .int v.2)] []) (kx : ∀ v, o = .inr v → sn_At p l e rmX4_reckon s m args below meth c Q D ct ad layC A 10 v 178 [(0, .ref (ad 57)), (6, .int x6)] []) : sn_At p l e rmX4_reckon s m args below meth c Q D ct ad layC A 10 σ 119 [(0, .ref (ad 57)), (1, .ref (ad q1)), (2, .ref (ad q2)), (3, .int x3), (4, .int x4), (6, .int x6), (7, .int x7), (8, .int x8)] [] := by
  intro H locs ls hw hl
  have hx := C.1
  have hb := C.2.1
  unfold BX4_reckon_119 at hf
  refine lv_aload_n hx hb dX4_reckon_119 rfl (lv_at hl 0 rfl) ?_
  refine sn_getC (r := 59) C hw fd_RX4_18 layC_57 rfl dX4_reckon_120 ?_
  refine lv_iload hx hb dX4_reckon_123 (lv_at hl 7 rfl) ?_
  refine lv_iload_n hx hb dX4_reckon_125 rfl (lv_at hl 3 rfl) ?_
  refine lv_iconst (v := 2) hx hb dX4_reckon_126 rfl ?_
  refine lv_icmp_ne (tgt := 137) hx hb dX4_reckon_127 (by decide) (fun c_1 => ?_) (fun c_1 => ?_)
  · have hf := sn_el c_1 hf
    refine lv_iload hx hb dX4_reckon_137 (lv_at hl 5 rfl) ?_
    exact wX4_reckon_139 C h1 h2 hf kc kx _ _ _ hw (lv_sub hl [0, 1, 2, 3, 4, 5, 6] rfl)
  · have hf := sn_if c_1 hf
    refine lv_aload_n hx hb dX4_reckon_130 rfl (lv_at hl 2 rfl) ?_
    refine sn_getI C hw fd_RX4_58 (sn_look h2 (k := 0) rfl) rfl dX4_reckon_131 ?_
    refine lv_goto (tgt := 139) hx hb dX4_reckon_134 (by decide) ?_
    exact wX4_reckon_139 C h1 h2 hf kc kx _ _ _ hw (lv_sub hl [0, 1, 2, 3, 4, 5, 6] rfl)
theorem wX4_reckon_111 (C : sn_C p s m args meth c RX4 cX4_reckon 10 none D ct ad layC A) {σ : sn_S} {q1 : Nat} {q2 : Nat} {x3 : Int32} {x4 : Int32} {x6 : Int32} {x7 : Int32} {x8 : Int32} {x9 : Int32} {t1 : Int32} {t2 : Int32} {t3 : Int32} (h1 : sn_isX2 q1) (h2 : sn_isX0 q2) {o : (sn_S × Int32) ⊕ (sn_S)} (hf : BX4_reckon_111 σ q1 q2 x3 x4 x6 x7 x8 x9 t1 t2 t3 = some o) (kc : ∀ v, o = .inl v → sn_At p l e rmX4_reckon s m args below meth c Q D ct ad layC A 10 v.1 68 [(0, .ref (ad 57)), (1, .ref (ad q1)), (2, .ref (ad q2)), (3, .int x3), (4, .int x4), (6, .int x6), (7, .int x7), (8, .int x8), (9, .int v.2)] []) (kx : ∀ v, o = .inr v → sn_At p l e rmX4_reckon s m args below meth c Q D ct ad layC A 10 v 119 [(0, .ref (ad 57)), (1, .ref (ad q1)), (2, .ref (ad q2)), (3, .int x3), (4, .int x4), (6, .int x6), (7, .int x7), (8, .int x8)] []) : sn_At p l e rmX4_reckon s m args below meth c Q D ct ad layC A 10 σ 111 [(0, .ref (ad 57)), (1, .ref (ad q1)), (2, .ref (ad q2)), (3, .int x3), (4, .int x4), (6, .int x6), (7, .int x7), (8, .int x8), (9, .int x9)] [.int t3, .int t2, .int t1, .ref (ad (59 + 1))] := by
  intro H locs ls hw hl
  have hx := C.1
  have hb := C.2.1
  unfold BX4_reckon_111 at hf
  refine lv_iadd hx hb dX4_reckon_111 ?_
  obtain ⟨g_1, hf⟩ := sn_gdE hf
  refine sn_iast C hw (sn_look sn_isX0_59 (k := 1) rfl) g_1 dX4_reckon_112 (fun H locs hw => ?_)
  obtain ⟨σ_2, e_3, hf⟩ := sn_ltE hf
  rw [← e_3] at hw
  obtain ⟨y_4, e_5, hf⟩ := sn_ltE hf
  refine lv_iinc (v := y_4) (lv' := [(9, .int y_4), (0, .ref (ad 57)), (1, .ref (ad q1)), (2, .ref (ad q2)), (3, .int x3), (4, .int x4), (6, .int x6), (7, .int x7), (8, .int x8)]) hx hb dX4_reckon_113 hl (k := 8) rfl (by rw [e_5]; rfl) (by decide) rfl (fun ls hl => ?_)
  refine lv_goto (tgt := 68) hx hb dX4_reckon_116 (by decide) ?_
  cases hf
  exact kc _ rfl _ _ _ hw (lv_sub hl [1, 2, 3, 4, 5, 6, 7, 8, 0] rfl)
theorem wX4_reckon_68 (C : sn_C p s m args meth c RX4 cX4_reckon 10 none D ct ad layC A) {σ : sn_S} {q1 : Nat} {q2 : Nat} {x3 : Int32} {x4 : Int32} {x6 : Int32} {x7 : Int32} {x8 : Int32} {x9 : Int32} (h1 : sn_isX2 q1) (h2 : sn_isX0 q2) {o : (sn_S × Int32) ⊕ (sn_S)} (hf : BX4_reckon_68 σ q1 q2 x3 x4 x6 x7 x8 x9 = some o) (kc : ∀ v, o = .inl v → sn_At p l e rmX4_reckon s m args below meth c Q D ct ad layC A 10 v.1 68 [(0, .ref (ad 57)), (1, .ref (ad q1)), (2, .ref (ad q2)), (3, .int x3), (4, .int x4), (6, .int x6), (7, .int x7), (8, .int x8), (9, .int v.2)] []) (kx : ∀ v, o = .inr v → sn_At p l e rmX4_reckon s m args below meth c Q D ct ad layC A 10 v 119 [(0, .ref (ad 57)), (1, .ref (ad q1)), (2, .ref (ad q2)), (3, .int x3), (4, .int x4), (6, .int x6), (7, .int x7), (8, .int x8)] []) : sn_At p l e rmX4_reckon s m args below meth c Q D ct ad layC A 10 σ 68 [(0, .ref (ad 57)), (1, .ref (ad q1)), (2, .ref (ad q2)), (3, .int x3), (4, .int x4), (6, .int x6), (7, .int x7), (8, .int x8), (9, .int x9)] [] := by
  intro H locs ls hw hl
  have hx := C.1
  have hb := C.2.1
  unfold BX4_reckon_68 at hf
  refine lv_iload hx hb dX4_reckon_68 (lv_at hl 8 rfl) ?_
  refine lv_iload hx hb dX4_reckon_70 (lv_at hl 5 rfl) ?_
  refine lv_icmp_ge (tgt := 119) hx hb dX4_reckon_72 (by decide) (fun c_1 => ?_) (fun c_1 => ?_)
  · have hf := sn_if c_1 hf
    cases hf
    exact kx _ rfl _ _ _ hw (lv_sub hl [0, 1, 2, 3, 4, 5, 6, 7] rfl)
  · have hf := sn_el c_1 hf
    refine lv_aload_n hx hb dX4_reckon_75 rfl (lv_at hl 0 rfl) ?_
    refine sn_getC (r := 59) C hw fd_RX4_18 layC_57 rfl dX4_reckon_76 ?_
    refine sn_getC (r := (59 + 1)) C hw fd_RX4_51 (sn_look sn_isX0_59 (k := 0) rfl) rfl dX4_reckon_79 ?_
    refine lv_iload hx hb dX4_reckon_82 (lv_at hl 8 rfl) ?_
    refine lv_aload_n hx hb dX4_reckon_84 rfl (lv_at hl 2 rfl) ?_
    refine sn_getC (r := (q2 + 1)) C hw fd_RX4_51 (sn_look h2 (k := 0) rfl) rfl dX4_reckon_85 ?_
    refine lv_iload hx hb dX4_reckon_88 (lv_at hl 8 rfl) ?_
    obtain ⟨g_2, hf⟩ := sn_gdE hf
    refine sn_iald C hw (sn_look h2 (k := 1) rfl) g_2 dX4_reckon_90 ?_
    refine lv_iload hx hb dX4_reckon_91 (lv_at hl 6 rfl) ?_
    refine lv_iload hx hb dX4_reckon_93 (lv_at hl 5 rfl) ?_
    refine lv_iconst (v := 1) hx hb dX4_reckon_95 rfl ?_
    refine lv_isub hx hb dX4_reckon_96 ?_
    refine lv_iload hx hb dX4_reckon_97 (lv_at hl 8 rfl) ?_
    refine lv_isub hx hb dX4_reckon_99 ?_
    obtain ⟨t_3, h_4, hf⟩ := sn_bd hf
    refine sn_callNi (rest := [.int (sn_I σ (q2 + 1) x9.toNatClampNeg), .int x9, .ref (ad (59 + 1))]) C hw (ctX8_hasBit l  h_4) kl_RX4_54 rfl rfl rfl (Nat.le_of_ble_eq_true rfl) dX4_reckon_100 hl.1 (fun H locs hw => ?_)
    refine lv_if_eq (tgt := 110) hx hb dX4_reckon_103 (by decide) (fun c_5 => ?_) (fun c_5 => ?_)
    · have hf := sn_if c_5 hf
      refine lv_iconst (v := 0) hx hb dX4_reckon_110 rfl ?_
      exact wX4_reckon_111 C h1 h2 hf kc kx _ _ _ hw (lv_sub hl [0, 1, 2, 3, 4, 5, 6, 7, 8] rfl)
    · have hf := sn_el c_5 hf
      refine lv_iconst (v := 3) hx hb dX4_reckon_106 rfl ?_
      refine lv_goto (tgt := 111) hx hb dX4_reckon_107 (by decide) ?_
      exact wX4_reckon_111 C h1 h2 hf kc kx _ _ _ hw (lv_sub hl [0, 1, 2, 3, 4, 5, 6, 7, 8] rfl)
theorem wX4_reckon_L68 (C : sn_C p s m args meth c RX4 cX4_reckon 10 none D ct ad layC A) {q1 : Nat} {q2 : Nat} {x3 : Int32} {x4 : Int32} {x6 : Int32} {x7 : Int32} {x8 : Int32}  (h1 : sn_isX2 q1) (h2 : sn_isX0 q2) {z : sn_S × Int32} {t : sn_S} (h : sn_it (LX4_reckon_68 q1 q2 x3 x4 x6 x7 x8) 5000 z = some t) (kx : ∀ v, t = v → sn_At p l e rmX4_reckon s m args below meth c Q D ct ad layC A 10 v 119 [(0, .ref (ad 57)), (1, .ref (ad q1)), (2, .ref (ad q2)), (3, .int x3), (4, .int x4), (6, .int x6), (7, .int x7), (8, .int x8)] []) : sn_At p l e rmX4_reckon s m args below meth c Q D ct ad layC A 10 z.1 68 [(0, .ref (ad 57)), (1, .ref (ad q1)), (2, .ref (ad q2)), (3, .int x3), (4, .int x4), (6, .int x6), (7, .int x7), (8, .int x8), (9, .int z.2)] [] :=
  sn_loop (f := LX4_reckon_68 q1 q2 x3 x4 x6 x7 x8) (G := fun z => sn_At p l e rmX4_reckon s m args below meth c Q D ct ad layC A 10 z.1 68 [(0, .ref (ad 57)), (1, .ref (ad q1)), (2, .ref (ad q2)), (3, .int x3), (4, .int x4), (6, .int x6), (7, .int x7), (8, .int x8), (9, .int z.2)] []) (E := fun t => (∀ v, t = v → sn_At p l e rmX4_reckon s m args below meth c Q D ct ad layC A 10 v 119 [(0, .ref (ad 57)), (1, .ref (ad q1)), (2, .ref (ad q2)), (3, .int x3), (4, .int x4), (6, .int x6), (7, .int x7), (8, .int x8)] []) ∧ True) (fun z o hf k1 k2 => wX4_reckon_68 C h1 h2 hf (fun v e => k1 v e) (fun v e => (k2 _ e).1 v rfl)) 5000 z t h ⟨kx, trivial⟩
theorem wX4_reckon_62 (C : sn_C p s m args meth c RX4 cX4_reckon 10 none D ct ad layC A) {σ : sn_S} {q1 : Nat} {q2 : Nat} {x3 : Int32} {x4 : Int32} {x6 : Int32} {x7 : Int32} {t0 : Int32} (h1 : sn_isX2 q1) (h2 : sn_isX0 q2) {o : (sn_S × Int32) ⊕ (sn_S)} (hf : BX4_reckon_62 σ q1 q2 x3 x4 x6 x7 t0 = some o) (kc : ∀ v, o = .inl v → sn_At p l e rmX4_reckon s m args below meth c Q D ct ad layC A 10 v.1 34 [(0, .ref (ad 57)), (1, .ref (ad q1)), (2, .ref (ad q2)), (3, .int x3), (4, .int x4), (6, .int x6), (7, .int v.2)] []) (kx : ∀ v, o = .inr v → sn_At p l e rmX4_reckon s m args below meth c Q D ct ad layC A 10 v 178 [(0, .ref (ad 57)), (6, .int x6)] []) : sn_At p l e rmX4_reckon s m args below meth c Q D ct ad layC A 10 σ 62 [(0, .ref (ad 57)), (1, .ref (ad q1)), (2, .ref (ad q2)), (3, .int x3), (4, .int x4), (6, .int x6), (7, .int x7)] [.int t0] := by
  intro H locs ls hw hl
  have hx := C.1
  have hb := C.2.1
  unfold BX4_reckon_62 at hf
  refine lv_istore (lv' := [(8, .int t0), (0, .ref (ad 57)), (1, .ref (ad q1)), (2, .ref (ad q2)), (3, .int x3), (4, .int x4), (6, .int x6), (7, .int x7)]) hx hb dX4_reckon_62 hl (by decide) rfl (fun ls hl => ?_)
  refine lv_iload hx hb dX4_reckon_64 (lv_at hl 0 rfl) ?_
  refine lv_istore (lv' := [(9, .int t0), (8, .int t0), (0, .ref (ad 57)), (1, .ref (ad q1)), (2, .ref (ad q2)), (3, .int x3), (4, .int x4), (6, .int x6), (7, .int x7)]) hx hb dX4_reckon_66 hl (by decide) rfl (fun ls hl => ?_)
  obtain ⟨t_1, h_2, hf⟩ := sn_bd hf
  exact wX4_reckon_L68 C h1 h2 h_2 (fun v e => by cases e; exact wX4_reckon_119 C h1 h2 hf kc kx) _ _ _ hw (lv_sub hl [2, 3, 4, 5, 6, 7, 8, 1, 0] rfl)
theorem wX4_reckon_34 (C : sn_C p s m args meth c RX4 cX4_reckon 10 none D ct ad layC A) {σ : sn_S} {q1 : Nat} {q2 : Nat} {x3 : Int32} {x4 : Int32} {x6 : Int32} {x7 : Int32} (h1 : sn_isX2 q1) (h2 : sn_isX0 q2) {o : (sn_S × Int32) ⊕ (sn_S)} (hf : BX4_reckon_34 σ q1 q2 x3 x4 x6 x7 = some o) (kc : ∀ v, o = .inl v → sn_At p l e rmX4_reckon s m args below meth c Q D ct ad layC A 10 v.1 34 [(0, .ref (ad 57)), (1, .ref (ad q1)), (2, .ref (ad q2)), (3, .int x3), (4, .int x4), (6, .int x6), (7, .int v.2)] []) (kx : ∀ v, o = .inr v → sn_At p l e rmX4_reckon s m args below meth c Q D ct ad layC A 10 v 178 [(0, .ref (ad 57)), (6, .int x6)] []) : sn_At p l e rmX4_reckon s m args below meth c Q D ct ad layC A 10 σ 34 [(0, .ref (ad 57)), (1, .ref (ad q1)), (2, .ref (ad q2)), (3, .int x3), (4, .int x4), (6, .int x6), (7, .int x7)] [] := by
  intro H locs ls hw hl
  have hx := C.1
  have hb := C.2.1
  unfold BX4_reckon_34 at hf
  refine lv_iload hx hb dX4_reckon_34 (lv_at hl 6 rfl) ?_
  refine lv_iconst (v := 1) hx hb dX4_reckon_36 rfl ?_
  refine lv_iload hx hb dX4_reckon_37 (lv_at hl 5 rfl) ?_
  refine lv_ishl hx hb dX4_reckon_39 ?_
  refine lv_icmp_ge (tgt := 178) hx hb dX4_reckon_40 (by decide) (fun c_1 => ?_) (fun c_1 => ?_)
  · have hf := sn_if c_1 hf
    cases hf
    exact kx _ rfl _ _ _ hw (lv_sub hl [0, 5] rfl)
  · have hf := sn_el c_1 hf
    refine lv_iload hx hb dX4_reckon_43 (lv_at hl 6 rfl) ?_
    refine lv_if_ne (tgt := 52) hx hb dX4_reckon_45 (by decide) (fun c_2 => ?_) (fun c_2 => ?_)
    · have hf := sn_el c_2 hf
      refine lv_iload hx hb dX4_reckon_52 (lv_at hl 5 rfl) ?_
      refine lv_iconst (v := 1) hx hb dX4_reckon_54 rfl ?_
      refine lv_isub hx hb dX4_reckon_55 ?_
      refine lv_iload hx hb dX4_reckon_56 (lv_at hl 6 rfl) ?_
      obtain ⟨t_3, h_4, hf⟩ := sn_bd hf
      refine sn_callNi (rest := [.int (x6 - (1 : Int32))]) C hw (ctX8_lowestBit l  h_4) kl_RX4_47 rfl rfl rfl (Nat.le_of_ble_eq_true rfl) dX4_reckon_58 hl.1 (fun H locs hw => ?_)
      refine lv_isub hx hb dX4_reckon_61 ?_
      exact wX4_reckon_62 C h1 h2 hf kc kx _ _ _ hw (lv_sub hl [0, 1, 2, 3, 4, 5, 6] rfl)
    · have hf := sn_if c_2 hf
      refine lv_iconst (v := 0) hx hb dX4_reckon_48 rfl ?_
      refine lv_goto (tgt := 62) hx hb dX4_reckon_49 (by decide) ?_
      exact wX4_reckon_62 C h1 h2 hf kc kx _ _ _ hw (lv_sub hl [0, 1, 2, 3, 4, 5, 6] rfl)
theorem wX4_reckon_L34 (C : sn_C p s m args meth c RX4 cX4_reckon 10 none D ct ad layC A) {q1 : Nat} {q2 : Nat} {x3 : Int32} {x4 : Int32} {x6 : Int32}  (h1 : sn_isX2 q1) (h2 : sn_isX0 q2) {z : sn_S × Int32} {t : sn_S} (h : sn_it (LX4_reckon_34 q1 q2 x3 x4 x6) 5000 z = some t) (kx : ∀ v, t = v → sn_At p l e rmX4_reckon s m args below meth c Q D ct ad layC A 10 v 178 [(0, .ref (ad 57)), (6, .int x6)] []) : sn_At p l e rmX4_reckon s m args below meth c Q D ct ad layC A 10 z.1 34 [(0, .ref (ad 57)), (1, .ref (ad q1)), (2, .ref (ad q2)), (3, .int x3), (4, .int x4), (6, .int x6), (7, .int z.2)] [] :=
  sn_loop (f := LX4_reckon_34 q1 q2 x3 x4 x6) (G := fun z => sn_At p l e rmX4_reckon s m args below meth c Q D ct ad layC A 10 z.1 34 [(0, .ref (ad 57)), (1, .ref (ad q1)), (2, .ref (ad q2)), (3, .int x3), (4, .int x4), (6, .int x6), (7, .int z.2)] []) (E := fun t => (∀ v, t = v → sn_At p l e rmX4_reckon s m args below meth c Q D ct ad layC A 10 v 178 [(0, .ref (ad 57)), (6, .int x6)] []) ∧ True) (fun z o hf k1 k2 => wX4_reckon_34 C h1 h2 hf (fun v e => k1 v e) (fun v e => (k2 _ e).1 v rfl)) 5000 z t h ⟨kx, trivial⟩
theorem wX4_reckon_in (C : sn_C p s m args meth c RX4 cX4_reckon 10 none D ct ad layC A) {σ : sn_S} {q1 : Nat} {q2 : Nat} {x3 : Int32} {x4 : Int32} {x5 : Int32} (h1 : sn_isX2 q1) (h2 : sn_isX0 q2) {o : sn_S} (hf : fX4_reckon σ q1 q2 x3 x4 x5 = some o) (kr : sn_Kr p l e rmX4_reckon s m args below meth c Q D ct ad layC A cX4_reckon .return_ (true) o []) : sn_At p l e rmX4_reckon s m args below meth c Q D ct ad layC A 10 σ 0 [(0, .ref (ad 57)), (1, .ref (ad q1)), (2, .ref (ad q2)), (3, .int x3), (4, .int x4), (5, .int x5)] [] := by
  intro H locs ls hw hl
  have hx := C.1
  have hb := C.2.1
  unfold fX4_reckon at hf
  refine lv_iload hx hb dX4_reckon_0 (lv_at hl 5 rfl) ?_
  refine lv_iconst (v := 1) hx hb dX4_reckon_2 rfl ?_
  refine lv_iadd hx hb dX4_reckon_3 ?_
  obtain ⟨y_1, e_2, hf⟩ := sn_ltE hf
  refine lv_topi (fun y_1_ e_2_ => ?_)
  obtain rfl : y_1 = y_1_ := e_2.trans e_2_.symm
  refine lv_istore (lv' := [(6, .int y_1), (0, .ref (ad 57)), (1, .ref (ad q1)), (2, .ref (ad q2)), (3, .int x3), (4, .int x4), (5, .int x5)]) hx hb dX4_reckon_4 hl (by decide) rfl (fun ls hl => ?_)
  refine lv_aload_n hx hb dX4_reckon_6 rfl (lv_at hl 1 rfl) ?_
  refine lv_iload hx hb dX4_reckon_7 (lv_at hl 0 rfl) ?_
  refine lv_aload_n hx hb dX4_reckon_9 rfl (lv_at hl 2 rfl) ?_
  refine sn_getC (r := (q1 + 1)) C hw fd_RX4_29 (sn_look h1 (k := 0) rfl) rfl dX4_reckon_10 ?_
  refine lv_iconst (v := 4) hx hb dX4_reckon_13 rfl ?_
  obtain ⟨g_3, hf⟩ := sn_gdE hf
  refine sn_iald C hw (sn_look h1 (k := 1) rfl) g_3 dX4_reckon_14 ?_
  obtain ⟨t_4, h_5, hf⟩ := sn_bd hf
  refine sn_callVv (rest := []) C hw (ctX4_weigh l  h_5) kl_RX4_35 layC_57 rfl rfl rfl rfl (Nat.le_of_ble_eq_true rfl) dX4_reckon_15 hl.1 (fun H locs hw => ?_)
  refine lv_aload_n hx hb dX4_reckon_18 rfl (lv_at hl 1 rfl) ?_
  refine sn_getC (r := 59) C hw fd_RX4_18 layC_57 rfl dX4_reckon_19 ?_
  refine lv_aload_n hx hb dX4_reckon_22 rfl (lv_at hl 3 rfl) ?_
  obtain ⟨t_6, h_7, hf⟩ := sn_bd hf
  refine sn_callVv (rest := []) C hw (ctX0_copyFrom l sn_isX0_59 h2 h_7) kl_RX4_39 (sn_look sn_isX0_59 (k := 0) rfl) rfl rfl rfl rfl (Nat.le_of_ble_eq_true rfl) dX4_reckon_23 hl.1 (fun H locs hw => ?_)
  refine lv_aload_n hx hb dX4_reckon_26 rfl (lv_at hl 1 rfl) ?_
  refine lv_lconst (v := 0) hx hb dX4_reckon_27 rfl ?_
  refine sn_putL C hw fp_RX4_43 layC_57 rfl dX4_reckon_28 (fun H locs hw => ?_)
  obtain ⟨σ_8, e_9, hf⟩ := sn_ltE hf
  rw [← e_9] at hw
  refine lv_iconst (v := 0) hx hb dX4_reckon_31 rfl ?_
  refine lv_istore (lv' := [(7, .int (0 : Int32)), (6, .int y_1), (0, .ref (ad 57)), (1, .ref (ad q1)), (2, .ref (ad q2)), (3, .int x3), (4, .int x4), (5, .int x5)]) hx hb dX4_reckon_32 hl (by decide) rfl (fun ls hl => ?_)
  obtain ⟨t_10, h_11, hf⟩ := sn_bd hf
  exact wX4_reckon_L34 C h1 h2 h_11 (fun v e => by cases e; exact wX4_reckon_178 C h1 h2 hf kr) _ _ _ hw (lv_sub hl [2, 3, 4, 5, 6, 1, 0] rfl)
theorem ctX4_reckon (l : Launch) {σ : sn_S} {q1 : Nat} {q2 : Nat} {x3 : Int32} {x4 : Int32} {x5 : Int32} (h1 : sn_isX2 q1) (h2 : sn_isX0 q2) {o : sn_S} (hf : fX4_reckon σ q1 q2 x3 x4 x5 = some o) : sn_M l yX4_reckon cX4_reckon 10 none rmX4_reckon layC (fun ad => [.ref (ad 57), .ref (ad q1), .ref (ad q2), .int x3, .int x4, .int x5]) σ none o :=
  sn_met (by decide) (fun _ => Nat.le_of_ble_eq_true rfl) (fun p e s m args below meth c ls D ct ad A C hw hl => wX4_reckon_in C h1 h2 hf (fun H locs ls pc hw ok hd => sn_vret C hw hd) _ _ _ hw hl)
-- X5_put
abbrev rmX5_put : Room := { frames := 0, cells := 0, slots := 0, locals := 0 }
def BX5_put_49 (σ : sn_S) : Option (sn_S) :=
  (some σ)
def BX5_put_3 (σ : sn_S) (x1 : Int32) (x2 : Int32) : Option ((sn_S × Int32) ⊕ (sn_S)) :=
  (if x2 < 0 then
  (some (.inr (σ)))
  else
  (if (900 : Int32) ≤ (sn_I σ 17 1) then
  (some (.inr (σ)))
  else
  (sn_gd (sn_in (sn_I σ 17 1) 900) (sn_lt (sn_pI σ 18 (sn_I σ 17 1).toNatClampNeg ((x1 >>> (x2 &&& 31)) &&& (255 : Int32))) fun σ_4 => (sn_lt (sn_pI σ_4 17 1 ((sn_I σ_4 17 1) + (1 : Int32))) fun σ_6 => (sn_lt (x2 + (-8)) fun y_8 => (some (.inl (σ_6, y_8)))))))))
def LX5_put_3 (x1 : Int32) (s : sn_S × Int32) : Option ((sn_S × Int32) ⊕ (sn_S)) := BX5_put_3 s.1 x1 s.2
def fX5_put (σ : sn_S) (x1 : Int32) : Option sn_S :=
  ((sn_it (LX5_put_3 x1) 5000 (σ, (24 : Int32))).bind fun t_1 => (BX5_put_49 t_1))
theorem wX5_put_49 (C : sn_C p s m args meth c RX5 cX5_put 3 none D ct ad layC A) {σ : sn_S}  {o : sn_S} (hf : BX5_put_49 σ = some o) (kr : sn_Kr p l e rmX5_put s m args below meth c Q D ct ad layC A cX5_put .return_ (true) o []) : sn_At p l e rmX5_put s m args below meth c Q D ct ad layC A 3 σ 49 [] [] := by
  intro H locs ls hw hl
  have hx := C.1
  have hb := C.2.1
  unfold BX5_put_49 at hf
  cases hf
  exact kr _ _ _ _ hw rfl dX5_put_49
theorem wX5_put_3 (C : sn_C p s m args meth c RX5 cX5_put 3 none D ct ad layC A) {σ : sn_S} {x1 : Int32} {x2 : Int32}  {o : (sn_S × Int32) ⊕ (sn_S)} (hf : BX5_put_3 σ x1 x2 = some o) (kc : ∀ v, o = .inl v → sn_At p l e rmX5_put s m args below meth c Q D ct ad layC A 3 v.1 3 [(0, .ref (ad 17)), (1, .int x1), (2, .int v.2)] []) (kx : ∀ v, o = .inr v → sn_At p l e rmX5_put s m args below meth c Q D ct ad layC A 3 v 49 [] []) : sn_At p l e rmX5_put s m args below meth c Q D ct ad layC A 3 σ 3 [(0, .ref (ad 17)), (1, .int x1), (2, .int x2)] [] := by
  intro H locs ls hw hl
  have hx := C.1
  have hb := C.2.1
  unfold BX5_put_3 at hf
  refine lv_iload_n hx hb dX5_put_3 rfl (lv_at hl 2 rfl) ?_
  refine lv_if_lt (tgt := 49) hx hb dX5_put_4 (by decide) (fun c_1 => ?_) (fun c_1 => ?_)
  · have hf := sn_if c_1 hf
    cases hf
    exact kx _ rfl _ _ _ hw (lv_sub hl [] rfl)
  · have hf := sn_el c_1 hf
    refine lv_aload_n hx hb dX5_put_7 rfl (lv_at hl 0 rfl) ?_
    refine sn_getI C hw fd_RX5_19 layC_17 rfl dX5_put_8 ?_
    refine lv_sipush (v := 900) hx hb dX5_put_11 (by decide) ?_
    refine lv_icmp_ge (tgt := 49) hx hb dX5_put_14 (by decide) (fun c_2 => ?_) (fun c_2 => ?_)
    · have hf := sn_if c_2 hf
      cases hf
      exact kx _ rfl _ _ _ hw (lv_sub hl [] rfl)
    · have hf := sn_el c_2 hf
      refine lv_aload_n hx hb dX5_put_17 rfl (lv_at hl 0 rfl) ?_
      refine sn_getC (r := 18) C hw fd_RX5_9 layC_17 rfl dX5_put_18 ?_
      refine lv_aload_n hx hb dX5_put_21 rfl (lv_at hl 0 rfl) ?_
      refine sn_getI C hw fd_RX5_19 layC_17 rfl dX5_put_22 ?_
      refine lv_iload_n hx hb dX5_put_25 rfl (lv_at hl 1 rfl) ?_
      refine lv_iload_n hx hb dX5_put_26 rfl (lv_at hl 2 rfl) ?_
      refine lv_ishr hx hb dX5_put_27 ?_
      refine lv_sipush (v := 255) hx hb dX5_put_28 (by decide) ?_
      refine lv_iand hx hb dX5_put_31 ?_
      obtain ⟨g_3, hf⟩ := sn_gdE hf
      refine sn_iast C hw layC_18 g_3 dX5_put_32 (fun H locs hw => ?_)
      obtain ⟨σ_4, e_5, hf⟩ := sn_ltE hf
      rw [← e_5] at hw
      refine lv_aload_n hx hb dX5_put_33 rfl (lv_at hl 0 rfl) ?_
      refine lv_dup hx hb dX5_put_34 rfl ?_
      refine sn_getI C hw fd_RX5_19 layC_17 rfl dX5_put_35 ?_
      refine lv_iconst (v := 1) hx hb dX5_put_38 rfl ?_
      refine lv_iadd hx hb dX5_put_39 ?_
      refine sn_putI C hw fp_RX5_19 layC_17 rfl dX5_put_40 (fun H locs hw => ?_)
      obtain ⟨σ_6, e_7, hf⟩ := sn_ltE hf
      rw [← e_7] at hw
      obtain ⟨y_8, e_9, hf⟩ := sn_ltE hf
      refine lv_iinc (v := y_8) (lv' := [(2, .int y_8), (0, .ref (ad 17)), (1, .int x1)]) hx hb dX5_put_43 hl (k := 2) rfl (by rw [e_9]; rfl) (by decide) rfl (fun ls hl => ?_)
      refine lv_goto (tgt := 3) hx hb dX5_put_46 (by decide) ?_
      cases hf
      exact kc _ rfl _ _ _ hw (lv_sub hl [1, 2, 0] rfl)
theorem wX5_put_L3 (C : sn_C p s m args meth c RX5 cX5_put 3 none D ct ad layC A) {x1 : Int32}   {z : sn_S × Int32} {t : sn_S} (h : sn_it (LX5_put_3 x1) 5000 z = some t) (kx : ∀ v, t = v → sn_At p l e rmX5_put s m args below meth c Q D ct ad layC A 3 v 49 [] []) : sn_At p l e rmX5_put s m args below meth c Q D ct ad layC A 3 z.1 3 [(0, .ref (ad 17)), (1, .int x1), (2, .int z.2)] [] :=
  sn_loop (f := LX5_put_3 x1) (G := fun z => sn_At p l e rmX5_put s m args below meth c Q D ct ad layC A 3 z.1 3 [(0, .ref (ad 17)), (1, .int x1), (2, .int z.2)] []) (E := fun t => (∀ v, t = v → sn_At p l e rmX5_put s m args below meth c Q D ct ad layC A 3 v 49 [] []) ∧ True) (fun z o hf k1 k2 => wX5_put_3 C  hf (fun v e => k1 v e) (fun v e => (k2 _ e).1 v rfl)) 5000 z t h ⟨kx, trivial⟩
theorem wX5_put_in (C : sn_C p s m args meth c RX5 cX5_put 3 none D ct ad layC A) {σ : sn_S} {x1 : Int32}  {o : sn_S} (hf : fX5_put σ x1 = some o) (kr : sn_Kr p l e rmX5_put s m args below meth c Q D ct ad layC A cX5_put .return_ (true) o []) : sn_At p l e rmX5_put s m args below meth c Q D ct ad layC A 3 σ 0 [(0, .ref (ad 17)), (1, .int x1)] [] := by
  intro H locs ls hw hl
  have hx := C.1
  have hb := C.2.1
  unfold fX5_put at hf
  refine lv_bipush (v := 24) hx hb dX5_put_0 (by decide) ?_
  refine lv_istore_n (lv' := [(2, .int (24 : Int32)), (0, .ref (ad 17)), (1, .int x1)]) hx hb dX5_put_2 rfl hl (by decide) rfl (fun ls hl => ?_)
  obtain ⟨t_1, h_2, hf⟩ := sn_bd hf
  exact wX5_put_L3 C  h_2 (fun v e => by cases e; exact wX5_put_49 C  hf kr) _ _ _ hw (lv_sub hl [1, 2, 0] rfl)
theorem ctX5_put (l : Launch) {σ : sn_S} {x1 : Int32}  {o : sn_S} (hf : fX5_put σ x1 = some o) : sn_M l yX5_put cX5_put 3 none rmX5_put layC (fun ad => [.ref (ad 17), .int x1]) σ none o :=
  sn_met (by decide) (fun _ => Nat.le_of_ble_eq_true rfl) (fun p e s m args below meth c ls D ct ad A C hw hl => wX5_put_in C  hf (fun H locs ls pc hw ok hd => sn_vret C hw hd) _ _ _ hw hl)
-- X5_kindAt
abbrev rmX5_kindAt : Room := { frames := 0, cells := 0, slots := 0, locals := 0 }
def BX5_kindAt_59 (σ : sn_S) (x2 : Int32) : Option (Int32) :=
  (if x2 = (59 : Int32) then
  (some (3 : Int32))
  else
  (some (5 : Int32)))
def BX5_kindAt_45 (σ : sn_S) (x2 : Int32) : Option (Int32) :=
  (if x2 < (48 : Int32) then
  (BX5_kindAt_59 σ x2)
  else
  (if (57 : Int32) < x2 then
  (BX5_kindAt_59 σ x2)
  else
  (some (2 : Int32))))
def fX5_kindAt (σ : sn_S) (x1 : Int32) : Option Int32 :=
  (if x1 < (sn_I σ 17 1) then
  (sn_gd (sn_in x1 900) (sn_lt (sn_I σ 18 x1.toNatClampNeg) fun y_3 => (if y_3 = (32 : Int32) then
  (some (4 : Int32))
  else
  (if y_3 = (10 : Int32) then
  (some (4 : Int32))
  else
  (if y_3 < (97 : Int32) then
  (BX5_kindAt_45 σ y_3)
  else
  (if (122 : Int32) < y_3 then
  (BX5_kindAt_45 σ y_3)
  else
  (some (1 : Int32))))))))
  else
  (some (0 : Int32)))
theorem wX5_kindAt_59 (C : sn_C p s m args meth c RX5 cX5_kindAt 3 (some .int) D ct ad layC A) {σ : sn_S} {x2 : Int32}  {o : Int32} (hf : BX5_kindAt_59 σ x2 = some o) (kr : sn_Kr p l e rmX5_kindAt s m args below meth c Q D ct ad layC A cX5_kindAt .ireturn (true) σ [.int o]) : sn_At p l e rmX5_kindAt s m args below meth c Q D ct ad layC A 3 σ 59 [(2, .int x2)] [] := by
  intro H locs ls hw hl
  have hx := C.1
  have hb := C.2.1
  unfold BX5_kindAt_59 at hf
  refine lv_iload_n hx hb dX5_kindAt_59 rfl (lv_at hl 0 rfl) ?_
  refine lv_bipush (v := 59) hx hb dX5_kindAt_60 (by decide) ?_
  refine lv_icmp_ne (tgt := 69) hx hb dX5_kindAt_62 (by decide) (fun c_1 => ?_) (fun c_1 => ?_)
  · have hf := sn_el c_1 hf
    refine lv_iconst (v := 5) hx hb dX5_kindAt_69 rfl ?_
    cases hf
    exact kr _ _ _ _ hw rfl dX5_kindAt_70
  · have hf := sn_if c_1 hf
    refine lv_iconst (v := 3) hx hb dX5_kindAt_65 rfl ?_
    refine lv_goto (tgt := 70) hx hb dX5_kindAt_66 (by decide) ?_
    cases hf
    exact kr _ _ _ _ hw rfl dX5_kindAt_70
theorem wX5_kindAt_45 (C : sn_C p s m args meth c RX5 cX5_kindAt 3 (some .int) D ct ad layC A) {σ : sn_S} {x2 : Int32}  {o : Int32} (hf : BX5_kindAt_45 σ x2 = some o) (kr : sn_Kr p l e rmX5_kindAt s m args below meth c Q D ct ad layC A cX5_kindAt .ireturn (true) σ [.int o]) : sn_At p l e rmX5_kindAt s m args below meth c Q D ct ad layC A 3 σ 45 [(2, .int x2)] [] := by
  intro H locs ls hw hl
  have hx := C.1
  have hb := C.2.1
  unfold BX5_kindAt_45 at hf
  refine lv_iload_n hx hb dX5_kindAt_45 rfl (lv_at hl 0 rfl) ?_
  refine lv_bipush (v := 48) hx hb dX5_kindAt_46 (by decide) ?_
  refine lv_icmp_lt (tgt := 59) hx hb dX5_kindAt_48 (by decide) (fun c_1 => ?_) (fun c_1 => ?_)
  · have hf := sn_if c_1 hf
    exact wX5_kindAt_59 C  hf kr _ _ _ hw (lv_sub hl [0] rfl)
  · have hf := sn_el c_1 hf
    refine lv_iload_n hx hb dX5_kindAt_51 rfl (lv_at hl 0 rfl) ?_
    refine lv_bipush (v := 57) hx hb dX5_kindAt_52 (by decide) ?_
    refine lv_icmp_gt (tgt := 59) hx hb dX5_kindAt_54 (by decide) (fun c_2 => ?_) (fun c_2 => ?_)
    · have hf := sn_if c_2 hf
      exact wX5_kindAt_59 C  hf kr _ _ _ hw (lv_sub hl [0] rfl)
    · have hf := sn_el c_2 hf
      refine lv_iconst (v := 2) hx hb dX5_kindAt_57 rfl ?_
      cases hf
      exact kr _ _ _ _ hw rfl dX5_kindAt_58
theorem wX5_kindAt_in (C : sn_C p s m args meth c RX5 cX5_kindAt 3 (some .int) D ct ad layC A) {σ : sn_S} {x1 : Int32}  {o : Int32} (hf : fX5_kindAt σ x1 = some o) (kr : sn_Kr p l e rmX5_kindAt s m args below meth c Q D ct ad layC A cX5_kindAt .ireturn (true) σ [.int o]) : sn_At p l e rmX5_kindAt s m args below meth c Q D ct ad layC A 3 σ 0 [(0, .ref (ad 17)), (1, .int x1)] [] := by
  intro H locs ls hw hl
  have hx := C.1
  have hb := C.2.1
  unfold fX5_kindAt at hf
  refine lv_iload_n hx hb dX5_kindAt_0 rfl (lv_at hl 1 rfl) ?_
  refine lv_aload_n hx hb dX5_kindAt_1 rfl (lv_at hl 0 rfl) ?_
  refine sn_getI C hw fd_RX5_19 layC_17 rfl dX5_kindAt_2 ?_
  refine lv_icmp_lt (tgt := 10) hx hb dX5_kindAt_5 (by decide) (fun c_1 => ?_) (fun c_1 => ?_)
  · have hf := sn_if c_1 hf
    refine lv_aload_n hx hb dX5_kindAt_10 rfl (lv_at hl 0 rfl) ?_
    refine sn_getC (r := 18) C hw fd_RX5_9 layC_17 rfl dX5_kindAt_11 ?_
    refine lv_iload_n hx hb dX5_kindAt_14 rfl (lv_at hl 1 rfl) ?_
    obtain ⟨g_2, hf⟩ := sn_gdE hf
    refine sn_iald C hw layC_18 g_2 dX5_kindAt_15 ?_
    obtain ⟨y_3, e_4, hf⟩ := sn_ltE hf
    refine lv_topi (fun y_3_ e_4_ => ?_)
    obtain rfl : y_3 = y_3_ := e_4.trans e_4_.symm
    refine lv_istore_n (lv' := [(2, .int y_3), (0, .ref (ad 17)), (1, .int x1)]) hx hb dX5_kindAt_16 rfl hl (by decide) rfl (fun ls hl => ?_)
    refine lv_iload_n hx hb dX5_kindAt_17 rfl (lv_at hl 0 rfl) ?_
    refine lv_bipush (v := 32) hx hb dX5_kindAt_18 (by decide) ?_
    refine lv_icmp_eq (tgt := 29) hx hb dX5_kindAt_20 (by decide) (fun c_5 => ?_) (fun c_5 => ?_)
    · have hf := sn_if c_5 hf
      refine lv_iconst (v := 4) hx hb dX5_kindAt_29 rfl ?_
      cases hf
      exact kr _ _ _ _ hw rfl dX5_kindAt_30
    · have hf := sn_el c_5 hf
      refine lv_iload_n hx hb dX5_kindAt_23 rfl (lv_at hl 0 rfl) ?_
      refine lv_bipush (v := 10) hx hb dX5_kindAt_24 (by decide) ?_
      refine lv_icmp_ne (tgt := 31) hx hb dX5_kindAt_26 (by decide) (fun c_6 => ?_) (fun c_6 => ?_)
      · have hf := sn_el c_6 hf
        refine lv_iload_n hx hb dX5_kindAt_31 rfl (lv_at hl 0 rfl) ?_
        refine lv_bipush (v := 97) hx hb dX5_kindAt_32 (by decide) ?_
        refine lv_icmp_lt (tgt := 45) hx hb dX5_kindAt_34 (by decide) (fun c_7 => ?_) (fun c_7 => ?_)
        · have hf := sn_if c_7 hf
          exact wX5_kindAt_45 C  hf kr _ _ _ hw (lv_sub hl [0] rfl)
        · have hf := sn_el c_7 hf
          refine lv_iload_n hx hb dX5_kindAt_37 rfl (lv_at hl 0 rfl) ?_
          refine lv_bipush (v := 122) hx hb dX5_kindAt_38 (by decide) ?_
          refine lv_icmp_gt (tgt := 45) hx hb dX5_kindAt_40 (by decide) (fun c_8 => ?_) (fun c_8 => ?_)
          · have hf := sn_if c_8 hf
            exact wX5_kindAt_45 C  hf kr _ _ _ hw (lv_sub hl [0] rfl)
          · have hf := sn_el c_8 hf
            refine lv_iconst (v := 1) hx hb dX5_kindAt_43 rfl ?_
            cases hf
            exact kr _ _ _ _ hw rfl dX5_kindAt_44
      · have hf := sn_if c_6 hf
        refine lv_iconst (v := 4) hx hb dX5_kindAt_29 rfl ?_
        cases hf
        exact kr _ _ _ _ hw rfl dX5_kindAt_30
  · have hf := sn_el c_1 hf
    refine lv_iconst (v := 0) hx hb dX5_kindAt_8 rfl ?_
    cases hf
    exact kr _ _ _ _ hw rfl dX5_kindAt_9
theorem ctX5_kindAt (l : Launch) {σ : sn_S} {x1 : Int32}  {o : Int32} (hf : fX5_kindAt σ x1 = some o) : sn_M l yX5_kindAt cX5_kindAt 3 (some .int) rmX5_kindAt layC (fun ad => [.ref (ad 17), .int x1]) σ (some (fun _ => .int o)) σ :=
  sn_met (by decide) (fun _ => Nat.le_of_ble_eq_true rfl) (fun p e s m args below meth c ls D ct ad A C hw hl => wX5_kindAt_in C  hf (fun H locs ls pc hw ok hd => sn_iret C hw hd) _ _ _ hw hl)
-- X5_step
abbrev rmX5_step : Room := { frames := 1, cells := 0, slots := 0, locals := 32 }
def BX5_step_128 (σ : sn_S) : Option (sn_S) :=
  (some σ)
def BX5_step_89 (σ : sn_S) : Option ((sn_S) ⊕ (sn_S)) :=
  (if (sn_I σ 17 1) ≤ (sn_I σ 17 5) then
  (some (.inr (σ)))
  else
  ((fX5_kindAt σ (sn_I σ 17 5)).bind fun t_2 => (if t_2 = (sn_I σ 17 6) then
  (sn_lt (sn_pI σ 17 5 ((sn_I σ 17 5) + (1 : Int32))) fun σ_5 => (some (.inl (σ_5))))
  else
  (some (.inr (σ))))))
def BX5_step_73 (σ : sn_S) : Option ((sn_S) ⊕ (sn_S)) :=
  (if (sn_I σ 17 6) = (1 : Int32) then
  (BX5_step_89 σ)
  else
  (if (sn_I σ 17 6) = (2 : Int32) then
  (BX5_step_89 σ)
  else
  (some (.inr (σ)))))
def LX5_step_73  (s : sn_S) : Option ((sn_S) ⊕ (sn_S)) := BX5_step_73 s
def BX5_step_44 (σ : sn_S) : Option (sn_S) :=
  ((fX5_kindAt σ (sn_I σ 17 4)).bind fun t_1 => (sn_lt (sn_pI σ 17 6 t_1) fun σ_3 => (sn_lt (if (sn_I σ_3 17 1) < ((sn_I σ_3 17 4) + (1 : Int32)) then (sn_I σ_3 17 1) else ((sn_I σ_3 17 4) + (1 : Int32))) fun y_5 => (sn_lt (sn_pI σ_3 17 5 y_5) fun σ_7 => ((sn_it (LX5_step_73 ) 5000 (σ_7)).bind fun t_9 => (BX5_step_128 t_9))))))
def BX5_step_8 (σ : sn_S) : Option ((sn_S) ⊕ (sn_S)) :=
  (if (sn_I σ 17 1) ≤ (sn_I σ 17 4) then
  (some (.inr (σ)))
  else
  ((fX5_kindAt σ (sn_I σ 17 4)).bind fun t_2 => (if t_2 = (4 : Int32) then
  (sn_lt (sn_pI σ 17 4 ((sn_I σ 17 4) + (1 : Int32))) fun σ_5 => (some (.inl (σ_5))))
  else
  (some (.inr (σ))))))
def LX5_step_8  (s : sn_S) : Option ((sn_S) ⊕ (sn_S)) := BX5_step_8 s
def fX5_step (σ : sn_S) : Option sn_S :=
  (sn_lt (sn_pI σ 17 4 (sn_I σ 17 5)) fun σ_1 => ((sn_it (LX5_step_8 ) 5000 (σ_1)).bind fun t_3 => (BX5_step_44 t_3)))
theorem wX5_step_128 (C : sn_C p s m args meth c RX5 cX5_step 1 none D ct ad layC A) {σ : sn_S}  {o : sn_S} (hf : BX5_step_128 σ = some o) (kr : sn_Kr p l e rmX5_step s m args below meth c Q D ct ad layC A cX5_step .return_ (true) o []) : sn_At p l e rmX5_step s m args below meth c Q D ct ad layC A 1 σ 128 [] [] := by
  intro H locs ls hw hl
  have hx := C.1
  have hb := C.2.1
  unfold BX5_step_128 at hf
  cases hf
  exact kr _ _ _ _ hw rfl dX5_step_128
theorem wX5_step_89 (C : sn_C p s m args meth c RX5 cX5_step 1 none D ct ad layC A) {σ : sn_S}  {o : (sn_S) ⊕ (sn_S)} (hf : BX5_step_89 σ = some o) (kc : ∀ v, o = .inl v → sn_At p l e rmX5_step s m args below meth c Q D ct ad layC A 1 v 73 [(0, .ref (ad 17))] []) (kx : ∀ v, o = .inr v → sn_At p l e rmX5_step s m args below meth c Q D ct ad layC A 1 v 128 [] []) : sn_At p l e rmX5_step s m args below meth c Q D ct ad layC A 1 σ 89 [(0, .ref (ad 17))] [] := by
  intro H locs ls hw hl
  have hx := C.1
  have hb := C.2.1
  unfold BX5_step_89 at hf
  refine lv_aload_n hx hb dX5_step_89 rfl (lv_at hl 0 rfl) ?_
  refine sn_getI C hw fd_RX5_34 layC_17 rfl dX5_step_90 ?_
  refine lv_aload_n hx hb dX5_step_93 rfl (lv_at hl 0 rfl) ?_
  refine sn_getI C hw fd_RX5_19 layC_17 rfl dX5_step_94 ?_
  refine lv_icmp_ge (tgt := 128) hx hb dX5_step_97 (by decide) (fun c_1 => ?_) (fun c_1 => ?_)
  · have hf := sn_if c_1 hf
    cases hf
    exact kx _ rfl _ _ _ hw (lv_sub hl [] rfl)
  · have hf := sn_el c_1 hf
    refine lv_aload_n hx hb dX5_step_100 rfl (lv_at hl 0 rfl) ?_
    refine lv_aload_n hx hb dX5_step_101 rfl (lv_at hl 0 rfl) ?_
    refine sn_getI C hw fd_RX5_34 layC_17 rfl dX5_step_102 ?_
    obtain ⟨t_2, h_3, hf⟩ := sn_bd hf
    refine sn_callVi (rest := []) C hw (ctX5_kindAt l  h_3) kl_RX5_148 layC_17 rfl rfl rfl rfl (Nat.le_of_ble_eq_true rfl) dX5_step_105 hl.1 (fun H locs hw => ?_)
    refine lv_aload_n hx hb dX5_step_108 rfl (lv_at hl 0 rfl) ?_
    refine sn_getI C hw fd_RX5_40 layC_17 rfl dX5_step_109 ?_
    refine lv_icmp_ne (tgt := 128) hx hb dX5_step_112 (by decide) (fun c_4 => ?_) (fun c_4 => ?_)
    · have hf := sn_el c_4 hf
      cases hf
      exact kx _ rfl _ _ _ hw (lv_sub hl [] rfl)
    · have hf := sn_if c_4 hf
      refine lv_aload_n hx hb dX5_step_115 rfl (lv_at hl 0 rfl) ?_
      refine lv_dup hx hb dX5_step_116 rfl ?_
      refine sn_getI C hw fd_RX5_34 layC_17 rfl dX5_step_117 ?_
      refine lv_iconst (v := 1) hx hb dX5_step_120 rfl ?_
      refine lv_iadd hx hb dX5_step_121 ?_
      refine sn_putI C hw fp_RX5_34 layC_17 rfl dX5_step_122 (fun H locs hw => ?_)
      obtain ⟨σ_5, e_6, hf⟩ := sn_ltE hf
      rw [← e_6] at hw
      refine lv_goto (tgt := 73) hx hb dX5_step_125 (by decide) ?_
      cases hf
      exact kc _ rfl _ _ _ hw (lv_sub hl [0] rfl)
theorem wX5_step_73 (C : sn_C p s m args meth c RX5 cX5_step 1 none D ct ad layC A) {σ : sn_S}  {o : (sn_S) ⊕ (sn_S)} (hf : BX5_step_73 σ = some o) (kc : ∀ v, o = .inl v → sn_At p l e rmX5_step s m args below meth c Q D ct ad layC A 1 v 73 [(0, .ref (ad 17))] []) (kx : ∀ v, o = .inr v → sn_At p l e rmX5_step s m args below meth c Q D ct ad layC A 1 v 128 [] []) : sn_At p l e rmX5_step s m args below meth c Q D ct ad layC A 1 σ 73 [(0, .ref (ad 17))] [] := by
  intro H locs ls hw hl
  have hx := C.1
  have hb := C.2.1
  unfold BX5_step_73 at hf
  refine lv_aload_n hx hb dX5_step_73 rfl (lv_at hl 0 rfl) ?_
  refine sn_getI C hw fd_RX5_40 layC_17 rfl dX5_step_74 ?_
  refine lv_iconst (v := 1) hx hb dX5_step_77 rfl ?_
  refine lv_icmp_eq (tgt := 89) hx hb dX5_step_78 (by decide) (fun c_1 => ?_) (fun c_1 => ?_)
  · have hf := sn_if c_1 hf
    exact wX5_step_89 C  hf kc kx _ _ _ hw (lv_sub hl [0] rfl)
  · have hf := sn_el c_1 hf
    refine lv_aload_n hx hb dX5_step_81 rfl (lv_at hl 0 rfl) ?_
    refine sn_getI C hw fd_RX5_40 layC_17 rfl dX5_step_82 ?_
    refine lv_iconst (v := 2) hx hb dX5_step_85 rfl ?_
    refine lv_icmp_ne (tgt := 128) hx hb dX5_step_86 (by decide) (fun c_2 => ?_) (fun c_2 => ?_)
    · have hf := sn_el c_2 hf
      cases hf
      exact kx _ rfl _ _ _ hw (lv_sub hl [] rfl)
    · have hf := sn_if c_2 hf
      exact wX5_step_89 C  hf kc kx _ _ _ hw (lv_sub hl [0] rfl)
theorem wX5_step_L73 (C : sn_C p s m args meth c RX5 cX5_step 1 none D ct ad layC A)    {z : sn_S} {t : sn_S} (h : sn_it (LX5_step_73 ) 5000 z = some t) (kx : ∀ v, t = v → sn_At p l e rmX5_step s m args below meth c Q D ct ad layC A 1 v 128 [] []) : sn_At p l e rmX5_step s m args below meth c Q D ct ad layC A 1 z 73 [(0, .ref (ad 17))] [] :=
  sn_loop (f := LX5_step_73 ) (G := fun z => sn_At p l e rmX5_step s m args below meth c Q D ct ad layC A 1 z 73 [(0, .ref (ad 17))] []) (E := fun t => (∀ v, t = v → sn_At p l e rmX5_step s m args below meth c Q D ct ad layC A 1 v 128 [] []) ∧ True) (fun z o hf k1 k2 => wX5_step_73 C  hf (fun v e => k1 v e) (fun v e => (k2 _ e).1 v rfl)) 5000 z t h ⟨kx, trivial⟩
theorem wX5_step_44 (C : sn_C p s m args meth c RX5 cX5_step 1 none D ct ad layC A) {σ : sn_S}  {o : sn_S} (hf : BX5_step_44 σ = some o) (kr : sn_Kr p l e rmX5_step s m args below meth c Q D ct ad layC A cX5_step .return_ (true) o []) : sn_At p l e rmX5_step s m args below meth c Q D ct ad layC A 1 σ 44 [(0, .ref (ad 17))] [] := by
  intro H locs ls hw hl
  have hx := C.1
  have hb := C.2.1
  unfold BX5_step_44 at hf
  refine lv_aload_n hx hb dX5_step_44 rfl (lv_at hl 0 rfl) ?_
  refine lv_aload_n hx hb dX5_step_45 rfl (lv_at hl 0 rfl) ?_
  refine lv_aload_n hx hb dX5_step_46 rfl (lv_at hl 0 rfl) ?_
  refine sn_getI C hw fd_RX5_131 layC_17 rfl dX5_step_47 ?_
  obtain ⟨t_1, h_2, hf⟩ := sn_bd hf
  refine sn_callVi (rest := [.ref (ad 17)]) C hw (ctX5_kindAt l  h_2) kl_RX5_148 layC_17 rfl rfl rfl rfl (Nat.le_of_ble_eq_true rfl) dX5_step_50 hl.1 (fun H locs hw => ?_)
  refine sn_putI C hw fp_RX5_40 layC_17 rfl dX5_step_53 (fun H locs hw => ?_)
  obtain ⟨σ_3, e_4, hf⟩ := sn_ltE hf
  rw [← e_4] at hw
  refine lv_aload_n hx hb dX5_step_56 rfl (lv_at hl 0 rfl) ?_
  refine lv_aload_n hx hb dX5_step_57 rfl (lv_at hl 0 rfl) ?_
  refine sn_getI C hw fd_RX5_131 layC_17 rfl dX5_step_58 ?_
  refine lv_iconst (v := 1) hx hb dX5_step_61 rfl ?_
  refine lv_iadd hx hb dX5_step_62 ?_
  refine lv_aload_n hx hb dX5_step_63 rfl (lv_at hl 0 rfl) ?_
  refine sn_getI C hw fd_RX5_19 layC_17 rfl dX5_step_64 ?_
  refine va_mmin hx hb (C.2.2.1.trans hl.1.symm) C.2.2.2.1 (C.2.2.2.2.1 _ km_RX5_134) (C.2.2.2.2.1 _ kst_minI) (C.2.2.2.2.1 _ ki_Math) (C.2.2.2.2.1 _ kc_minI) (Nat.le_of_ble_eq_true rfl) (Nat.le_of_ble_eq_true rfl) (Nat.zero_le _) (Nat.zero_le _) dX5_step_67 ?_
  obtain ⟨y_5, e_6, hf⟩ := sn_ltE hf
  refine lv_topi (fun y_5_ e_6_ => ?_)
  obtain rfl : y_5 = y_5_ := e_6.trans e_6_.symm
  refine sn_putI C hw fp_RX5_34 layC_17 rfl dX5_step_70 (fun H locs hw => ?_)
  obtain ⟨σ_7, e_8, hf⟩ := sn_ltE hf
  rw [← e_8] at hw
  obtain ⟨t_9, h_10, hf⟩ := sn_bd hf
  exact wX5_step_L73 C  h_10 (fun v e => by cases e; exact wX5_step_128 C  hf kr) _ _ _ hw (lv_sub hl [0] rfl)
theorem wX5_step_8 (C : sn_C p s m args meth c RX5 cX5_step 1 none D ct ad layC A) {σ : sn_S}  {o : (sn_S) ⊕ (sn_S)} (hf : BX5_step_8 σ = some o) (kc : ∀ v, o = .inl v → sn_At p l e rmX5_step s m args below meth c Q D ct ad layC A 1 v 8 [(0, .ref (ad 17))] []) (kx : ∀ v, o = .inr v → sn_At p l e rmX5_step s m args below meth c Q D ct ad layC A 1 v 44 [(0, .ref (ad 17))] []) : sn_At p l e rmX5_step s m args below meth c Q D ct ad layC A 1 σ 8 [(0, .ref (ad 17))] [] := by
  intro H locs ls hw hl
  have hx := C.1
  have hb := C.2.1
  unfold BX5_step_8 at hf
  refine lv_aload_n hx hb dX5_step_8 rfl (lv_at hl 0 rfl) ?_
  refine sn_getI C hw fd_RX5_131 layC_17 rfl dX5_step_9 ?_
  refine lv_aload_n hx hb dX5_step_12 rfl (lv_at hl 0 rfl) ?_
  refine sn_getI C hw fd_RX5_19 layC_17 rfl dX5_step_13 ?_
  refine lv_icmp_ge (tgt := 44) hx hb dX5_step_16 (by decide) (fun c_1 => ?_) (fun c_1 => ?_)
  · have hf := sn_if c_1 hf
    cases hf
    exact kx _ rfl _ _ _ hw (lv_sub hl [0] rfl)
  · have hf := sn_el c_1 hf
    refine lv_aload_n hx hb dX5_step_19 rfl (lv_at hl 0 rfl) ?_
    refine lv_aload_n hx hb dX5_step_20 rfl (lv_at hl 0 rfl) ?_
    refine sn_getI C hw fd_RX5_131 layC_17 rfl dX5_step_21 ?_
    obtain ⟨t_2, h_3, hf⟩ := sn_bd hf
    refine sn_callVi (rest := []) C hw (ctX5_kindAt l  h_3) kl_RX5_148 layC_17 rfl rfl rfl rfl (Nat.le_of_ble_eq_true rfl) dX5_step_24 hl.1 (fun H locs hw => ?_)
    refine lv_iconst (v := 4) hx hb dX5_step_27 rfl ?_
    refine lv_icmp_ne (tgt := 44) hx hb dX5_step_28 (by decide) (fun c_4 => ?_) (fun c_4 => ?_)
    · have hf := sn_el c_4 hf
      cases hf
      exact kx _ rfl _ _ _ hw (lv_sub hl [0] rfl)
    · have hf := sn_if c_4 hf
      refine lv_aload_n hx hb dX5_step_31 rfl (lv_at hl 0 rfl) ?_
      refine lv_dup hx hb dX5_step_32 rfl ?_
      refine sn_getI C hw fd_RX5_131 layC_17 rfl dX5_step_33 ?_
      refine lv_iconst (v := 1) hx hb dX5_step_36 rfl ?_
      refine lv_iadd hx hb dX5_step_37 ?_
      refine sn_putI C hw fp_RX5_131 layC_17 rfl dX5_step_38 (fun H locs hw => ?_)
      obtain ⟨σ_5, e_6, hf⟩ := sn_ltE hf
      rw [← e_6] at hw
      refine lv_goto (tgt := 8) hx hb dX5_step_41 (by decide) ?_
      cases hf
      exact kc _ rfl _ _ _ hw (lv_sub hl [0] rfl)
theorem wX5_step_L8 (C : sn_C p s m args meth c RX5 cX5_step 1 none D ct ad layC A)    {z : sn_S} {t : sn_S} (h : sn_it (LX5_step_8 ) 5000 z = some t) (kx : ∀ v, t = v → sn_At p l e rmX5_step s m args below meth c Q D ct ad layC A 1 v 44 [(0, .ref (ad 17))] []) : sn_At p l e rmX5_step s m args below meth c Q D ct ad layC A 1 z 8 [(0, .ref (ad 17))] [] :=
  sn_loop (f := LX5_step_8 ) (G := fun z => sn_At p l e rmX5_step s m args below meth c Q D ct ad layC A 1 z 8 [(0, .ref (ad 17))] []) (E := fun t => (∀ v, t = v → sn_At p l e rmX5_step s m args below meth c Q D ct ad layC A 1 v 44 [(0, .ref (ad 17))] []) ∧ True) (fun z o hf k1 k2 => wX5_step_8 C  hf (fun v e => k1 v e) (fun v e => (k2 _ e).1 v rfl)) 5000 z t h ⟨kx, trivial⟩
theorem wX5_step_in (C : sn_C p s m args meth c RX5 cX5_step 1 none D ct ad layC A) {σ : sn_S}  {o : sn_S} (hf : fX5_step σ = some o) (kr : sn_Kr p l e rmX5_step s m args below meth c Q D ct ad layC A cX5_step .return_ (true) o []) : sn_At p l e rmX5_step s m args below meth c Q D ct ad layC A 1 σ 0 [(0, .ref (ad 17))] [] := by
  intro H locs ls hw hl
  have hx := C.1
  have hb := C.2.1
  unfold fX5_step at hf
  refine lv_aload_n hx hb dX5_step_0 rfl (lv_at hl 0 rfl) ?_
  refine lv_aload_n hx hb dX5_step_1 rfl (lv_at hl 0 rfl) ?_
  refine sn_getI C hw fd_RX5_34 layC_17 rfl dX5_step_2 ?_
  refine sn_putI C hw fp_RX5_131 layC_17 rfl dX5_step_5 (fun H locs hw => ?_)
  obtain ⟨σ_1, e_2, hf⟩ := sn_ltE hf
  rw [← e_2] at hw
  obtain ⟨t_3, h_4, hf⟩ := sn_bd hf
  exact wX5_step_L8 C  h_4 (fun v e => by cases e; exact wX5_step_44 C  hf kr) _ _ _ hw (lv_sub hl [0] rfl)
theorem ctX5_step (l : Launch) {σ : sn_S}  {o : sn_S} (hf : fX5_step σ = some o) : sn_M l yX5_step cX5_step 1 none rmX5_step layC (fun ad => [.ref (ad 17)]) σ none o :=
  sn_met (by decide) (fun _ => Nat.le_of_ble_eq_true rfl) (fun p e s m args below meth c ls D ct ad A C hw hl => wX5_step_in C  hf (fun H locs ls pc hw ok hd => sn_vret C hw hd) _ _ _ hw hl)
end
end
section
section
variable {p : Program} {l : Launch} {e : Env} {s : State} {m : MethodId} {args : Array Value} {below : List Frame} {meth : Method} {c : Code} {Q : State → Prop} {D : va_G} {ct : Nat → ClassId} {ad : Nat → Nat} {A : Nat → Prop} {lay : List sn_E}
-- X5_isWord
abbrev rmX5_isWord : Room := { frames := 4, cells := 0, slots := 0, locals := 85 }
def BX5_isWord_66 (σ : sn_S) (k1 : Nat) : Option (Int32) :=
  (sn_gd (sn_b01 (1 : Int32)) (some (1 : Int32)))
def BX5_isWord_31 (σ : sn_S) (k1 : Nat) (x2 : Int32) : Option ((Int32) ⊕ ((Unit) ⊕ Int32)) :=
  (if (sn_I σ 17 5) ≤ x2 then
  (some (.inr (.inl ())))
  else
  (sn_gd (sn_in x2 900) ((sn_sat k1 (x2 - (sn_I σ 17 4))).bind fun t_3 => (if (sn_I σ 18 x2.toNatClampNeg) = t_3 then
  (sn_lt (x2 + 1) fun y_6 => (some (.inl (y_6))))
  else
  (sn_gd (sn_b01 (0 : Int32)) (some (.inr (.inr (0 : Int32)))))))))
def LX5_isWord_31 (σ : sn_S) (k1 : Nat) (s : Int32) : Option ((Int32) ⊕ ((Unit) ⊕ Int32)) := BX5_isWord_31 σ k1 s
def fX5_isWord (σ : sn_S) (k1 : Nat) : Option Int32 :=
  (if (sn_I σ 17 6) = (1 : Int32) then
  ((sn_slen k1).bind fun t_3 => (if ((sn_I σ 17 5) - (sn_I σ 17 4)) = t_3 then
  (sn_lt (sn_I σ 17 4) fun y_6 => ((sn_it (LX5_isWord_31 σ k1) 5000 (y_6)).bind fun t_8 => Sum.elim (fun v_10 => (BX5_isWord_66 σ k1)) (fun r_11 => (some r_11)) t_8))
  else
  (sn_gd (sn_b01 (0 : Int32)) (some (0 : Int32)))))
  else
  (sn_gd (sn_b01 (0 : Int32)) (some (0 : Int32))))
theorem wX5_isWord_66 (C : sn_C p s m args meth c RX5 cX5_isWord 3 (some .boolean) D ct ad layC A) {σ : sn_S} {k1 : Nat}  {o : Int32} (hf : BX5_isWord_66 σ k1 = some o) (kr : sn_Kr p l e rmX5_isWord s m args below meth c Q D ct ad layC A cX5_isWord .ireturn (sn_b01 o) σ [.int o]) : sn_At p l e rmX5_isWord s m args below meth c Q D ct ad layC A 3 σ 66 [] [] := by
  intro H locs ls hw hl
  have hx := C.1
  have hb := C.2.1
  unfold BX5_isWord_66 at hf
  refine lv_iconst (v := 1) hx hb dX5_isWord_66 rfl ?_
  obtain ⟨g_1, hf⟩ := sn_gdE hf
  cases hf
  exact kr _ _ _ _ hw g_1 dX5_isWord_67
theorem wX5_isWord_31 (C : sn_C p s m args meth c RX5 cX5_isWord 3 (some .boolean) D ct ad layC A) {σ : sn_S} {k1 : Nat} {x2 : Int32}  {o : (Int32) ⊕ ((Unit) ⊕ Int32)} (hf : BX5_isWord_31 σ k1 x2 = some o) (kc : ∀ v, o = .inl v → sn_At p l e rmX5_isWord s m args below meth c Q D ct ad layC A 3 σ 31 [(0, .ref (ad 17)), (1, .ref (ad (1000 + k1))), (2, .int v)] []) (kx : ∀ v, o = .inr (.inl v) → sn_At p l e rmX5_isWord s m args below meth c Q D ct ad layC A 3 σ 66 [] []) (kr : ∀ r, o = .inr (.inr r) → sn_Kr p l e rmX5_isWord s m args below meth c Q D ct ad layC A cX5_isWord .ireturn (sn_b01 r) σ [.int r]) : sn_At p l e rmX5_isWord s m args below meth c Q D ct ad layC A 3 σ 31 [(0, .ref (ad 17)), (1, .ref (ad (1000 + k1))), (2, .int x2)] [] := by
  intro H locs ls hw hl
  have hx := C.1
  have hb := C.2.1
  unfold BX5_isWord_31 at hf
  refine lv_iload_n hx hb dX5_isWord_31 rfl (lv_at hl 2 rfl) ?_
  refine lv_aload_n hx hb dX5_isWord_32 rfl (lv_at hl 0 rfl) ?_
  refine sn_getI C hw fd_RX5_34 layC_17 rfl dX5_isWord_33 ?_
  refine lv_icmp_ge (tgt := 66) hx hb dX5_isWord_36 (by decide) (fun c_1 => ?_) (fun c_1 => ?_)
  · have hf := sn_if c_1 hf
    cases hf
    exact kx _ rfl _ _ _ hw (lv_sub hl [] rfl)
  · have hf := sn_el c_1 hf
    refine lv_aload_n hx hb dX5_isWord_39 rfl (lv_at hl 0 rfl) ?_
    refine sn_getC (r := 18) C hw fd_RX5_9 layC_17 rfl dX5_isWord_40 ?_
    refine lv_iload_n hx hb dX5_isWord_43 rfl (lv_at hl 2 rfl) ?_
    obtain ⟨g_2, hf⟩ := sn_gdE hf
    refine sn_iald C hw layC_18 g_2 dX5_isWord_44 ?_
    refine lv_aload_n hx hb dX5_isWord_45 rfl (lv_at hl 1 rfl) ?_
    refine lv_iload_n hx hb dX5_isWord_46 rfl (lv_at hl 2 rfl) ?_
    refine lv_aload_n hx hb dX5_isWord_47 rfl (lv_at hl 0 rfl) ?_
    refine sn_getI C hw fd_RX5_131 layC_17 rfl dX5_isWord_48 ?_
    refine lv_isub hx hb dX5_isWord_51 ?_
    obtain ⟨t_3, h_4, hf⟩ := sn_bd hf
    refine sn_strat (rest := [.int (sn_I σ 18 x2.toNatClampNeg)]) C hw h_4 kl_RX5_144 rfl (Nat.le_of_ble_eq_true rfl) dX5_isWord_52 hl.1 (fun H locs hw => ?_)
    refine lv_icmp_eq (tgt := 60) hx hb dX5_isWord_55 (by decide) (fun c_5 => ?_) (fun c_5 => ?_)
    · have hf := sn_if c_5 hf
      obtain ⟨y_6, e_7, hf⟩ := sn_ltE hf
      refine lv_iinc (v := y_6) (lv' := [(2, .int y_6), (0, .ref (ad 17)), (1, .ref (ad (1000 + k1)))]) hx hb dX5_isWord_60 hl (k := 2) rfl (by rw [e_7]; rfl) (by decide) rfl (fun ls hl => ?_)
      refine lv_goto (tgt := 31) hx hb dX5_isWord_63 (by decide) ?_
      cases hf
      exact kc _ rfl _ _ _ hw (lv_sub hl [1, 2, 0] rfl)
    · have hf := sn_el c_5 hf
      refine lv_iconst (v := 0) hx hb dX5_isWord_58 rfl ?_
      obtain ⟨g_8, hf⟩ := sn_gdE hf
      cases hf
      exact kr _ rfl _ _ _ _ hw g_8 dX5_isWord_59
theorem wX5_isWord_L31 (C : sn_C p s m args meth c RX5 cX5_isWord 3 (some .boolean) D ct ad layC A) {σ : sn_S} {k1 : Nat}   {z : Int32} {t : (Unit) ⊕ Int32} (h : sn_it (LX5_isWord_31 σ k1) 5000 z = some t) (kx : ∀ v, t = .inl v → sn_At p l e rmX5_isWord s m args below meth c Q D ct ad layC A 3 σ 66 [] []) (kr : ∀ r, t = .inr r → sn_Kr p l e rmX5_isWord s m args below meth c Q D ct ad layC A cX5_isWord .ireturn (sn_b01 r) σ [.int r]) : sn_At p l e rmX5_isWord s m args below meth c Q D ct ad layC A 3 σ 31 [(0, .ref (ad 17)), (1, .ref (ad (1000 + k1))), (2, .int z)] [] :=
  sn_loop (f := LX5_isWord_31 σ k1) (G := fun z => sn_At p l e rmX5_isWord s m args below meth c Q D ct ad layC A 3 σ 31 [(0, .ref (ad 17)), (1, .ref (ad (1000 + k1))), (2, .int z)] []) (E := fun t => (∀ v, t = .inl v → sn_At p l e rmX5_isWord s m args below meth c Q D ct ad layC A 3 σ 66 [] []) ∧ (∀ r, t = .inr r → sn_Kr p l e rmX5_isWord s m args below meth c Q D ct ad layC A cX5_isWord .ireturn (sn_b01 r) σ [.int r])) (fun z o hf k1 k2 => wX5_isWord_31 C  hf (fun v e => k1 v e) (fun v e => (k2 _ e).1 v rfl) (fun r e => (k2 _ e).2 r rfl)) 5000 z t h ⟨kx, kr⟩
theorem wX5_isWord_in (C : sn_C p s m args meth c RX5 cX5_isWord 3 (some .boolean) D ct ad layC A) {σ : sn_S} {k1 : Nat}  {o : Int32} (hf : fX5_isWord σ k1 = some o) (kr : sn_Kr p l e rmX5_isWord s m args below meth c Q D ct ad layC A cX5_isWord .ireturn (sn_b01 o) σ [.int o]) : sn_At p l e rmX5_isWord s m args below meth c Q D ct ad layC A 3 σ 0 [(0, .ref (ad 17)), (1, .ref (ad (1000 + k1)))] [] := by
  intro H locs ls hw hl
  have hx := C.1
  have hb := C.2.1
  unfold fX5_isWord at hf
  refine lv_aload_n hx hb dX5_isWord_0 rfl (lv_at hl 0 rfl) ?_
  refine sn_getI C hw fd_RX5_40 layC_17 rfl dX5_isWord_1 ?_
  refine lv_iconst (v := 1) hx hb dX5_isWord_4 rfl ?_
  refine lv_icmp_ne (tgt := 24) hx hb dX5_isWord_5 (by decide) (fun c_1 => ?_) (fun c_1 => ?_)
  · have hf := sn_el c_1 hf
    refine lv_iconst (v := 0) hx hb dX5_isWord_24 rfl ?_
    obtain ⟨g_2, hf⟩ := sn_gdE hf
    cases hf
    exact kr _ _ _ _ hw g_2 dX5_isWord_25
  · have hf := sn_if c_1 hf
    refine lv_aload_n hx hb dX5_isWord_8 rfl (lv_at hl 0 rfl) ?_
    refine sn_getI C hw fd_RX5_34 layC_17 rfl dX5_isWord_9 ?_
    refine lv_aload_n hx hb dX5_isWord_12 rfl (lv_at hl 0 rfl) ?_
    refine sn_getI C hw fd_RX5_131 layC_17 rfl dX5_isWord_13 ?_
    refine lv_isub hx hb dX5_isWord_16 ?_
    refine lv_aload_n hx hb dX5_isWord_17 rfl (lv_at hl 1 rfl) ?_
    obtain ⟨t_3, h_4, hf⟩ := sn_bd hf
    refine sn_strlen (rest := [.int ((sn_I σ 17 5) - (sn_I σ 17 4))]) C hw h_4 kl_RX5_140 rfl (Nat.le_of_ble_eq_true rfl) dX5_isWord_18 hl.1 (fun H locs hw => ?_)
    refine lv_icmp_eq (tgt := 26) hx hb dX5_isWord_21 (by decide) (fun c_5 => ?_) (fun c_5 => ?_)
    · have hf := sn_if c_5 hf
      refine lv_aload_n hx hb dX5_isWord_26 rfl (lv_at hl 0 rfl) ?_
      refine sn_getI C hw fd_RX5_131 layC_17 rfl dX5_isWord_27 ?_
      obtain ⟨y_6, e_7, hf⟩ := sn_ltE hf
      refine lv_topi (fun y_6_ e_7_ => ?_)
      obtain rfl : y_6 = y_6_ := e_7.trans e_7_.symm
      refine lv_istore_n (lv' := [(2, .int y_6), (0, .ref (ad 17)), (1, .ref (ad (1000 + k1)))]) hx hb dX5_isWord_30 rfl hl (by decide) rfl (fun ls hl => ?_)
      obtain ⟨t_8, h_9, hf⟩ := sn_bd hf
      rcases t_8 with v_10 | r_11
      · rw [Sum.elim_inl] at hf
        exact wX5_isWord_L31 C  h_9 (fun v e => by cases e; exact wX5_isWord_66 C  hf kr) (fun r e => by cases e) _ _ _ hw (lv_sub hl [1, 2, 0] rfl)
      · rw [Sum.elim_inr] at hf
        cases hf
        exact wX5_isWord_L31 C  h_9 (fun v e => by cases e) (fun r e => by cases e; exact kr) _ _ _ hw (lv_sub hl [1, 2, 0] rfl)
    · have hf := sn_el c_5 hf
      refine lv_iconst (v := 0) hx hb dX5_isWord_24 rfl ?_
      obtain ⟨g_12, hf⟩ := sn_gdE hf
      cases hf
      exact kr _ _ _ _ hw g_12 dX5_isWord_25
theorem ctX5_isWord (l : Launch) {σ : sn_S} {k1 : Nat}  {o : Int32} (hf : fX5_isWord σ k1 = some o) : sn_M l yX5_isWord cX5_isWord 3 (some .boolean) rmX5_isWord layC (fun ad => [.ref (ad 17), .ref (ad (1000 + k1))]) σ (some (fun _ => .int o)) σ :=
  sn_met (by decide) (fun _ => Nat.le_of_ble_eq_true rfl) (fun p e s m args below meth c ls D ct ad A C hw hl => wX5_isWord_in C  hf (fun H locs ls pc hw ok hd => sn_zret C hw ok hd) _ _ _ hw hl)
-- X5_blame
abbrev rmX5_blame : Room := { frames := 0, cells := 0, slots := 0, locals := 0 }
def fX5_blame (σ : sn_S) (x1 : Int32) : Option sn_S :=
  (if (sn_I σ 17 2) = 0 then
  (sn_lt (sn_pI σ 17 2 x1) fun σ_2 => (sn_lt (sn_pI σ_2 17 3 (sn_I σ_2 17 4)) fun σ_4 => (some σ_4)))
  else
  (some σ))
theorem wX5_blame_in (C : sn_C p s m args meth c RX5 cX5_blame 2 none D ct ad layC A) {σ : sn_S} {x1 : Int32}  {o : sn_S} (hf : fX5_blame σ x1 = some o) (kr : sn_Kr p l e rmX5_blame s m args below meth c Q D ct ad layC A cX5_blame .return_ (true) o []) : sn_At p l e rmX5_blame s m args below meth c Q D ct ad layC A 2 σ 0 [(0, .ref (ad 17)), (1, .int x1)] [] := by
  intro H locs ls hw hl
  have hx := C.1
  have hb := C.2.1
  unfold fX5_blame at hf
  refine lv_aload_n hx hb dX5_blame_0 rfl (lv_at hl 0 rfl) ?_
  refine sn_getI C hw fd_RX5_31 layC_17 rfl dX5_blame_1 ?_
  refine lv_if_ne (tgt := 20) hx hb dX5_blame_4 (by decide) (fun c_1 => ?_) (fun c_1 => ?_)
  · have hf := sn_el c_1 hf
    cases hf
    exact kr _ _ _ _ hw rfl dX5_blame_20
  · have hf := sn_if c_1 hf
    refine lv_aload_n hx hb dX5_blame_7 rfl (lv_at hl 0 rfl) ?_
    refine lv_iload_n hx hb dX5_blame_8 rfl (lv_at hl 1 rfl) ?_
    refine sn_putI C hw fp_RX5_31 layC_17 rfl dX5_blame_9 (fun H locs hw => ?_)
    obtain ⟨σ_2, e_3, hf⟩ := sn_ltE hf
    rw [← e_3] at hw
    refine lv_aload_n hx hb dX5_blame_12 rfl (lv_at hl 0 rfl) ?_
    refine lv_aload_n hx hb dX5_blame_13 rfl (lv_at hl 0 rfl) ?_
    refine sn_getI C hw fd_RX5_131 layC_17 rfl dX5_blame_14 ?_
    refine sn_putI C hw fp_RX5_15 layC_17 rfl dX5_blame_17 (fun H locs hw => ?_)
    obtain ⟨σ_4, e_5, hf⟩ := sn_ltE hf
    rw [← e_5] at hw
    cases hf
    exact kr _ _ _ _ hw rfl dX5_blame_20
theorem ctX5_blame (l : Launch) {σ : sn_S} {x1 : Int32}  {o : sn_S} (hf : fX5_blame σ x1 = some o) : sn_M l yX5_blame cX5_blame 2 none rmX5_blame layC (fun ad => [.ref (ad 17), .int x1]) σ none o :=
  sn_met (by decide) (fun _ => Nat.le_of_ble_eq_true rfl) (fun p e s m args below meth c ls D ct ad A C hw hl => wX5_blame_in C  hf (fun H locs ls pc hw ok hd => sn_vret C hw hd) _ _ _ hw hl)
-- X5_word
abbrev rmX5_word : Room := { frames := 5, cells := 0, slots := 0, locals := 107 }
def fX5_word (σ : sn_S) (k1 : Nat) : Option sn_S :=
  ((fX5_isWord σ k1).bind fun t_1 => (if t_1 = 0 then
  ((fX5_blame σ (1 : Int32)).bind fun t_4 => (some t_4))
  else
  ((fX5_step σ).bind fun t_6 => (some t_6))))
theorem wX5_word_in (C : sn_C p s m args meth c RX5 cX5_word 2 none D ct ad layC A) {σ : sn_S} {k1 : Nat}  {o : sn_S} (hf : fX5_word σ k1 = some o) (kr : sn_Kr p l e rmX5_word s m args below meth c Q D ct ad layC A cX5_word .return_ (true) o []) : sn_At p l e rmX5_word s m args below meth c Q D ct ad layC A 2 σ 0 [(0, .ref (ad 17)), (1, .ref (ad (1000 + k1)))] [] := by
  intro H locs ls hw hl
  have hx := C.1
  have hb := C.2.1
  unfold fX5_word at hf
  refine lv_aload_n hx hb dX5_word_0 rfl (lv_at hl 0 rfl) ?_
  refine lv_aload_n hx hb dX5_word_1 rfl (lv_at hl 1 rfl) ?_
  obtain ⟨t_1, h_2, hf⟩ := sn_bd hf
  refine sn_callVi (rest := []) C hw (ctX5_isWord l  h_2) kl_RX5_77 layC_17 rfl rfl rfl rfl (Nat.le_of_ble_eq_true rfl) dX5_word_2 hl.1 (fun H locs hw => ?_)
  refine lv_if_eq (tgt := 15) hx hb dX5_word_5 (by decide) (fun c_3 => ?_) (fun c_3 => ?_)
  · have hf := sn_if c_3 hf
    refine lv_aload_n hx hb dX5_word_15 rfl (lv_at hl 0 rfl) ?_
    refine lv_iconst (v := 1) hx hb dX5_word_16 rfl ?_
    obtain ⟨t_4, h_5, hf⟩ := sn_bd hf
    refine sn_callVv (rest := []) C hw (ctX5_blame l  h_5) kl_RX5_100 layC_17 rfl rfl rfl rfl (Nat.le_of_ble_eq_true rfl) dX5_word_17 hl.1 (fun H locs hw => ?_)
    cases hf
    exact kr _ _ _ _ hw rfl dX5_word_20
  · have hf := sn_el c_3 hf
    refine lv_aload_n hx hb dX5_word_8 rfl (lv_at hl 0 rfl) ?_
    obtain ⟨t_6, h_7, hf⟩ := sn_bd hf
    refine sn_callVv (rest := []) C hw (ctX5_step l  h_7) kl_RX5_37 layC_17 rfl rfl rfl rfl (Nat.le_of_ble_eq_true rfl) dX5_word_9 hl.1 (fun H locs hw => ?_)
    refine lv_goto (tgt := 20) hx hb dX5_word_12 (by decide) ?_
    cases hf
    exact kr _ _ _ _ hw rfl dX5_word_20
theorem ctX5_word (l : Launch) {σ : sn_S} {k1 : Nat}  {o : sn_S} (hf : fX5_word σ k1 = some o) : sn_M l yX5_word cX5_word 2 none rmX5_word layC (fun ad => [.ref (ad 17), .ref (ad (1000 + k1))]) σ none o :=
  sn_met (by decide) (fun _ => Nat.le_of_ble_eq_true rfl) (fun p e s m args below meth c ls D ct ad A C hw hl => wX5_word_in C  hf (fun H locs ls pc hw ok hd => sn_vret C hw hd) _ _ _ hw hl)
-- X5_value
abbrev rmX5_value : Room := { frames := 1, cells := 0, slots := 0, locals := 32 }
def BX5_value_41 (σ : sn_S) (x1 : Int32) : Option (Int32) :=
  (some x1)
def BX5_value_7 (σ : sn_S) (x1 : Int32) (x2 : Int32) : Option ((Int32 × Int32) ⊕ (Int32)) :=
  (if (sn_I σ 17 5) ≤ x2 then
  (some (.inr (x1)))
  else
  (sn_gd (sn_in x2 900) (sn_lt (if ((((10 : Int32) * x1) + (sn_I σ 18 x2.toNatClampNeg)) - (48 : Int32)) < (1000000 : Int32) then ((((10 : Int32) * x1) + (sn_I σ 18 x2.toNatClampNeg)) - (48 : Int32)) else (1000000 : Int32)) fun y_3 => (sn_lt (x2 + 1) fun y_5 => (some (.inl (y_3, y_5)))))))
def LX5_value_7 (σ : sn_S) (s : Int32 × Int32) : Option ((Int32 × Int32) ⊕ (Int32)) := BX5_value_7 σ s.1 s.2
def fX5_value (σ : sn_S) : Option Int32 :=
  (sn_lt (sn_I σ 17 4) fun y_1 => ((sn_it (LX5_value_7 σ) 5000 ((0 : Int32), y_1)).bind fun t_3 => (BX5_value_41 σ t_3)))
theorem wX5_value_41 (C : sn_C p s m args meth c RX5 cX5_value 3 (some .int) D ct ad layC A) {σ : sn_S} {x1 : Int32}  {o : Int32} (hf : BX5_value_41 σ x1 = some o) (kr : sn_Kr p l e rmX5_value s m args below meth c Q D ct ad layC A cX5_value .ireturn (true) σ [.int o]) : sn_At p l e rmX5_value s m args below meth c Q D ct ad layC A 3 σ 41 [(1, .int x1)] [] := by
  intro H locs ls hw hl
  have hx := C.1
  have hb := C.2.1
  unfold BX5_value_41 at hf
  refine lv_iload_n hx hb dX5_value_41 rfl (lv_at hl 0 rfl) ?_
  cases hf
  exact kr _ _ _ _ hw rfl dX5_value_42
theorem wX5_value_7 (C : sn_C p s m args meth c RX5 cX5_value 3 (some .int) D ct ad layC A) {σ : sn_S} {x1 : Int32} {x2 : Int32}  {o : (Int32 × Int32) ⊕ (Int32)} (hf : BX5_value_7 σ x1 x2 = some o) (kc : ∀ v, o = .inl v → sn_At p l e rmX5_value s m args below meth c Q D ct ad layC A 3 σ 7 [(0, .ref (ad 17)), (1, .int v.1), (2, .int v.2)] []) (kx : ∀ v, o = .inr v → sn_At p l e rmX5_value s m args below meth c Q D ct ad layC A 3 σ 41 [(1, .int v)] []) : sn_At p l e rmX5_value s m args below meth c Q D ct ad layC A 3 σ 7 [(0, .ref (ad 17)), (1, .int x1), (2, .int x2)] [] := by
  intro H locs ls hw hl
  have hx := C.1
  have hb := C.2.1
  unfold BX5_value_7 at hf
  refine lv_iload_n hx hb dX5_value_7 rfl (lv_at hl 2 rfl) ?_
  refine lv_aload_n hx hb dX5_value_8 rfl (lv_at hl 0 rfl) ?_
  refine sn_getI C hw fd_RX5_34 layC_17 rfl dX5_value_9 ?_
  refine lv_icmp_ge (tgt := 41) hx hb dX5_value_12 (by decide) (fun c_1 => ?_) (fun c_1 => ?_)
  · have hf := sn_if c_1 hf
    cases hf
    exact kx _ rfl _ _ _ hw (lv_sub hl [1] rfl)
  · have hf := sn_el c_1 hf
    refine lv_ldc hx hb C.2.2.2.1 (C.2.2.2.2.1 _ kk_RX5_133) dX5_value_15 ?_
    refine lv_bipush (v := 10) hx hb dX5_value_17 (by decide) ?_
    refine lv_iload_n hx hb dX5_value_19 rfl (lv_at hl 1 rfl) ?_
    refine lv_imul hx hb dX5_value_20 ?_
    refine lv_aload_n hx hb dX5_value_21 rfl (lv_at hl 0 rfl) ?_
    refine sn_getC (r := 18) C hw fd_RX5_9 layC_17 rfl dX5_value_22 ?_
    refine lv_iload_n hx hb dX5_value_25 rfl (lv_at hl 2 rfl) ?_
    obtain ⟨g_2, hf⟩ := sn_gdE hf
    refine sn_iald C hw layC_18 g_2 dX5_value_26 ?_
    refine lv_iadd hx hb dX5_value_27 ?_
    refine lv_bipush (v := 48) hx hb dX5_value_28 (by decide) ?_
    refine lv_isub hx hb dX5_value_30 ?_
    refine va_mmin hx hb (C.2.2.1.trans hl.1.symm) C.2.2.2.1 (C.2.2.2.2.1 _ km_RX5_134) (C.2.2.2.2.1 _ kst_minI) (C.2.2.2.2.1 _ ki_Math) (C.2.2.2.2.1 _ kc_minI) (Nat.le_of_ble_eq_true rfl) (Nat.le_of_ble_eq_true rfl) (Nat.zero_le _) (Nat.zero_le _) dX5_value_31 ?_
    obtain ⟨y_3, e_4, hf⟩ := sn_ltE hf
    refine lv_topi (fun y_3_ e_4_ => ?_)
    obtain rfl : y_3 = y_3_ := e_4.trans e_4_.symm
    refine lv_istore_n (lv' := [(1, .int y_3), (0, .ref (ad 17)), (2, .int x2)]) hx hb dX5_value_34 rfl hl (by decide) rfl (fun ls hl => ?_)
    obtain ⟨y_5, e_6, hf⟩ := sn_ltE hf
    refine lv_iinc (v := y_5) (lv' := [(2, .int y_5), (1, .int y_3), (0, .ref (ad 17))]) hx hb dX5_value_35 hl (k := 2) rfl (by rw [e_6]; rfl) (by decide) rfl (fun ls hl => ?_)
    refine lv_goto (tgt := 7) hx hb dX5_value_38 (by decide) ?_
    cases hf
    exact kc _ rfl _ _ _ hw (lv_sub hl [2, 1, 0] rfl)
theorem wX5_value_L7 (C : sn_C p s m args meth c RX5 cX5_value 3 (some .int) D ct ad layC A) {σ : sn_S}   {z : Int32 × Int32} {t : Int32} (h : sn_it (LX5_value_7 σ) 5000 z = some t) (kx : ∀ v, t = v → sn_At p l e rmX5_value s m args below meth c Q D ct ad layC A 3 σ 41 [(1, .int v)] []) : sn_At p l e rmX5_value s m args below meth c Q D ct ad layC A 3 σ 7 [(0, .ref (ad 17)), (1, .int z.1), (2, .int z.2)] [] :=
  sn_loop (f := LX5_value_7 σ) (G := fun z => sn_At p l e rmX5_value s m args below meth c Q D ct ad layC A 3 σ 7 [(0, .ref (ad 17)), (1, .int z.1), (2, .int z.2)] []) (E := fun t => (∀ v, t = v → sn_At p l e rmX5_value s m args below meth c Q D ct ad layC A 3 σ 41 [(1, .int v)] []) ∧ True) (fun z o hf k1 k2 => wX5_value_7 C  hf (fun v e => k1 v e) (fun v e => (k2 _ e).1 v rfl)) 5000 z t h ⟨kx, trivial⟩
theorem wX5_value_in (C : sn_C p s m args meth c RX5 cX5_value 3 (some .int) D ct ad layC A) {σ : sn_S}  {o : Int32} (hf : fX5_value σ = some o) (kr : sn_Kr p l e rmX5_value s m args below meth c Q D ct ad layC A cX5_value .ireturn (true) σ [.int o]) : sn_At p l e rmX5_value s m args below meth c Q D ct ad layC A 3 σ 0 [(0, .ref (ad 17))] [] := by
  intro H locs ls hw hl
  have hx := C.1
  have hb := C.2.1
  unfold fX5_value at hf
  refine lv_iconst (v := 0) hx hb dX5_value_0 rfl ?_
  refine lv_istore_n (lv' := [(1, .int (0 : Int32)), (0, .ref (ad 17))]) hx hb dX5_value_1 rfl hl (by decide) rfl (fun ls hl => ?_)
  refine lv_aload_n hx hb dX5_value_2 rfl (lv_at hl 1 rfl) ?_
  refine sn_getI C hw fd_RX5_131 layC_17 rfl dX5_value_3 ?_
  obtain ⟨y_1, e_2, hf⟩ := sn_ltE hf
  refine lv_topi (fun y_1_ e_2_ => ?_)
  obtain rfl : y_1 = y_1_ := e_2.trans e_2_.symm
  refine lv_istore_n (lv' := [(2, .int y_1), (1, .int (0 : Int32)), (0, .ref (ad 17))]) hx hb dX5_value_6 rfl hl (by decide) rfl (fun ls hl => ?_)
  obtain ⟨t_3, h_4, hf⟩ := sn_bd hf
  exact wX5_value_L7 C  h_4 (fun v e => by cases e; exact wX5_value_41 C  hf kr) _ _ _ hw (lv_sub hl [2, 1, 0] rfl)
theorem ctX5_value (l : Launch) {σ : sn_S}  {o : Int32} (hf : fX5_value σ = some o) : sn_M l yX5_value cX5_value 3 (some .int) rmX5_value layC (fun ad => [.ref (ad 17)]) σ (some (fun _ => .int o)) σ :=
  sn_met (by decide) (fun _ => Nat.le_of_ble_eq_true rfl) (fun p e s m args below meth c ls D ct ad A C hw hl => wX5_value_in C  hf (fun H locs ls pc hw ok hd => sn_iret C hw hd) _ _ _ hw hl)
-- X5_number
abbrev rmX5_number : Room := { frames := 2, cells := 0, slots := 0, locals := 54 }
def BX5_number_44 (σ : sn_S) (x4 : Int32) : Option ((Int32 × sn_S)) :=
  ((fX5_step σ).bind fun t_1 => (some (x4, t_1)))
def BX5_number_39 (σ : sn_S) (x4 : Int32) : Option ((Int32 × sn_S)) :=
  ((fX5_blame σ (2 : Int32)).bind fun t_1 => (BX5_number_44 t_1 x4))
def fX5_number (σ : sn_S) (x1 : Int32) (x2 : Int32) (x3 : Int32) : Option (Int32 × sn_S) :=
  (if (sn_I σ 17 6) = (2 : Int32) then
  ((fX5_value σ).bind fun t_2 => (if t_2 < x1 then
  (BX5_number_39 σ t_2)
  else
  (if x2 < t_2 then
  (BX5_number_39 σ t_2)
  else
  (if t_2 = x3 then
  (BX5_number_39 σ t_2)
  else
  (BX5_number_44 σ t_2)))))
  else
  ((fX5_blame σ (1 : Int32)).bind fun t_7 => (some ((0 : Int32), t_7))))
theorem wX5_number_44 (C : sn_C p s m args meth c RX5 cX5_number 5 (some .int) D ct ad layC A) {σ : sn_S} {x4 : Int32}  {o : (Int32 × sn_S)} (hf : BX5_number_44 σ x4 = some o) (kr : sn_Kr p l e rmX5_number s m args below meth c Q D ct ad layC A cX5_number .ireturn (true) o.2 [.int o.1]) : sn_At p l e rmX5_number s m args below meth c Q D ct ad layC A 5 σ 44 [(0, .ref (ad 17)), (4, .int x4)] [] := by
  intro H locs ls hw hl
  have hx := C.1
  have hb := C.2.1
  unfold BX5_number_44 at hf
  refine lv_aload_n hx hb dX5_number_44 rfl (lv_at hl 0 rfl) ?_
  obtain ⟨t_1, h_2, hf⟩ := sn_bd hf
  refine sn_callVv (rest := []) C hw (ctX5_step l  h_2) kl_RX5_37 layC_17 rfl rfl rfl rfl (Nat.le_of_ble_eq_true rfl) dX5_number_45 hl.1 (fun H locs hw => ?_)
  refine lv_iload hx hb dX5_number_48 (lv_at hl 1 rfl) ?_
  cases hf
  exact kr _ _ _ _ hw rfl dX5_number_50
theorem wX5_number_39 (C : sn_C p s m args meth c RX5 cX5_number 5 (some .int) D ct ad layC A) {σ : sn_S} {x4 : Int32}  {o : (Int32 × sn_S)} (hf : BX5_number_39 σ x4 = some o) (kr : sn_Kr p l e rmX5_number s m args below meth c Q D ct ad layC A cX5_number .ireturn (true) o.2 [.int o.1]) : sn_At p l e rmX5_number s m args below meth c Q D ct ad layC A 5 σ 39 [(0, .ref (ad 17)), (4, .int x4)] [] := by
  intro H locs ls hw hl
  have hx := C.1
  have hb := C.2.1
  unfold BX5_number_39 at hf
  refine lv_aload_n hx hb dX5_number_39 rfl (lv_at hl 0 rfl) ?_
  refine lv_iconst (v := 2) hx hb dX5_number_40 rfl ?_
  obtain ⟨t_1, h_2, hf⟩ := sn_bd hf
  refine sn_callVv (rest := []) C hw (ctX5_blame l  h_2) kl_RX5_100 layC_17 rfl rfl rfl rfl (Nat.le_of_ble_eq_true rfl) dX5_number_41 hl.1 (fun H locs hw => ?_)
  exact wX5_number_44 C  hf kr _ _ _ hw (lv_sub hl [0, 1] rfl)
theorem wX5_number_in (C : sn_C p s m args meth c RX5 cX5_number 5 (some .int) D ct ad layC A) {σ : sn_S} {x1 : Int32} {x2 : Int32} {x3 : Int32}  {o : (Int32 × sn_S)} (hf : fX5_number σ x1 x2 x3 = some o) (kr : sn_Kr p l e rmX5_number s m args below meth c Q D ct ad layC A cX5_number .ireturn (true) o.2 [.int o.1]) : sn_At p l e rmX5_number s m args below meth c Q D ct ad layC A 5 σ 0 [(0, .ref (ad 17)), (1, .int x1), (2, .int x2), (3, .int x3)] [] := by
  intro H locs ls hw hl
  have hx := C.1
  have hb := C.2.1
  unfold fX5_number at hf
  refine lv_aload_n hx hb dX5_number_0 rfl (lv_at hl 0 rfl) ?_
  refine sn_getI C hw fd_RX5_40 layC_17 rfl dX5_number_1 ?_
  refine lv_iconst (v := 2) hx hb dX5_number_4 rfl ?_
  refine lv_icmp_eq (tgt := 15) hx hb dX5_number_5 (by decide) (fun c_1 => ?_) (fun c_1 => ?_)
  · have hf := sn_if c_1 hf
    refine lv_aload_n hx hb dX5_number_15 rfl (lv_at hl 0 rfl) ?_
    obtain ⟨t_2, h_3, hf⟩ := sn_bd hf
    refine sn_callVi (rest := []) C hw (ctX5_value l  h_3) kl_RX5_127 layC_17 rfl rfl rfl rfl (Nat.le_of_ble_eq_true rfl) dX5_number_16 hl.1 (fun H locs hw => ?_)
    refine lv_istore (lv' := [(4, .int t_2), (0, .ref (ad 17)), (1, .int x1), (2, .int x2), (3, .int x3)]) hx hb dX5_number_19 hl (by decide) rfl (fun ls hl => ?_)
    refine lv_iload hx hb dX5_number_21 (lv_at hl 0 rfl) ?_
    refine lv_iload_n hx hb dX5_number_23 rfl (lv_at hl 2 rfl) ?_
    refine lv_icmp_lt (tgt := 39) hx hb dX5_number_24 (by decide) (fun c_4 => ?_) (fun c_4 => ?_)
    · have hf := sn_if c_4 hf
      exact wX5_number_39 C  hf kr _ _ _ hw (lv_sub hl [1, 0] rfl)
    · have hf := sn_el c_4 hf
      refine lv_iload hx hb dX5_number_27 (lv_at hl 0 rfl) ?_
      refine lv_iload_n hx hb dX5_number_29 rfl (lv_at hl 3 rfl) ?_
      refine lv_icmp_gt (tgt := 39) hx hb dX5_number_30 (by decide) (fun c_5 => ?_) (fun c_5 => ?_)
      · have hf := sn_if c_5 hf
        exact wX5_number_39 C  hf kr _ _ _ hw (lv_sub hl [1, 0] rfl)
      · have hf := sn_el c_5 hf
        refine lv_iload hx hb dX5_number_33 (lv_at hl 0 rfl) ?_
        refine lv_iload_n hx hb dX5_number_35 rfl (lv_at hl 4 rfl) ?_
        refine lv_icmp_ne (tgt := 44) hx hb dX5_number_36 (by decide) (fun c_6 => ?_) (fun c_6 => ?_)
        · have hf := sn_el c_6 hf
          exact wX5_number_44 C  hf kr _ _ _ hw (lv_sub hl [1, 0] rfl)
        · have hf := sn_if c_6 hf
          exact wX5_number_39 C  hf kr _ _ _ hw (lv_sub hl [1, 0] rfl)
  · have hf := sn_el c_1 hf
    refine lv_aload_n hx hb dX5_number_8 rfl (lv_at hl 0 rfl) ?_
    refine lv_iconst (v := 1) hx hb dX5_number_9 rfl ?_
    obtain ⟨t_7, h_8, hf⟩ := sn_bd hf
    refine sn_callVv (rest := []) C hw (ctX5_blame l  h_8) kl_RX5_100 layC_17 rfl rfl rfl rfl (Nat.le_of_ble_eq_true rfl) dX5_number_10 hl.1 (fun H locs hw => ?_)
    refine lv_iconst (v := 0) hx hb dX5_number_13 rfl ?_
    cases hf
    exact kr _ _ _ _ hw rfl dX5_number_14
theorem ctX5_number (l : Launch) {σ : sn_S} {x1 : Int32} {x2 : Int32} {x3 : Int32}  {o : (Int32 × sn_S)} (hf : fX5_number σ x1 x2 x3 = some o) : sn_M l yX5_number cX5_number 5 (some .int) rmX5_number layC (fun ad => [.ref (ad 17), .int x1, .int x2, .int x3]) σ (some (fun _ => .int o.1)) o.2 :=
  sn_met (by decide) (fun _ => Nat.le_of_ble_eq_true rfl) (fun p e s m args below meth c ls D ct ad A C hw hl => wX5_number_in C  hf (fun H locs ls pc hw ok hd => sn_iret C hw hd) _ _ _ hw hl)
-- X5_sign
abbrev rmX5_sign : Room := { frames := 2, cells := 0, slots := 0, locals := 52 }
def fX5_sign (σ : sn_S) : Option sn_S :=
  (if (sn_I σ 17 6) = (3 : Int32) then
  ((fX5_step σ).bind fun t_4 => (some t_4))
  else
  ((fX5_blame σ (1 : Int32)).bind fun t_2 => (some t_2)))
theorem wX5_sign_in (C : sn_C p s m args meth c RX5 cX5_sign 1 none D ct ad layC A) {σ : sn_S}  {o : sn_S} (hf : fX5_sign σ = some o) (kr : sn_Kr p l e rmX5_sign s m args below meth c Q D ct ad layC A cX5_sign .return_ (true) o []) : sn_At p l e rmX5_sign s m args below meth c Q D ct ad layC A 1 σ 0 [(0, .ref (ad 17))] [] := by
  intro H locs ls hw hl
  have hx := C.1
  have hb := C.2.1
  unfold fX5_sign at hf
  refine lv_aload_n hx hb dX5_sign_0 rfl (lv_at hl 0 rfl) ?_
  refine sn_getI C hw fd_RX5_40 layC_17 rfl dX5_sign_1 ?_
  refine lv_iconst (v := 3) hx hb dX5_sign_4 rfl ?_
  refine lv_icmp_ne (tgt := 15) hx hb dX5_sign_5 (by decide) (fun c_1 => ?_) (fun c_1 => ?_)
  · have hf := sn_el c_1 hf
    refine lv_aload_n hx hb dX5_sign_15 rfl (lv_at hl 0 rfl) ?_
    refine lv_iconst (v := 1) hx hb dX5_sign_16 rfl ?_
    obtain ⟨t_2, h_3, hf⟩ := sn_bd hf
    refine sn_callVv (rest := []) C hw (ctX5_blame l  h_3) kl_RX5_100 layC_17 rfl rfl rfl rfl (Nat.le_of_ble_eq_true rfl) dX5_sign_17 hl.1 (fun H locs hw => ?_)
    cases hf
    exact kr _ _ _ _ hw rfl dX5_sign_20
  · have hf := sn_if c_1 hf
    refine lv_aload_n hx hb dX5_sign_8 rfl (lv_at hl 0 rfl) ?_
    obtain ⟨t_4, h_5, hf⟩ := sn_bd hf
    refine sn_callVv (rest := []) C hw (ctX5_step l  h_5) kl_RX5_37 layC_17 rfl rfl rfl rfl (Nat.le_of_ble_eq_true rfl) dX5_sign_9 hl.1 (fun H locs hw => ?_)
    refine lv_goto (tgt := 20) hx hb dX5_sign_12 (by decide) ?_
    cases hf
    exact kr _ _ _ _ hw rfl dX5_sign_20
theorem ctX5_sign (l : Launch) {σ : sn_S}  {o : sn_S} (hf : fX5_sign σ = some o) : sn_M l yX5_sign cX5_sign 1 none rmX5_sign layC (fun ad => [.ref (ad 17)]) σ none o :=
  sn_met (by decide) (fun _ => Nat.le_of_ble_eq_true rfl) (fun p e s m args below meth c ls D ct ad A C hw hl => wX5_sign_in C  hf (fun H locs ls pc hw ok hd => sn_vret C hw hd) _ _ _ hw hl)
-- X5_readHouse
abbrev rmX5_readHouse : Room := { frames := 6, cells := 0, slots := 0, locals := 128 }
def fX5_readHouse (σ : sn_S) : Option sn_S :=
  ((fX5_word σ 0).bind fun t_1 => ((fX5_word t_1 1).bind fun t_3 => (sn_gd (sn_R t_3 17 7 == some 8) ((fX5_number t_3 (1 : Int32) (30 : Int32) (-1 : Int32)).bind fun t_6 => (sn_gd (sn_in (0 : Int32) 11) (sn_lt (sn_pI t_6.2 (8 + 1) (0 : Int32).toNatClampNeg t_6.1) fun σ_9 => ((fX5_word σ_9 2).bind fun t_11 => (sn_gd (sn_R t_11 17 7 == some 8) ((fX5_number t_11 (0 : Int32) (9 : Int32) (-1 : Int32)).bind fun t_14 => (sn_gd (sn_in (1 : Int32) 11) (sn_lt (sn_pI t_14.2 (8 + 1) (1 : Int32).toNatClampNeg t_14.1) fun σ_17 => ((fX5_word σ_17 3).bind fun t_19 => (sn_gd (sn_R t_19 17 7 == some 8) ((fX5_number t_19 (0 : Int32) (3 : Int32) (-1 : Int32)).bind fun t_22 => (sn_gd (sn_in (2 : Int32) 11) (sn_lt (sn_pI t_22.2 (8 + 1) (2 : Int32).toNatClampNeg t_22.1) fun σ_25 => ((fX5_word σ_25 4).bind fun t_27 => (sn_gd (sn_R t_27 17 7 == some 8) ((fX5_number t_27 (0 : Int32) (999 : Int32) (-1 : Int32)).bind fun t_30 => (sn_gd (sn_in (3 : Int32) 11) (sn_lt (sn_pI t_30.2 (8 + 1) (3 : Int32).toNatClampNeg t_30.1) fun σ_33 => ((fX5_word σ_33 5).bind fun t_35 => (sn_gd (sn_R t_35 17 7 == some 8) ((fX5_number t_35 (0 : Int32) (10 : Int32) (-1 : Int32)).bind fun t_38 => (sn_gd (sn_in (4 : Int32) 11) (sn_lt (sn_pI t_38.2 (8 + 1) (4 : Int32).toNatClampNeg t_38.1) fun σ_41 => ((fX5_sign σ_41).bind fun t_43 => (some t_43))))))))))))))))))))))))))))
theorem wX5_readHouse_in (C : sn_C p s m args meth c RX5 cX5_readHouse 1 none D ct ad layC A) {σ : sn_S}  {o : sn_S} (hf : fX5_readHouse σ = some o) (kr : sn_Kr p l e rmX5_readHouse s m args below meth c Q D ct ad layC A cX5_readHouse .return_ (true) o []) : sn_At p l e rmX5_readHouse s m args below meth c Q D ct ad layC A 1 σ 0 [(0, .ref (ad 17))] [] := by
  intro H locs ls hw hl
  have hx := C.1
  have hb := C.2.1
  unfold fX5_readHouse at hf
  refine lv_aload_n hx hb dX5_readHouse_0 rfl (lv_at hl 0 rfl) ?_
  refine va_ldcS (tx := "house") (q := ad (1000 + 0)) hx hb C.2.2.2.1 (sn_sr_0 C.2.2.2.2.2.2.2.2.2) dX5_readHouse_1 ?_
  obtain ⟨t_1, h_2, hf⟩ := sn_bd hf
  refine sn_callVv (rest := []) C hw (ctX5_word l  h_2) kl_RX5_54 layC_17 rfl rfl rfl rfl (Nat.le_of_ble_eq_true rfl) dX5_readHouse_3 hl.1 (fun H locs hw => ?_)
  refine lv_aload_n hx hb dX5_readHouse_6 rfl (lv_at hl 0 rfl) ?_
  refine va_ldcS (tx := "minutes") (q := ad (1000 + 1)) hx hb C.2.2.2.1 (sn_sr_1 C.2.2.2.2.2.2.2.2.2) dX5_readHouse_7 ?_
  obtain ⟨t_3, h_4, hf⟩ := sn_bd hf
  refine sn_callVv (rest := []) C hw (ctX5_word l  h_4) kl_RX5_54 layC_17 rfl rfl rfl rfl (Nat.le_of_ble_eq_true rfl) dX5_readHouse_9 hl.1 (fun H locs hw => ?_)
  refine lv_aload_n hx hb dX5_readHouse_12 rfl (lv_at hl 0 rfl) ?_
  obtain ⟨g_5, hf⟩ := sn_gdE hf
  refine sn_getR (r := 8) C hw fd_RX5_22 layC_17 rfl (by simpa using g_5) dX5_readHouse_13 ?_
  refine sn_getC (r := (8 + 1)) C hw fd_RX5_49 (sn_look sn_isX2_8 (k := 0) rfl) rfl dX5_readHouse_16 ?_
  refine lv_iconst (v := 0) hx hb dX5_readHouse_19 rfl ?_
  refine lv_aload_n hx hb dX5_readHouse_20 rfl (lv_at hl 0 rfl) ?_
  refine lv_iconst (v := 1) hx hb dX5_readHouse_21 rfl ?_
  refine lv_bipush (v := 30) hx hb dX5_readHouse_22 (by decide) ?_
  refine lv_iconst (v := (-1)) hx hb dX5_readHouse_24 rfl ?_
  obtain ⟨t_6, h_7, hf⟩ := sn_bd hf
  refine sn_callVi (rest := [.int (0 : Int32), .ref (ad (8 + 1))]) C hw (ctX5_number l  h_7) kl_RX5_60 layC_17 rfl rfl rfl rfl (Nat.le_of_ble_eq_true rfl) dX5_readHouse_25 hl.1 (fun H locs hw => ?_)
  obtain ⟨g_8, hf⟩ := sn_gdE hf
  refine sn_iast C hw (sn_look sn_isX2_8 (k := 1) rfl) g_8 dX5_readHouse_28 (fun H locs hw => ?_)
  obtain ⟨σ_9, e_10, hf⟩ := sn_ltE hf
  rw [← e_10] at hw
  refine lv_aload_n hx hb dX5_readHouse_29 rfl (lv_at hl 0 rfl) ?_
  refine va_ldcS (tx := "dust") (q := ad (1000 + 2)) hx hb C.2.2.2.1 (sn_sr_2 C.2.2.2.2.2.2.2.2.2) dX5_readHouse_30 ?_
  obtain ⟨t_11, h_12, hf⟩ := sn_bd hf
  refine sn_callVv (rest := []) C hw (ctX5_word l  h_12) kl_RX5_54 layC_17 rfl rfl rfl rfl (Nat.le_of_ble_eq_true rfl) dX5_readHouse_32 hl.1 (fun H locs hw => ?_)
  refine lv_aload_n hx hb dX5_readHouse_35 rfl (lv_at hl 0 rfl) ?_
  obtain ⟨g_13, hf⟩ := sn_gdE hf
  refine sn_getR (r := 8) C hw fd_RX5_22 layC_17 rfl (by simpa using g_13) dX5_readHouse_36 ?_
  refine sn_getC (r := (8 + 1)) C hw fd_RX5_49 (sn_look sn_isX2_8 (k := 0) rfl) rfl dX5_readHouse_39 ?_
  refine lv_iconst (v := 1) hx hb dX5_readHouse_42 rfl ?_
  refine lv_aload_n hx hb dX5_readHouse_43 rfl (lv_at hl 0 rfl) ?_
  refine lv_iconst (v := 0) hx hb dX5_readHouse_44 rfl ?_
  refine lv_bipush (v := 9) hx hb dX5_readHouse_45 (by decide) ?_
  refine lv_iconst (v := (-1)) hx hb dX5_readHouse_47 rfl ?_
  obtain ⟨t_14, h_15, hf⟩ := sn_bd hf
  refine sn_callVi (rest := [.int (1 : Int32), .ref (ad (8 + 1))]) C hw (ctX5_number l  h_15) kl_RX5_60 layC_17 rfl rfl rfl rfl (Nat.le_of_ble_eq_true rfl) dX5_readHouse_48 hl.1 (fun H locs hw => ?_)
  obtain ⟨g_16, hf⟩ := sn_gdE hf
  refine sn_iast C hw (sn_look sn_isX2_8 (k := 1) rfl) g_16 dX5_readHouse_51 (fun H locs hw => ?_)
  obtain ⟨σ_17, e_18, hf⟩ := sn_ltE hf
  rw [← e_18] at hw
  refine lv_aload_n hx hb dX5_readHouse_52 rfl (lv_at hl 0 rfl) ?_
  refine va_ldcS (tx := "law") (q := ad (1000 + 3)) hx hb C.2.2.2.1 (sn_sr_3 C.2.2.2.2.2.2.2.2.2) dX5_readHouse_53 ?_
  obtain ⟨t_19, h_20, hf⟩ := sn_bd hf
  refine sn_callVv (rest := []) C hw (ctX5_word l  h_20) kl_RX5_54 layC_17 rfl rfl rfl rfl (Nat.le_of_ble_eq_true rfl) dX5_readHouse_55 hl.1 (fun H locs hw => ?_)
  refine lv_aload_n hx hb dX5_readHouse_58 rfl (lv_at hl 0 rfl) ?_
  obtain ⟨g_21, hf⟩ := sn_gdE hf
  refine sn_getR (r := 8) C hw fd_RX5_22 layC_17 rfl (by simpa using g_21) dX5_readHouse_59 ?_
  refine sn_getC (r := (8 + 1)) C hw fd_RX5_49 (sn_look sn_isX2_8 (k := 0) rfl) rfl dX5_readHouse_62 ?_
  refine lv_iconst (v := 2) hx hb dX5_readHouse_65 rfl ?_
  refine lv_aload_n hx hb dX5_readHouse_66 rfl (lv_at hl 0 rfl) ?_
  refine lv_iconst (v := 0) hx hb dX5_readHouse_67 rfl ?_
  refine lv_iconst (v := 3) hx hb dX5_readHouse_68 rfl ?_
  refine lv_iconst (v := (-1)) hx hb dX5_readHouse_69 rfl ?_
  obtain ⟨t_22, h_23, hf⟩ := sn_bd hf
  refine sn_callVi (rest := [.int (2 : Int32), .ref (ad (8 + 1))]) C hw (ctX5_number l  h_23) kl_RX5_60 layC_17 rfl rfl rfl rfl (Nat.le_of_ble_eq_true rfl) dX5_readHouse_70 hl.1 (fun H locs hw => ?_)
  obtain ⟨g_24, hf⟩ := sn_gdE hf
  refine sn_iast C hw (sn_look sn_isX2_8 (k := 1) rfl) g_24 dX5_readHouse_73 (fun H locs hw => ?_)
  obtain ⟨σ_25, e_26, hf⟩ := sn_ltE hf
  rw [← e_26] at hw
  refine lv_aload_n hx hb dX5_readHouse_74 rfl (lv_at hl 0 rfl) ?_
  refine va_ldcS (tx := "money") (q := ad (1000 + 4)) hx hb C.2.2.2.1 (sn_sr_4 C.2.2.2.2.2.2.2.2.2) dX5_readHouse_75 ?_
  obtain ⟨t_27, h_28, hf⟩ := sn_bd hf
  refine sn_callVv (rest := []) C hw (ctX5_word l  h_28) kl_RX5_54 layC_17 rfl rfl rfl rfl (Nat.le_of_ble_eq_true rfl) dX5_readHouse_77 hl.1 (fun H locs hw => ?_)
  refine lv_aload_n hx hb dX5_readHouse_80 rfl (lv_at hl 0 rfl) ?_
  obtain ⟨g_29, hf⟩ := sn_gdE hf
  refine sn_getR (r := 8) C hw fd_RX5_22 layC_17 rfl (by simpa using g_29) dX5_readHouse_81 ?_
  refine sn_getC (r := (8 + 1)) C hw fd_RX5_49 (sn_look sn_isX2_8 (k := 0) rfl) rfl dX5_readHouse_84 ?_
  refine lv_iconst (v := 3) hx hb dX5_readHouse_87 rfl ?_
  refine lv_aload_n hx hb dX5_readHouse_88 rfl (lv_at hl 0 rfl) ?_
  refine lv_iconst (v := 0) hx hb dX5_readHouse_89 rfl ?_
  refine lv_sipush (v := 999) hx hb dX5_readHouse_90 (by decide) ?_
  refine lv_iconst (v := (-1)) hx hb dX5_readHouse_93 rfl ?_
  obtain ⟨t_30, h_31, hf⟩ := sn_bd hf
  refine sn_callVi (rest := [.int (3 : Int32), .ref (ad (8 + 1))]) C hw (ctX5_number l  h_31) kl_RX5_60 layC_17 rfl rfl rfl rfl (Nat.le_of_ble_eq_true rfl) dX5_readHouse_94 hl.1 (fun H locs hw => ?_)
  obtain ⟨g_32, hf⟩ := sn_gdE hf
  refine sn_iast C hw (sn_look sn_isX2_8 (k := 1) rfl) g_32 dX5_readHouse_97 (fun H locs hw => ?_)
  obtain ⟨σ_33, e_34, hf⟩ := sn_ltE hf
  rw [← e_34] at hw
  refine lv_aload_n hx hb dX5_readHouse_98 rfl (lv_at hl 0 rfl) ?_
  refine va_ldcS (tx := "odds") (q := ad (1000 + 5)) hx hb C.2.2.2.1 (sn_sr_5 C.2.2.2.2.2.2.2.2.2) dX5_readHouse_99 ?_
  obtain ⟨t_35, h_36, hf⟩ := sn_bd hf
  refine sn_callVv (rest := []) C hw (ctX5_word l  h_36) kl_RX5_54 layC_17 rfl rfl rfl rfl (Nat.le_of_ble_eq_true rfl) dX5_readHouse_101 hl.1 (fun H locs hw => ?_)
  refine lv_aload_n hx hb dX5_readHouse_104 rfl (lv_at hl 0 rfl) ?_
  obtain ⟨g_37, hf⟩ := sn_gdE hf
  refine sn_getR (r := 8) C hw fd_RX5_22 layC_17 rfl (by simpa using g_37) dX5_readHouse_105 ?_
  refine sn_getC (r := (8 + 1)) C hw fd_RX5_49 (sn_look sn_isX2_8 (k := 0) rfl) rfl dX5_readHouse_108 ?_
  refine lv_iconst (v := 4) hx hb dX5_readHouse_111 rfl ?_
  refine lv_aload_n hx hb dX5_readHouse_112 rfl (lv_at hl 0 rfl) ?_
  refine lv_iconst (v := 0) hx hb dX5_readHouse_113 rfl ?_
  refine lv_bipush (v := 10) hx hb dX5_readHouse_114 (by decide) ?_
  refine lv_iconst (v := (-1)) hx hb dX5_readHouse_116 rfl ?_
  obtain ⟨t_38, h_39, hf⟩ := sn_bd hf
  refine sn_callVi (rest := [.int (4 : Int32), .ref (ad (8 + 1))]) C hw (ctX5_number l  h_39) kl_RX5_60 layC_17 rfl rfl rfl rfl (Nat.le_of_ble_eq_true rfl) dX5_readHouse_117 hl.1 (fun H locs hw => ?_)
  obtain ⟨g_40, hf⟩ := sn_gdE hf
  refine sn_iast C hw (sn_look sn_isX2_8 (k := 1) rfl) g_40 dX5_readHouse_120 (fun H locs hw => ?_)
  obtain ⟨σ_41, e_42, hf⟩ := sn_ltE hf
  rw [← e_42] at hw
  refine lv_aload_n hx hb dX5_readHouse_121 rfl (lv_at hl 0 rfl) ?_
  obtain ⟨t_43, h_44, hf⟩ := sn_bd hf
  refine sn_callVv (rest := []) C hw (ctX5_sign l  h_44) kl_RX5_72 layC_17 rfl rfl rfl rfl (Nat.le_of_ble_eq_true rfl) dX5_readHouse_122 hl.1 (fun H locs hw => ?_)
  cases hf
  exact kr _ _ _ _ hw rfl dX5_readHouse_125
theorem ctX5_readHouse (l : Launch) {σ : sn_S}  {o : sn_S} (hf : fX5_readHouse σ = some o) : sn_M l yX5_readHouse cX5_readHouse 1 none rmX5_readHouse layC (fun ad => [.ref (ad 17)]) σ none o :=
  sn_met (by decide) (fun _ => Nat.le_of_ble_eq_true rfl) (fun p e s m args below meth c ls D ct ad A C hw hl => wX5_readHouse_in C  hf (fun H locs ls pc hw ok hd => sn_vret C hw hd) _ _ _ hw hl)
-- X5_readNose
abbrev rmX5_readNose : Room := { frames := 6, cells := 0, slots := 0, locals := 128 }
def fX5_readNose (σ : sn_S) (x1 : Int32) : Option sn_S :=
  (if x1 < (6 : Int32) then
  ((fX5_word σ 6).bind fun t_2 => (sn_gd (sn_R t_2 17 7 == some 8) ((fX5_number t_2 (0 : Int32) (9 : Int32) (-1 : Int32)).bind fun t_5 => (sn_gd (sn_in ((2 : Int32) * x1) 12) (sn_lt (sn_pI t_5.2 (8 + 2) ((2 : Int32) * x1).toNatClampNeg t_5.1) fun σ_8 => ((fX5_word σ_8 10).bind fun t_10 => (sn_gd (sn_R t_10 17 7 == some 8) ((fX5_number t_10 (1 : Int32) (99 : Int32) (-1 : Int32)).bind fun t_13 => (sn_gd (sn_in (((2 : Int32) * x1) + (1 : Int32)) 12) (sn_lt (sn_pI t_13.2 (8 + 2) (((2 : Int32) * x1) + (1 : Int32)).toNatClampNeg t_13.1) fun σ_16 => ((fX5_sign σ_16).bind fun t_18 => (sn_gd (sn_R t_18 17 7 == some 8) (sn_gd (sn_in (5 : Int32) 11) (sn_lt (sn_pI t_18 (8 + 1) (5 : Int32).toNatClampNeg (x1 + (1 : Int32))) fun σ_22 => (some σ_22)))))))))))))))
  else
  ((fX5_blame σ (3 : Int32)).bind fun t_24 => (some t_24)))
theorem wX5_readNose_in (C : sn_C p s m args meth c RX5 cX5_readNose 2 none D ct ad layC A) {σ : sn_S} {x1 : Int32}  {o : sn_S} (hf : fX5_readNose σ x1 = some o) (kr : sn_Kr p l e rmX5_readNose s m args below meth c Q D ct ad layC A cX5_readNose .return_ (true) o []) : sn_At p l e rmX5_readNose s m args below meth c Q D ct ad layC A 2 σ 0 [(0, .ref (ad 17)), (1, .int x1)] [] := by
  intro H locs ls hw hl
  have hx := C.1
  have hb := C.2.1
  unfold fX5_readNose at hf
  refine lv_iload_n hx hb dX5_readNose_0 rfl (lv_at hl 1 rfl) ?_
  refine lv_bipush (v := 6) hx hb dX5_readNose_1 (by decide) ?_
  refine lv_icmp_lt (tgt := 12) hx hb dX5_readNose_3 (by decide) (fun c_1 => ?_) (fun c_1 => ?_)
  · have hf := sn_if c_1 hf
    refine lv_aload_n hx hb dX5_readNose_12 rfl (lv_at hl 0 rfl) ?_
    refine va_ldcS (tx := "nose") (q := ad (1000 + 6)) hx hb C.2.2.2.1 (sn_sr_6 C.2.2.2.2.2.2.2.2.2) dX5_readNose_13 ?_
    obtain ⟨t_2, h_3, hf⟩ := sn_bd hf
    refine sn_callVv (rest := []) C hw (ctX5_word l  h_3) kl_RX5_54 layC_17 rfl rfl rfl rfl (Nat.le_of_ble_eq_true rfl) dX5_readNose_15 hl.1 (fun H locs hw => ?_)
    refine lv_aload_n hx hb dX5_readNose_18 rfl (lv_at hl 0 rfl) ?_
    obtain ⟨g_4, hf⟩ := sn_gdE hf
    refine sn_getR (r := 8) C hw fd_RX5_22 layC_17 rfl (by simpa using g_4) dX5_readNose_19 ?_
    refine sn_getC (r := (8 + 2)) C hw fd_RX5_103 (sn_look sn_isX2_8 (k := 0) rfl) rfl dX5_readNose_22 ?_
    refine lv_iconst (v := 2) hx hb dX5_readNose_25 rfl ?_
    refine lv_iload_n hx hb dX5_readNose_26 rfl (lv_at hl 1 rfl) ?_
    refine lv_imul hx hb dX5_readNose_27 ?_
    refine lv_aload_n hx hb dX5_readNose_28 rfl (lv_at hl 0 rfl) ?_
    refine lv_iconst (v := 0) hx hb dX5_readNose_29 rfl ?_
    refine lv_bipush (v := 9) hx hb dX5_readNose_30 (by decide) ?_
    refine lv_iconst (v := (-1)) hx hb dX5_readNose_32 rfl ?_
    obtain ⟨t_5, h_6, hf⟩ := sn_bd hf
    refine sn_callVi (rest := [.int ((2 : Int32) * x1), .ref (ad (8 + 2))]) C hw (ctX5_number l  h_6) kl_RX5_60 layC_17 rfl rfl rfl rfl (Nat.le_of_ble_eq_true rfl) dX5_readNose_33 hl.1 (fun H locs hw => ?_)
    obtain ⟨g_7, hf⟩ := sn_gdE hf
    refine sn_iast C hw (sn_look sn_isX2_8 (k := 2) rfl) g_7 dX5_readNose_36 (fun H locs hw => ?_)
    obtain ⟨σ_8, e_9, hf⟩ := sn_ltE hf
    rw [← e_9] at hw
    refine lv_aload_n hx hb dX5_readNose_37 rfl (lv_at hl 0 rfl) ?_
    refine va_ldcS (tx := "holds") (q := ad (1000 + 10)) hx hb C.2.2.2.1 (sn_sr_10 C.2.2.2.2.2.2.2.2.2) dX5_readNose_38 ?_
    obtain ⟨t_10, h_11, hf⟩ := sn_bd hf
    refine sn_callVv (rest := []) C hw (ctX5_word l  h_11) kl_RX5_54 layC_17 rfl rfl rfl rfl (Nat.le_of_ble_eq_true rfl) dX5_readNose_40 hl.1 (fun H locs hw => ?_)
    refine lv_aload_n hx hb dX5_readNose_43 rfl (lv_at hl 0 rfl) ?_
    obtain ⟨g_12, hf⟩ := sn_gdE hf
    refine sn_getR (r := 8) C hw fd_RX5_22 layC_17 rfl (by simpa using g_12) dX5_readNose_44 ?_
    refine sn_getC (r := (8 + 2)) C hw fd_RX5_103 (sn_look sn_isX2_8 (k := 0) rfl) rfl dX5_readNose_47 ?_
    refine lv_iconst (v := 2) hx hb dX5_readNose_50 rfl ?_
    refine lv_iload_n hx hb dX5_readNose_51 rfl (lv_at hl 1 rfl) ?_
    refine lv_imul hx hb dX5_readNose_52 ?_
    refine lv_iconst (v := 1) hx hb dX5_readNose_53 rfl ?_
    refine lv_iadd hx hb dX5_readNose_54 ?_
    refine lv_aload_n hx hb dX5_readNose_55 rfl (lv_at hl 0 rfl) ?_
    refine lv_iconst (v := 1) hx hb dX5_readNose_56 rfl ?_
    refine lv_bipush (v := 99) hx hb dX5_readNose_57 (by decide) ?_
    refine lv_iconst (v := (-1)) hx hb dX5_readNose_59 rfl ?_
    obtain ⟨t_13, h_14, hf⟩ := sn_bd hf
    refine sn_callVi (rest := [.int (((2 : Int32) * x1) + (1 : Int32)), .ref (ad (8 + 2))]) C hw (ctX5_number l  h_14) kl_RX5_60 layC_17 rfl rfl rfl rfl (Nat.le_of_ble_eq_true rfl) dX5_readNose_60 hl.1 (fun H locs hw => ?_)
    obtain ⟨g_15, hf⟩ := sn_gdE hf
    refine sn_iast C hw (sn_look sn_isX2_8 (k := 2) rfl) g_15 dX5_readNose_63 (fun H locs hw => ?_)
    obtain ⟨σ_16, e_17, hf⟩ := sn_ltE hf
    rw [← e_17] at hw
    refine lv_aload_n hx hb dX5_readNose_64 rfl (lv_at hl 0 rfl) ?_
    obtain ⟨t_18, h_19, hf⟩ := sn_bd hf
    refine sn_callVv (rest := []) C hw (ctX5_sign l  h_19) kl_RX5_72 layC_17 rfl rfl rfl rfl (Nat.le_of_ble_eq_true rfl) dX5_readNose_65 hl.1 (fun H locs hw => ?_)
    refine lv_aload_n hx hb dX5_readNose_68 rfl (lv_at hl 0 rfl) ?_
    obtain ⟨g_20, hf⟩ := sn_gdE hf
    refine sn_getR (r := 8) C hw fd_RX5_22 layC_17 rfl (by simpa using g_20) dX5_readNose_69 ?_
    refine sn_getC (r := (8 + 1)) C hw fd_RX5_49 (sn_look sn_isX2_8 (k := 0) rfl) rfl dX5_readNose_72 ?_
    refine lv_iconst (v := 5) hx hb dX5_readNose_75 rfl ?_
    refine lv_iload_n hx hb dX5_readNose_76 rfl (lv_at hl 1 rfl) ?_
    refine lv_iconst (v := 1) hx hb dX5_readNose_77 rfl ?_
    refine lv_iadd hx hb dX5_readNose_78 ?_
    obtain ⟨g_21, hf⟩ := sn_gdE hf
    refine sn_iast C hw (sn_look sn_isX2_8 (k := 1) rfl) g_21 dX5_readNose_79 (fun H locs hw => ?_)
    obtain ⟨σ_22, e_23, hf⟩ := sn_ltE hf
    rw [← e_23] at hw
    cases hf
    exact kr _ _ _ _ hw rfl dX5_readNose_80
  · have hf := sn_el c_1 hf
    refine lv_aload_n hx hb dX5_readNose_6 rfl (lv_at hl 0 rfl) ?_
    refine lv_iconst (v := 3) hx hb dX5_readNose_7 rfl ?_
    obtain ⟨t_24, h_25, hf⟩ := sn_bd hf
    refine sn_callVv (rest := []) C hw (ctX5_blame l  h_25) kl_RX5_100 layC_17 rfl rfl rfl rfl (Nat.le_of_ble_eq_true rfl) dX5_readNose_8 hl.1 (fun H locs hw => ?_)
    cases hf
    exact kr _ _ _ _ hw rfl dX5_readNose_11
theorem ctX5_readNose (l : Launch) {σ : sn_S} {x1 : Int32}  {o : sn_S} (hf : fX5_readNose σ x1 = some o) : sn_M l yX5_readNose cX5_readNose 2 none rmX5_readNose layC (fun ad => [.ref (ad 17), .int x1]) σ none o :=
  sn_met (by decide) (fun _ => Nat.le_of_ble_eq_true rfl) (fun p e s m args below meth c ls D ct ad A C hw hl => wX5_readNose_in C  hf (fun H locs ls pc hw ok hd => sn_vret C hw hd) _ _ _ hw hl)
-- X5_readGust
abbrev rmX5_readGust : Room := { frames := 6, cells := 0, slots := 0, locals := 128 }
def fX5_readGust (σ : sn_S) (x1 : Int32) : Option sn_S :=
  (if x1 < (5 : Int32) then
  ((fX5_word σ 7).bind fun t_2 => (sn_gd (sn_R t_2 17 7 == some 8) ((fX5_number t_2 (1 : Int32) (9 : Int32) (-1 : Int32)).bind fun t_5 => (sn_gd (sn_in ((2 : Int32) * x1) 10) (sn_lt (sn_pI t_5.2 (8 + 3) ((2 : Int32) * x1).toNatClampNeg t_5.1) fun σ_8 => ((fX5_word σ_8 11).bind fun t_10 => (sn_gd (sn_R t_10 17 7 == some 8) ((fX5_number t_10 (0 : Int32) (29 : Int32) (-1 : Int32)).bind fun t_13 => (sn_gd (sn_in (((2 : Int32) * x1) + (1 : Int32)) 10) (sn_lt (sn_pI t_13.2 (8 + 3) (((2 : Int32) * x1) + (1 : Int32)).toNatClampNeg t_13.1) fun σ_16 => ((fX5_sign σ_16).bind fun t_18 => (sn_gd (sn_R t_18 17 7 == some 8) (sn_gd (sn_in (6 : Int32) 11) (sn_lt (sn_pI t_18 (8 + 1) (6 : Int32).toNatClampNeg (x1 + (1 : Int32))) fun σ_22 => (some σ_22)))))))))))))))
  else
  ((fX5_blame σ (3 : Int32)).bind fun t_24 => (some t_24)))
theorem wX5_readGust_in (C : sn_C p s m args meth c RX5 cX5_readGust 2 none D ct ad layC A) {σ : sn_S} {x1 : Int32}  {o : sn_S} (hf : fX5_readGust σ x1 = some o) (kr : sn_Kr p l e rmX5_readGust s m args below meth c Q D ct ad layC A cX5_readGust .return_ (true) o []) : sn_At p l e rmX5_readGust s m args below meth c Q D ct ad layC A 2 σ 0 [(0, .ref (ad 17)), (1, .int x1)] [] := by
  intro H locs ls hw hl
  have hx := C.1
  have hb := C.2.1
  unfold fX5_readGust at hf
  refine lv_iload_n hx hb dX5_readGust_0 rfl (lv_at hl 1 rfl) ?_
  refine lv_iconst (v := 5) hx hb dX5_readGust_1 rfl ?_
  refine lv_icmp_lt (tgt := 11) hx hb dX5_readGust_2 (by decide) (fun c_1 => ?_) (fun c_1 => ?_)
  · have hf := sn_if c_1 hf
    refine lv_aload_n hx hb dX5_readGust_11 rfl (lv_at hl 0 rfl) ?_
    refine va_ldcS (tx := "gust") (q := ad (1000 + 7)) hx hb C.2.2.2.1 (sn_sr_7 C.2.2.2.2.2.2.2.2.2) dX5_readGust_12 ?_
    obtain ⟨t_2, h_3, hf⟩ := sn_bd hf
    refine sn_callVv (rest := []) C hw (ctX5_word l  h_3) kl_RX5_54 layC_17 rfl rfl rfl rfl (Nat.le_of_ble_eq_true rfl) dX5_readGust_14 hl.1 (fun H locs hw => ?_)
    refine lv_aload_n hx hb dX5_readGust_17 rfl (lv_at hl 0 rfl) ?_
    obtain ⟨g_4, hf⟩ := sn_gdE hf
    refine sn_getR (r := 8) C hw fd_RX5_22 layC_17 rfl (by simpa using g_4) dX5_readGust_18 ?_
    refine sn_getC (r := (8 + 3)) C hw fd_RX5_108 (sn_look sn_isX2_8 (k := 0) rfl) rfl dX5_readGust_21 ?_
    refine lv_iconst (v := 2) hx hb dX5_readGust_24 rfl ?_
    refine lv_iload_n hx hb dX5_readGust_25 rfl (lv_at hl 1 rfl) ?_
    refine lv_imul hx hb dX5_readGust_26 ?_
    refine lv_aload_n hx hb dX5_readGust_27 rfl (lv_at hl 0 rfl) ?_
    refine lv_iconst (v := 1) hx hb dX5_readGust_28 rfl ?_
    refine lv_bipush (v := 9) hx hb dX5_readGust_29 (by decide) ?_
    refine lv_iconst (v := (-1)) hx hb dX5_readGust_31 rfl ?_
    obtain ⟨t_5, h_6, hf⟩ := sn_bd hf
    refine sn_callVi (rest := [.int ((2 : Int32) * x1), .ref (ad (8 + 3))]) C hw (ctX5_number l  h_6) kl_RX5_60 layC_17 rfl rfl rfl rfl (Nat.le_of_ble_eq_true rfl) dX5_readGust_32 hl.1 (fun H locs hw => ?_)
    obtain ⟨g_7, hf⟩ := sn_gdE hf
    refine sn_iast C hw (sn_look sn_isX2_8 (k := 3) rfl) g_7 dX5_readGust_35 (fun H locs hw => ?_)
    obtain ⟨σ_8, e_9, hf⟩ := sn_ltE hf
    rw [← e_9] at hw
    refine lv_aload_n hx hb dX5_readGust_36 rfl (lv_at hl 0 rfl) ?_
    refine va_ldcS (tx := "at") (q := ad (1000 + 11)) hx hb C.2.2.2.1 (sn_sr_11 C.2.2.2.2.2.2.2.2.2) dX5_readGust_37 ?_
    obtain ⟨t_10, h_11, hf⟩ := sn_bd hf
    refine sn_callVv (rest := []) C hw (ctX5_word l  h_11) kl_RX5_54 layC_17 rfl rfl rfl rfl (Nat.le_of_ble_eq_true rfl) dX5_readGust_39 hl.1 (fun H locs hw => ?_)
    refine lv_aload_n hx hb dX5_readGust_42 rfl (lv_at hl 0 rfl) ?_
    obtain ⟨g_12, hf⟩ := sn_gdE hf
    refine sn_getR (r := 8) C hw fd_RX5_22 layC_17 rfl (by simpa using g_12) dX5_readGust_43 ?_
    refine sn_getC (r := (8 + 3)) C hw fd_RX5_108 (sn_look sn_isX2_8 (k := 0) rfl) rfl dX5_readGust_46 ?_
    refine lv_iconst (v := 2) hx hb dX5_readGust_49 rfl ?_
    refine lv_iload_n hx hb dX5_readGust_50 rfl (lv_at hl 1 rfl) ?_
    refine lv_imul hx hb dX5_readGust_51 ?_
    refine lv_iconst (v := 1) hx hb dX5_readGust_52 rfl ?_
    refine lv_iadd hx hb dX5_readGust_53 ?_
    refine lv_aload_n hx hb dX5_readGust_54 rfl (lv_at hl 0 rfl) ?_
    refine lv_iconst (v := 0) hx hb dX5_readGust_55 rfl ?_
    refine lv_bipush (v := 29) hx hb dX5_readGust_56 (by decide) ?_
    refine lv_iconst (v := (-1)) hx hb dX5_readGust_58 rfl ?_
    obtain ⟨t_13, h_14, hf⟩ := sn_bd hf
    refine sn_callVi (rest := [.int (((2 : Int32) * x1) + (1 : Int32)), .ref (ad (8 + 3))]) C hw (ctX5_number l  h_14) kl_RX5_60 layC_17 rfl rfl rfl rfl (Nat.le_of_ble_eq_true rfl) dX5_readGust_59 hl.1 (fun H locs hw => ?_)
    obtain ⟨g_15, hf⟩ := sn_gdE hf
    refine sn_iast C hw (sn_look sn_isX2_8 (k := 3) rfl) g_15 dX5_readGust_62 (fun H locs hw => ?_)
    obtain ⟨σ_16, e_17, hf⟩ := sn_ltE hf
    rw [← e_17] at hw
    refine lv_aload_n hx hb dX5_readGust_63 rfl (lv_at hl 0 rfl) ?_
    obtain ⟨t_18, h_19, hf⟩ := sn_bd hf
    refine sn_callVv (rest := []) C hw (ctX5_sign l  h_19) kl_RX5_72 layC_17 rfl rfl rfl rfl (Nat.le_of_ble_eq_true rfl) dX5_readGust_64 hl.1 (fun H locs hw => ?_)
    refine lv_aload_n hx hb dX5_readGust_67 rfl (lv_at hl 0 rfl) ?_
    obtain ⟨g_20, hf⟩ := sn_gdE hf
    refine sn_getR (r := 8) C hw fd_RX5_22 layC_17 rfl (by simpa using g_20) dX5_readGust_68 ?_
    refine sn_getC (r := (8 + 1)) C hw fd_RX5_49 (sn_look sn_isX2_8 (k := 0) rfl) rfl dX5_readGust_71 ?_
    refine lv_bipush (v := 6) hx hb dX5_readGust_74 (by decide) ?_
    refine lv_iload_n hx hb dX5_readGust_76 rfl (lv_at hl 1 rfl) ?_
    refine lv_iconst (v := 1) hx hb dX5_readGust_77 rfl ?_
    refine lv_iadd hx hb dX5_readGust_78 ?_
    obtain ⟨g_21, hf⟩ := sn_gdE hf
    refine sn_iast C hw (sn_look sn_isX2_8 (k := 1) rfl) g_21 dX5_readGust_79 (fun H locs hw => ?_)
    obtain ⟨σ_22, e_23, hf⟩ := sn_ltE hf
    rw [← e_23] at hw
    cases hf
    exact kr _ _ _ _ hw rfl dX5_readGust_80
  · have hf := sn_el c_1 hf
    refine lv_aload_n hx hb dX5_readGust_5 rfl (lv_at hl 0 rfl) ?_
    refine lv_iconst (v := 3) hx hb dX5_readGust_6 rfl ?_
    obtain ⟨t_24, h_25, hf⟩ := sn_bd hf
    refine sn_callVv (rest := []) C hw (ctX5_blame l  h_25) kl_RX5_100 layC_17 rfl rfl rfl rfl (Nat.le_of_ble_eq_true rfl) dX5_readGust_7 hl.1 (fun H locs hw => ?_)
    cases hf
    exact kr _ _ _ _ hw rfl dX5_readGust_10
theorem ctX5_readGust (l : Launch) {σ : sn_S} {x1 : Int32}  {o : sn_S} (hf : fX5_readGust σ x1 = some o) : sn_M l yX5_readGust cX5_readGust 2 none rmX5_readGust layC (fun ad => [.ref (ad 17), .int x1]) σ none o :=
  sn_met (by decide) (fun _ => Nat.le_of_ble_eq_true rfl) (fun p e s m args below meth c ls D ct ad A C hw hl => wX5_readGust_in C  hf (fun H locs ls pc hw ok hd => sn_vret C hw hd) _ _ _ hw hl)
-- X5_readNet
abbrev rmX5_readNet : Room := { frames := 6, cells := 0, slots := 0, locals := 128 }
def fX5_readNet (σ : sn_S) (x1 : Int32) : Option sn_S :=
  (if x1 < (8 : Int32) then
  ((fX5_word σ 8).bind fun t_2 => (sn_gd (sn_R t_2 17 7 == some 8) (sn_gd (sn_in (5 : Int32) 11) ((fX5_number t_2 (0 : Int32) ((sn_I t_2 (8 + 1) (5 : Int32).toNatClampNeg) - (1 : Int32)) (-1 : Int32)).bind fun t_6 => (sn_gd (sn_R t_6.2 17 7 == some 8) (sn_gd (sn_in ((2 : Int32) * x1) 16) (sn_lt (sn_pI t_6.2 (8 + 4) ((2 : Int32) * x1).toNatClampNeg t_6.1) fun σ_10 => (sn_gd (sn_R σ_10 17 7 == some 8) (sn_gd (sn_R σ_10 17 7 == some 8) (sn_gd (sn_in (5 : Int32) 11) ((fX5_number σ_10 (0 : Int32) ((sn_I σ_10 (8 + 1) (5 : Int32).toNatClampNeg) - (1 : Int32)) t_6.1).bind fun t_15 => (sn_gd (sn_in (((2 : Int32) * x1) + (1 : Int32)) 16) (sn_lt (sn_pI t_15.2 (8 + 4) (((2 : Int32) * x1) + (1 : Int32)).toNatClampNeg t_15.1) fun σ_18 => ((fX5_sign σ_18).bind fun t_20 => (sn_gd (sn_R t_20 17 7 == some 8) (sn_gd (sn_in (7 : Int32) 11) (sn_lt (sn_pI t_20 (8 + 1) (7 : Int32).toNatClampNeg (x1 + (1 : Int32))) fun σ_24 => (some σ_24))))))))))))))))))
  else
  ((fX5_blame σ (3 : Int32)).bind fun t_26 => (some t_26)))
theorem wX5_readNet_in (C : sn_C p s m args meth c RX5 cX5_readNet 3 none D ct ad layC A) {σ : sn_S} {x1 : Int32}  {o : sn_S} (hf : fX5_readNet σ x1 = some o) (kr : sn_Kr p l e rmX5_readNet s m args below meth c Q D ct ad layC A cX5_readNet .return_ (true) o []) : sn_At p l e rmX5_readNet s m args below meth c Q D ct ad layC A 3 σ 0 [(0, .ref (ad 17)), (1, .int x1)] [] := by
  intro H locs ls hw hl
  have hx := C.1
  have hb := C.2.1
  unfold fX5_readNet at hf
  refine lv_iload_n hx hb dX5_readNet_0 rfl (lv_at hl 1 rfl) ?_
  refine lv_bipush (v := 8) hx hb dX5_readNet_1 (by decide) ?_
  refine lv_icmp_lt (tgt := 12) hx hb dX5_readNet_3 (by decide) (fun c_1 => ?_) (fun c_1 => ?_)
  · have hf := sn_if c_1 hf
    refine lv_aload_n hx hb dX5_readNet_12 rfl (lv_at hl 0 rfl) ?_
    refine va_ldcS (tx := "net") (q := ad (1000 + 8)) hx hb C.2.2.2.1 (sn_sr_8 C.2.2.2.2.2.2.2.2.2) dX5_readNet_13 ?_
    obtain ⟨t_2, h_3, hf⟩ := sn_bd hf
    refine sn_callVv (rest := []) C hw (ctX5_word l  h_3) kl_RX5_54 layC_17 rfl rfl rfl rfl (Nat.le_of_ble_eq_true rfl) dX5_readNet_15 hl.1 (fun H locs hw => ?_)
    refine lv_aload_n hx hb dX5_readNet_18 rfl (lv_at hl 0 rfl) ?_
    refine lv_iconst (v := 0) hx hb dX5_readNet_19 rfl ?_
    refine lv_aload_n hx hb dX5_readNet_20 rfl (lv_at hl 0 rfl) ?_
    obtain ⟨g_4, hf⟩ := sn_gdE hf
    refine sn_getR (r := 8) C hw fd_RX5_22 layC_17 rfl (by simpa using g_4) dX5_readNet_21 ?_
    refine sn_getC (r := (8 + 1)) C hw fd_RX5_49 (sn_look sn_isX2_8 (k := 0) rfl) rfl dX5_readNet_24 ?_
    refine lv_iconst (v := 5) hx hb dX5_readNet_27 rfl ?_
    obtain ⟨g_5, hf⟩ := sn_gdE hf
    refine sn_iald C hw (sn_look sn_isX2_8 (k := 1) rfl) g_5 dX5_readNet_28 ?_
    refine lv_iconst (v := 1) hx hb dX5_readNet_29 rfl ?_
    refine lv_isub hx hb dX5_readNet_30 ?_
    refine lv_iconst (v := (-1)) hx hb dX5_readNet_31 rfl ?_
    obtain ⟨t_6, h_7, hf⟩ := sn_bd hf
    refine sn_callVi (rest := []) C hw (ctX5_number l  h_7) kl_RX5_60 layC_17 rfl rfl rfl rfl (Nat.le_of_ble_eq_true rfl) dX5_readNet_32 hl.1 (fun H locs hw => ?_)
    refine lv_istore_n (lv' := [(2, .int t_6.1), (0, .ref (ad 17)), (1, .int x1)]) hx hb dX5_readNet_35 rfl hl (by decide) rfl (fun ls hl => ?_)
    refine lv_aload_n hx hb dX5_readNet_36 rfl (lv_at hl 1 rfl) ?_
    obtain ⟨g_8, hf⟩ := sn_gdE hf
    refine sn_getR (r := 8) C hw fd_RX5_22 layC_17 rfl (by simpa using g_8) dX5_readNet_37 ?_
    refine sn_getC (r := (8 + 4)) C hw fd_RX5_113 (sn_look sn_isX2_8 (k := 0) rfl) rfl dX5_readNet_40 ?_
    refine lv_iconst (v := 2) hx hb dX5_readNet_43 rfl ?_
    refine lv_iload_n hx hb dX5_readNet_44 rfl (lv_at hl 2 rfl) ?_
    refine lv_imul hx hb dX5_readNet_45 ?_
    refine lv_iload_n hx hb dX5_readNet_46 rfl (lv_at hl 0 rfl) ?_
    obtain ⟨g_9, hf⟩ := sn_gdE hf
    refine sn_iast C hw (sn_look sn_isX2_8 (k := 4) rfl) g_9 dX5_readNet_47 (fun H locs hw => ?_)
    obtain ⟨σ_10, e_11, hf⟩ := sn_ltE hf
    rw [← e_11] at hw
    refine lv_aload_n hx hb dX5_readNet_48 rfl (lv_at hl 1 rfl) ?_
    obtain ⟨g_12, hf⟩ := sn_gdE hf
    refine sn_getR (r := 8) C hw fd_RX5_22 layC_17 rfl (by simpa using g_12) dX5_readNet_49 ?_
    refine sn_getC (r := (8 + 4)) C hw fd_RX5_113 (sn_look sn_isX2_8 (k := 0) rfl) rfl dX5_readNet_52 ?_
    refine lv_iconst (v := 2) hx hb dX5_readNet_55 rfl ?_
    refine lv_iload_n hx hb dX5_readNet_56 rfl (lv_at hl 2 rfl) ?_
    refine lv_imul hx hb dX5_readNet_57 ?_
    refine lv_iconst (v := 1) hx hb dX5_readNet_58 rfl ?_
    refine lv_iadd hx hb dX5_readNet_59 ?_
    refine lv_aload_n hx hb dX5_readNet_60 rfl (lv_at hl 1 rfl) ?_
    refine lv_iconst (v := 0) hx hb dX5_readNet_61 rfl ?_
    refine lv_aload_n hx hb dX5_readNet_62 rfl (lv_at hl 1 rfl) ?_
    obtain ⟨g_13, hf⟩ := sn_gdE hf
    refine sn_getR (r := 8) C hw fd_RX5_22 layC_17 rfl (by simpa using g_13) dX5_readNet_63 ?_
    refine sn_getC (r := (8 + 1)) C hw fd_RX5_49 (sn_look sn_isX2_8 (k := 0) rfl) rfl dX5_readNet_66 ?_
    refine lv_iconst (v := 5) hx hb dX5_readNet_69 rfl ?_
    obtain ⟨g_14, hf⟩ := sn_gdE hf
    refine sn_iald C hw (sn_look sn_isX2_8 (k := 1) rfl) g_14 dX5_readNet_70 ?_
    refine lv_iconst (v := 1) hx hb dX5_readNet_71 rfl ?_
    refine lv_isub hx hb dX5_readNet_72 ?_
    refine lv_iload_n hx hb dX5_readNet_73 rfl (lv_at hl 0 rfl) ?_
    obtain ⟨t_15, h_16, hf⟩ := sn_bd hf
    refine sn_callVi (rest := [.int (((2 : Int32) * x1) + (1 : Int32)), .ref (ad (8 + 4))]) C hw (ctX5_number l  h_16) kl_RX5_60 layC_17 rfl rfl rfl rfl (Nat.le_of_ble_eq_true rfl) dX5_readNet_74 hl.1 (fun H locs hw => ?_)
    obtain ⟨g_17, hf⟩ := sn_gdE hf
    refine sn_iast C hw (sn_look sn_isX2_8 (k := 4) rfl) g_17 dX5_readNet_77 (fun H locs hw => ?_)
    obtain ⟨σ_18, e_19, hf⟩ := sn_ltE hf
    rw [← e_19] at hw
    refine lv_aload_n hx hb dX5_readNet_78 rfl (lv_at hl 1 rfl) ?_
    obtain ⟨t_20, h_21, hf⟩ := sn_bd hf
    refine sn_callVv (rest := []) C hw (ctX5_sign l  h_21) kl_RX5_72 layC_17 rfl rfl rfl rfl (Nat.le_of_ble_eq_true rfl) dX5_readNet_79 hl.1 (fun H locs hw => ?_)
    refine lv_aload_n hx hb dX5_readNet_82 rfl (lv_at hl 1 rfl) ?_
    obtain ⟨g_22, hf⟩ := sn_gdE hf
    refine sn_getR (r := 8) C hw fd_RX5_22 layC_17 rfl (by simpa using g_22) dX5_readNet_83 ?_
    refine sn_getC (r := (8 + 1)) C hw fd_RX5_49 (sn_look sn_isX2_8 (k := 0) rfl) rfl dX5_readNet_86 ?_
    refine lv_bipush (v := 7) hx hb dX5_readNet_89 (by decide) ?_
    refine lv_iload_n hx hb dX5_readNet_91 rfl (lv_at hl 2 rfl) ?_
    refine lv_iconst (v := 1) hx hb dX5_readNet_92 rfl ?_
    refine lv_iadd hx hb dX5_readNet_93 ?_
    obtain ⟨g_23, hf⟩ := sn_gdE hf
    refine sn_iast C hw (sn_look sn_isX2_8 (k := 1) rfl) g_23 dX5_readNet_94 (fun H locs hw => ?_)
    obtain ⟨σ_24, e_25, hf⟩ := sn_ltE hf
    rw [← e_25] at hw
    cases hf
    exact kr _ _ _ _ hw rfl dX5_readNet_95
  · have hf := sn_el c_1 hf
    refine lv_aload_n hx hb dX5_readNet_6 rfl (lv_at hl 0 rfl) ?_
    refine lv_iconst (v := 3) hx hb dX5_readNet_7 rfl ?_
    obtain ⟨t_26, h_27, hf⟩ := sn_bd hf
    refine sn_callVv (rest := []) C hw (ctX5_blame l  h_27) kl_RX5_100 layC_17 rfl rfl rfl rfl (Nat.le_of_ble_eq_true rfl) dX5_readNet_8 hl.1 (fun H locs hw => ?_)
    cases hf
    exact kr _ _ _ _ hw rfl dX5_readNet_11
theorem ctX5_readNet (l : Launch) {σ : sn_S} {x1 : Int32}  {o : sn_S} (hf : fX5_readNet σ x1 = some o) : sn_M l yX5_readNet cX5_readNet 3 none rmX5_readNet layC (fun ad => [.ref (ad 17), .int x1]) σ none o :=
  sn_met (by decide) (fun _ => Nat.le_of_ble_eq_true rfl) (fun p e s m args below meth c ls D ct ad A C hw hl => wX5_readNet_in C  hf (fun H locs ls pc hw ok hd => sn_vret C hw hd) _ _ _ hw hl)
-- X5_readPolicy
abbrev rmX5_readPolicy : Room := { frames := 6, cells := 0, slots := 0, locals := 128 }
def fX5_readPolicy (σ : sn_S) (x1 : Int32) : Option sn_S :=
  (if x1 < (6 : Int32) then
  (sn_lt ((5 : Int32) * x1) fun y_2 => ((fX5_word σ 9).bind fun t_4 => (sn_gd (sn_R t_4 17 7 == some 8) (sn_gd (sn_R t_4 17 7 == some 8) (sn_gd (sn_in (5 : Int32) 11) ((fX5_number t_4 (0 : Int32) ((sn_I t_4 (8 + 1) (5 : Int32).toNatClampNeg) - (1 : Int32)) (-1 : Int32)).bind fun t_9 => (sn_gd (sn_in (y_2 + (0 : Int32)) 30) (sn_lt (sn_pI t_9.2 (8 + 5) (y_2 + (0 : Int32)).toNatClampNeg t_9.1) fun σ_12 => ((fX5_word σ_12 12).bind fun t_14 => ((fX5_number t_14 (0 : Int32) (29 : Int32) (-1 : Int32)).bind fun t_16 => (sn_gd (sn_R t_16.2 17 7 == some 8) (sn_gd (sn_in (y_2 + (1 : Int32)) 30) (sn_lt (sn_pI t_16.2 (8 + 5) (y_2 + (1 : Int32)).toNatClampNeg t_16.1) fun σ_20 => ((fX5_word σ_20 13).bind fun t_22 => (sn_gd (sn_R t_22 17 7 == some 8) ((fX5_number t_22 t_16.1 (29 : Int32) (-1 : Int32)).bind fun t_25 => (sn_gd (sn_in (y_2 + (2 : Int32)) 30) (sn_lt (sn_pI t_25.2 (8 + 5) (y_2 + (2 : Int32)).toNatClampNeg t_25.1) fun σ_28 => ((fX5_word σ_28 14).bind fun t_30 => (sn_gd (sn_R t_30 17 7 == some 8) ((fX5_number t_30 (1 : Int32) (99 : Int32) (-1 : Int32)).bind fun t_33 => (sn_gd (sn_in (y_2 + (3 : Int32)) 30) (sn_lt (sn_pI t_33.2 (8 + 5) (y_2 + (3 : Int32)).toNatClampNeg t_33.1) fun σ_36 => ((fX5_word σ_36 15).bind fun t_38 => (sn_gd (sn_R t_38 17 7 == some 8) ((fX5_number t_38 (0 : Int32) (99 : Int32) (-1 : Int32)).bind fun t_41 => (sn_gd (sn_in (y_2 + (4 : Int32)) 30) (sn_lt (sn_pI t_41.2 (8 + 5) (y_2 + (4 : Int32)).toNatClampNeg t_41.1) fun σ_44 => ((fX5_sign σ_44).bind fun t_46 => (sn_gd (sn_R t_46 17 7 == some 8) (sn_gd (sn_in (8 : Int32) 11) (sn_lt (sn_pI t_46 (8 + 1) (8 : Int32).toNatClampNeg (x1 + (1 : Int32))) fun σ_50 => (some σ_50)))))))))))))))))))))))))))))))))
  else
  ((fX5_blame σ (3 : Int32)).bind fun t_52 => (some t_52)))
theorem wX5_readPolicy_in (C : sn_C p s m args meth c RX5 cX5_readPolicy 4 none D ct ad layC A) {σ : sn_S} {x1 : Int32}  {o : sn_S} (hf : fX5_readPolicy σ x1 = some o) (kr : sn_Kr p l e rmX5_readPolicy s m args below meth c Q D ct ad layC A cX5_readPolicy .return_ (true) o []) : sn_At p l e rmX5_readPolicy s m args below meth c Q D ct ad layC A 4 σ 0 [(0, .ref (ad 17)), (1, .int x1)] [] := by
  intro H locs ls hw hl
  have hx := C.1
  have hb := C.2.1
  unfold fX5_readPolicy at hf
  refine lv_iload_n hx hb dX5_readPolicy_0 rfl (lv_at hl 1 rfl) ?_
  refine lv_bipush (v := 6) hx hb dX5_readPolicy_1 (by decide) ?_
  refine lv_icmp_lt (tgt := 12) hx hb dX5_readPolicy_3 (by decide) (fun c_1 => ?_) (fun c_1 => ?_)
  · have hf := sn_if c_1 hf
    refine lv_iconst (v := 5) hx hb dX5_readPolicy_12 rfl ?_
    refine lv_iload_n hx hb dX5_readPolicy_13 rfl (lv_at hl 1 rfl) ?_
    refine lv_imul hx hb dX5_readPolicy_14 ?_
    obtain ⟨y_2, e_3, hf⟩ := sn_ltE hf
    refine lv_topi (fun y_2_ e_3_ => ?_)
    obtain rfl : y_2 = y_2_ := e_3.trans e_3_.symm
    refine lv_istore_n (lv' := [(2, .int y_2), (0, .ref (ad 17)), (1, .int x1)]) hx hb dX5_readPolicy_15 rfl hl (by decide) rfl (fun ls hl => ?_)
    refine lv_aload_n hx hb dX5_readPolicy_16 rfl (lv_at hl 1 rfl) ?_
    refine va_ldcS (tx := "policy") (q := ad (1000 + 9)) hx hb C.2.2.2.1 (sn_sr_9 C.2.2.2.2.2.2.2.2.2) dX5_readPolicy_17 ?_
    obtain ⟨t_4, h_5, hf⟩ := sn_bd hf
    refine sn_callVv (rest := []) C hw (ctX5_word l  h_5) kl_RX5_54 layC_17 rfl rfl rfl rfl (Nat.le_of_ble_eq_true rfl) dX5_readPolicy_19 hl.1 (fun H locs hw => ?_)
    refine lv_aload_n hx hb dX5_readPolicy_22 rfl (lv_at hl 1 rfl) ?_
    obtain ⟨g_6, hf⟩ := sn_gdE hf
    refine sn_getR (r := 8) C hw fd_RX5_22 layC_17 rfl (by simpa using g_6) dX5_readPolicy_23 ?_
    refine sn_getC (r := (8 + 5)) C hw fd_RX5_116 (sn_look sn_isX2_8 (k := 0) rfl) rfl dX5_readPolicy_26 ?_
    refine lv_iload_n hx hb dX5_readPolicy_29 rfl (lv_at hl 0 rfl) ?_
    refine lv_iconst (v := 0) hx hb dX5_readPolicy_30 rfl ?_
    refine lv_iadd hx hb dX5_readPolicy_31 ?_
    refine lv_aload_n hx hb dX5_readPolicy_32 rfl (lv_at hl 1 rfl) ?_
    refine lv_iconst (v := 0) hx hb dX5_readPolicy_33 rfl ?_
    refine lv_aload_n hx hb dX5_readPolicy_34 rfl (lv_at hl 1 rfl) ?_
    obtain ⟨g_7, hf⟩ := sn_gdE hf
    refine sn_getR (r := 8) C hw fd_RX5_22 layC_17 rfl (by simpa using g_7) dX5_readPolicy_35 ?_
    refine sn_getC (r := (8 + 1)) C hw fd_RX5_49 (sn_look sn_isX2_8 (k := 0) rfl) rfl dX5_readPolicy_38 ?_
    refine lv_iconst (v := 5) hx hb dX5_readPolicy_41 rfl ?_
    obtain ⟨g_8, hf⟩ := sn_gdE hf
    refine sn_iald C hw (sn_look sn_isX2_8 (k := 1) rfl) g_8 dX5_readPolicy_42 ?_
    refine lv_iconst (v := 1) hx hb dX5_readPolicy_43 rfl ?_
    refine lv_isub hx hb dX5_readPolicy_44 ?_
    refine lv_iconst (v := (-1)) hx hb dX5_readPolicy_45 rfl ?_
    obtain ⟨t_9, h_10, hf⟩ := sn_bd hf
    refine sn_callVi (rest := [.int (y_2 + (0 : Int32)), .ref (ad (8 + 5))]) C hw (ctX5_number l  h_10) kl_RX5_60 layC_17 rfl rfl rfl rfl (Nat.le_of_ble_eq_true rfl) dX5_readPolicy_46 hl.1 (fun H locs hw => ?_)
    obtain ⟨g_11, hf⟩ := sn_gdE hf
    refine sn_iast C hw (sn_look sn_isX2_8 (k := 5) rfl) g_11 dX5_readPolicy_49 (fun H locs hw => ?_)
    obtain ⟨σ_12, e_13, hf⟩ := sn_ltE hf
    rw [← e_13] at hw
    refine lv_aload_n hx hb dX5_readPolicy_50 rfl (lv_at hl 1 rfl) ?_
    refine va_ldcS (tx := "from") (q := ad (1000 + 12)) hx hb C.2.2.2.1 (sn_sr_12 C.2.2.2.2.2.2.2.2.2) dX5_readPolicy_51 ?_
    obtain ⟨t_14, h_15, hf⟩ := sn_bd hf
    refine sn_callVv (rest := []) C hw (ctX5_word l  h_15) kl_RX5_54 layC_17 rfl rfl rfl rfl (Nat.le_of_ble_eq_true rfl) dX5_readPolicy_53 hl.1 (fun H locs hw => ?_)
    refine lv_aload_n hx hb dX5_readPolicy_56 rfl (lv_at hl 1 rfl) ?_
    refine lv_iconst (v := 0) hx hb dX5_readPolicy_57 rfl ?_
    refine lv_bipush (v := 29) hx hb dX5_readPolicy_58 (by decide) ?_
    refine lv_iconst (v := (-1)) hx hb dX5_readPolicy_60 rfl ?_
    obtain ⟨t_16, h_17, hf⟩ := sn_bd hf
    refine sn_callVi (rest := []) C hw (ctX5_number l  h_17) kl_RX5_60 layC_17 rfl rfl rfl rfl (Nat.le_of_ble_eq_true rfl) dX5_readPolicy_61 hl.1 (fun H locs hw => ?_)
    refine lv_istore_n (lv' := [(3, .int t_16.1), (2, .int y_2), (0, .ref (ad 17)), (1, .int x1)]) hx hb dX5_readPolicy_64 rfl hl (by decide) rfl (fun ls hl => ?_)
    refine lv_aload_n hx hb dX5_readPolicy_65 rfl (lv_at hl 2 rfl) ?_
    obtain ⟨g_18, hf⟩ := sn_gdE hf
    refine sn_getR (r := 8) C hw fd_RX5_22 layC_17 rfl (by simpa using g_18) dX5_readPolicy_66 ?_
    refine sn_getC (r := (8 + 5)) C hw fd_RX5_116 (sn_look sn_isX2_8 (k := 0) rfl) rfl dX5_readPolicy_69 ?_
    refine lv_iload_n hx hb dX5_readPolicy_72 rfl (lv_at hl 1 rfl) ?_
    refine lv_iconst (v := 1) hx hb dX5_readPolicy_73 rfl ?_
    refine lv_iadd hx hb dX5_readPolicy_74 ?_
    refine lv_iload_n hx hb dX5_readPolicy_75 rfl (lv_at hl 0 rfl) ?_
    obtain ⟨g_19, hf⟩ := sn_gdE hf
    refine sn_iast C hw (sn_look sn_isX2_8 (k := 5) rfl) g_19 dX5_readPolicy_76 (fun H locs hw => ?_)
    obtain ⟨σ_20, e_21, hf⟩ := sn_ltE hf
    rw [← e_21] at hw
    refine lv_aload_n hx hb dX5_readPolicy_77 rfl (lv_at hl 2 rfl) ?_
    refine va_ldcS (tx := "to") (q := ad (1000 + 13)) hx hb C.2.2.2.1 (sn_sr_13 C.2.2.2.2.2.2.2.2.2) dX5_readPolicy_78 ?_
    obtain ⟨t_22, h_23, hf⟩ := sn_bd hf
    refine sn_callVv (rest := []) C hw (ctX5_word l  h_23) kl_RX5_54 layC_17 rfl rfl rfl rfl (Nat.le_of_ble_eq_true rfl) dX5_readPolicy_80 hl.1 (fun H locs hw => ?_)
    refine lv_aload_n hx hb dX5_readPolicy_83 rfl (lv_at hl 2 rfl) ?_
    obtain ⟨g_24, hf⟩ := sn_gdE hf
    refine sn_getR (r := 8) C hw fd_RX5_22 layC_17 rfl (by simpa using g_24) dX5_readPolicy_84 ?_
    refine sn_getC (r := (8 + 5)) C hw fd_RX5_116 (sn_look sn_isX2_8 (k := 0) rfl) rfl dX5_readPolicy_87 ?_
    refine lv_iload_n hx hb dX5_readPolicy_90 rfl (lv_at hl 1 rfl) ?_
    refine lv_iconst (v := 2) hx hb dX5_readPolicy_91 rfl ?_
    refine lv_iadd hx hb dX5_readPolicy_92 ?_
    refine lv_aload_n hx hb dX5_readPolicy_93 rfl (lv_at hl 2 rfl) ?_
    refine lv_iload_n hx hb dX5_readPolicy_94 rfl (lv_at hl 0 rfl) ?_
    refine lv_bipush (v := 29) hx hb dX5_readPolicy_95 (by decide) ?_
    refine lv_iconst (v := (-1)) hx hb dX5_readPolicy_97 rfl ?_
    obtain ⟨t_25, h_26, hf⟩ := sn_bd hf
    refine sn_callVi (rest := [.int (y_2 + (2 : Int32)), .ref (ad (8 + 5))]) C hw (ctX5_number l  h_26) kl_RX5_60 layC_17 rfl rfl rfl rfl (Nat.le_of_ble_eq_true rfl) dX5_readPolicy_98 hl.1 (fun H locs hw => ?_)
    obtain ⟨g_27, hf⟩ := sn_gdE hf
    refine sn_iast C hw (sn_look sn_isX2_8 (k := 5) rfl) g_27 dX5_readPolicy_101 (fun H locs hw => ?_)
    obtain ⟨σ_28, e_29, hf⟩ := sn_ltE hf
    rw [← e_29] at hw
    refine lv_aload_n hx hb dX5_readPolicy_102 rfl (lv_at hl 2 rfl) ?_
    refine va_ldcS (tx := "sum") (q := ad (1000 + 14)) hx hb C.2.2.2.1 (sn_sr_14 C.2.2.2.2.2.2.2.2.2) dX5_readPolicy_103 ?_
    obtain ⟨t_30, h_31, hf⟩ := sn_bd hf
    refine sn_callVv (rest := []) C hw (ctX5_word l  h_31) kl_RX5_54 layC_17 rfl rfl rfl rfl (Nat.le_of_ble_eq_true rfl) dX5_readPolicy_105 hl.1 (fun H locs hw => ?_)
    refine lv_aload_n hx hb dX5_readPolicy_108 rfl (lv_at hl 2 rfl) ?_
    obtain ⟨g_32, hf⟩ := sn_gdE hf
    refine sn_getR (r := 8) C hw fd_RX5_22 layC_17 rfl (by simpa using g_32) dX5_readPolicy_109 ?_
    refine sn_getC (r := (8 + 5)) C hw fd_RX5_116 (sn_look sn_isX2_8 (k := 0) rfl) rfl dX5_readPolicy_112 ?_
    refine lv_iload_n hx hb dX5_readPolicy_115 rfl (lv_at hl 1 rfl) ?_
    refine lv_iconst (v := 3) hx hb dX5_readPolicy_116 rfl ?_
    refine lv_iadd hx hb dX5_readPolicy_117 ?_
    refine lv_aload_n hx hb dX5_readPolicy_118 rfl (lv_at hl 2 rfl) ?_
    refine lv_iconst (v := 1) hx hb dX5_readPolicy_119 rfl ?_
    refine lv_bipush (v := 99) hx hb dX5_readPolicy_120 (by decide) ?_
    refine lv_iconst (v := (-1)) hx hb dX5_readPolicy_122 rfl ?_
    obtain ⟨t_33, h_34, hf⟩ := sn_bd hf
    refine sn_callVi (rest := [.int (y_2 + (3 : Int32)), .ref (ad (8 + 5))]) C hw (ctX5_number l  h_34) kl_RX5_60 layC_17 rfl rfl rfl rfl (Nat.le_of_ble_eq_true rfl) dX5_readPolicy_123 hl.1 (fun H locs hw => ?_)
    obtain ⟨g_35, hf⟩ := sn_gdE hf
    refine sn_iast C hw (sn_look sn_isX2_8 (k := 5) rfl) g_35 dX5_readPolicy_126 (fun H locs hw => ?_)
    obtain ⟨σ_36, e_37, hf⟩ := sn_ltE hf
    rw [← e_37] at hw
    refine lv_aload_n hx hb dX5_readPolicy_127 rfl (lv_at hl 2 rfl) ?_
    refine va_ldcS (tx := "pays") (q := ad (1000 + 15)) hx hb C.2.2.2.1 (sn_sr_15 C.2.2.2.2.2.2.2.2.2) dX5_readPolicy_128 ?_
    obtain ⟨t_38, h_39, hf⟩ := sn_bd hf
    refine sn_callVv (rest := []) C hw (ctX5_word l  h_39) kl_RX5_54 layC_17 rfl rfl rfl rfl (Nat.le_of_ble_eq_true rfl) dX5_readPolicy_130 hl.1 (fun H locs hw => ?_)
    refine lv_aload_n hx hb dX5_readPolicy_133 rfl (lv_at hl 2 rfl) ?_
    obtain ⟨g_40, hf⟩ := sn_gdE hf
    refine sn_getR (r := 8) C hw fd_RX5_22 layC_17 rfl (by simpa using g_40) dX5_readPolicy_134 ?_
    refine sn_getC (r := (8 + 5)) C hw fd_RX5_116 (sn_look sn_isX2_8 (k := 0) rfl) rfl dX5_readPolicy_137 ?_
    refine lv_iload_n hx hb dX5_readPolicy_140 rfl (lv_at hl 1 rfl) ?_
    refine lv_iconst (v := 4) hx hb dX5_readPolicy_141 rfl ?_
    refine lv_iadd hx hb dX5_readPolicy_142 ?_
    refine lv_aload_n hx hb dX5_readPolicy_143 rfl (lv_at hl 2 rfl) ?_
    refine lv_iconst (v := 0) hx hb dX5_readPolicy_144 rfl ?_
    refine lv_bipush (v := 99) hx hb dX5_readPolicy_145 (by decide) ?_
    refine lv_iconst (v := (-1)) hx hb dX5_readPolicy_147 rfl ?_
    obtain ⟨t_41, h_42, hf⟩ := sn_bd hf
    refine sn_callVi (rest := [.int (y_2 + (4 : Int32)), .ref (ad (8 + 5))]) C hw (ctX5_number l  h_42) kl_RX5_60 layC_17 rfl rfl rfl rfl (Nat.le_of_ble_eq_true rfl) dX5_readPolicy_148 hl.1 (fun H locs hw => ?_)
    obtain ⟨g_43, hf⟩ := sn_gdE hf
    refine sn_iast C hw (sn_look sn_isX2_8 (k := 5) rfl) g_43 dX5_readPolicy_151 (fun H locs hw => ?_)
    obtain ⟨σ_44, e_45, hf⟩ := sn_ltE hf
    rw [← e_45] at hw
    refine lv_aload_n hx hb dX5_readPolicy_152 rfl (lv_at hl 2 rfl) ?_
    obtain ⟨t_46, h_47, hf⟩ := sn_bd hf
    refine sn_callVv (rest := []) C hw (ctX5_sign l  h_47) kl_RX5_72 layC_17 rfl rfl rfl rfl (Nat.le_of_ble_eq_true rfl) dX5_readPolicy_153 hl.1 (fun H locs hw => ?_)
    refine lv_aload_n hx hb dX5_readPolicy_156 rfl (lv_at hl 2 rfl) ?_
    obtain ⟨g_48, hf⟩ := sn_gdE hf
    refine sn_getR (r := 8) C hw fd_RX5_22 layC_17 rfl (by simpa using g_48) dX5_readPolicy_157 ?_
    refine sn_getC (r := (8 + 1)) C hw fd_RX5_49 (sn_look sn_isX2_8 (k := 0) rfl) rfl dX5_readPolicy_160 ?_
    refine lv_bipush (v := 8) hx hb dX5_readPolicy_163 (by decide) ?_
    refine lv_iload_n hx hb dX5_readPolicy_165 rfl (lv_at hl 3 rfl) ?_
    refine lv_iconst (v := 1) hx hb dX5_readPolicy_166 rfl ?_
    refine lv_iadd hx hb dX5_readPolicy_167 ?_
    obtain ⟨g_49, hf⟩ := sn_gdE hf
    refine sn_iast C hw (sn_look sn_isX2_8 (k := 1) rfl) g_49 dX5_readPolicy_168 (fun H locs hw => ?_)
    obtain ⟨σ_50, e_51, hf⟩ := sn_ltE hf
    rw [← e_51] at hw
    cases hf
    exact kr _ _ _ _ hw rfl dX5_readPolicy_169
  · have hf := sn_el c_1 hf
    refine lv_aload_n hx hb dX5_readPolicy_6 rfl (lv_at hl 0 rfl) ?_
    refine lv_iconst (v := 3) hx hb dX5_readPolicy_7 rfl ?_
    obtain ⟨t_52, h_53, hf⟩ := sn_bd hf
    refine sn_callVv (rest := []) C hw (ctX5_blame l  h_53) kl_RX5_100 layC_17 rfl rfl rfl rfl (Nat.le_of_ble_eq_true rfl) dX5_readPolicy_8 hl.1 (fun H locs hw => ?_)
    cases hf
    exact kr _ _ _ _ hw rfl dX5_readPolicy_11
theorem ctX5_readPolicy (l : Launch) {σ : sn_S} {x1 : Int32}  {o : sn_S} (hf : fX5_readPolicy σ x1 = some o) : sn_M l yX5_readPolicy cX5_readPolicy 4 none rmX5_readPolicy layC (fun ad => [.ref (ad 17), .int x1]) σ none o :=
  sn_met (by decide) (fun _ => Nat.le_of_ble_eq_true rfl) (fun p e s m args below meth c ls D ct ad A C hw hl => wX5_readPolicy_in C  hf (fun H locs ls pc hw ok hd => sn_vret C hw hd) _ _ _ hw hl)
-- X5_readLine
abbrev rmX5_readLine : Room := { frames := 7, cells := 0, slots := 0, locals := 151 }
def fX5_readLine (σ : sn_S) : Option sn_S :=
  ((fX5_isWord σ 6).bind fun t_1 => (if t_1 = 0 then
  ((fX5_isWord σ 7).bind fun t_4 => (if t_4 = 0 then
  ((fX5_isWord σ 8).bind fun t_7 => (if t_7 = 0 then
  ((fX5_isWord σ 9).bind fun t_10 => (if t_10 = 0 then
  ((fX5_blame σ (1 : Int32)).bind fun t_13 => (some t_13))
  else
  (sn_gd (sn_R σ 17 7 == some 8) (sn_gd (sn_in (8 : Int32) 11) ((fX5_readPolicy σ (sn_I σ (8 + 1) (8 : Int32).toNatClampNeg)).bind fun t_17 => (some t_17))))))
  else
  (sn_gd (sn_R σ 17 7 == some 8) (sn_gd (sn_in (7 : Int32) 11) ((fX5_readNet σ (sn_I σ (8 + 1) (7 : Int32).toNatClampNeg)).bind fun t_21 => (some t_21))))))
  else
  (sn_gd (sn_R σ 17 7 == some 8) (sn_gd (sn_in (6 : Int32) 11) ((fX5_readGust σ (sn_I σ (8 + 1) (6 : Int32).toNatClampNeg)).bind fun t_25 => (some t_25))))))
  else
  (sn_gd (sn_R σ 17 7 == some 8) (sn_gd (sn_in (5 : Int32) 11) ((fX5_readNose σ (sn_I σ (8 + 1) (5 : Int32).toNatClampNeg)).bind fun t_29 => (some t_29))))))
theorem wX5_readLine_in (C : sn_C p s m args meth c RX5 cX5_readLine 1 none D ct ad layC A) {σ : sn_S}  {o : sn_S} (hf : fX5_readLine σ = some o) (kr : sn_Kr p l e rmX5_readLine s m args below meth c Q D ct ad layC A cX5_readLine .return_ (true) o []) : sn_At p l e rmX5_readLine s m args below meth c Q D ct ad layC A 1 σ 0 [(0, .ref (ad 17))] [] := by
  intro H locs ls hw hl
  have hx := C.1
  have hb := C.2.1
  unfold fX5_readLine at hf
  refine lv_aload_n hx hb dX5_readLine_0 rfl (lv_at hl 0 rfl) ?_
  refine va_ldcS (tx := "nose") (q := ad (1000 + 6)) hx hb C.2.2.2.1 (sn_sr_6 C.2.2.2.2.2.2.2.2.2) dX5_readLine_1 ?_
  obtain ⟨t_1, h_2, hf⟩ := sn_bd hf
  refine sn_callVi (rest := []) C hw (ctX5_isWord l  h_2) kl_RX5_77 layC_17 rfl rfl rfl rfl (Nat.le_of_ble_eq_true rfl) dX5_readLine_3 hl.1 (fun H locs hw => ?_)
  refine lv_if_eq (tgt := 25) hx hb dX5_readLine_6 (by decide) (fun c_3 => ?_) (fun c_3 => ?_)
  · have hf := sn_if c_3 hf
    refine lv_aload_n hx hb dX5_readLine_25 rfl (lv_at hl 0 rfl) ?_
    refine va_ldcS (tx := "gust") (q := ad (1000 + 7)) hx hb C.2.2.2.1 (sn_sr_7 C.2.2.2.2.2.2.2.2.2) dX5_readLine_26 ?_
    obtain ⟨t_4, h_5, hf⟩ := sn_bd hf
    refine sn_callVi (rest := []) C hw (ctX5_isWord l  h_5) kl_RX5_77 layC_17 rfl rfl rfl rfl (Nat.le_of_ble_eq_true rfl) dX5_readLine_28 hl.1 (fun H locs hw => ?_)
    refine lv_if_eq (tgt := 51) hx hb dX5_readLine_31 (by decide) (fun c_6 => ?_) (fun c_6 => ?_)
    · have hf := sn_if c_6 hf
      refine lv_aload_n hx hb dX5_readLine_51 rfl (lv_at hl 0 rfl) ?_
      refine va_ldcS (tx := "net") (q := ad (1000 + 8)) hx hb C.2.2.2.1 (sn_sr_8 C.2.2.2.2.2.2.2.2.2) dX5_readLine_52 ?_
      obtain ⟨t_7, h_8, hf⟩ := sn_bd hf
      refine sn_callVi (rest := []) C hw (ctX5_isWord l  h_8) kl_RX5_77 layC_17 rfl rfl rfl rfl (Nat.le_of_ble_eq_true rfl) dX5_readLine_54 hl.1 (fun H locs hw => ?_)
      refine lv_if_eq (tgt := 77) hx hb dX5_readLine_57 (by decide) (fun c_9 => ?_) (fun c_9 => ?_)
      · have hf := sn_if c_9 hf
        refine lv_aload_n hx hb dX5_readLine_77 rfl (lv_at hl 0 rfl) ?_
        refine va_ldcS (tx := "policy") (q := ad (1000 + 9)) hx hb C.2.2.2.1 (sn_sr_9 C.2.2.2.2.2.2.2.2.2) dX5_readLine_78 ?_
        obtain ⟨t_10, h_11, hf⟩ := sn_bd hf
        refine sn_callVi (rest := []) C hw (ctX5_isWord l  h_11) kl_RX5_77 layC_17 rfl rfl rfl rfl (Nat.le_of_ble_eq_true rfl) dX5_readLine_80 hl.1 (fun H locs hw => ?_)
        refine lv_if_eq (tgt := 103) hx hb dX5_readLine_83 (by decide) (fun c_12 => ?_) (fun c_12 => ?_)
        · have hf := sn_if c_12 hf
          refine lv_aload_n hx hb dX5_readLine_103 rfl (lv_at hl 0 rfl) ?_
          refine lv_iconst (v := 1) hx hb dX5_readLine_104 rfl ?_
          obtain ⟨t_13, h_14, hf⟩ := sn_bd hf
          refine sn_callVv (rest := []) C hw (ctX5_blame l  h_14) kl_RX5_100 layC_17 rfl rfl rfl rfl (Nat.le_of_ble_eq_true rfl) dX5_readLine_105 hl.1 (fun H locs hw => ?_)
          cases hf
          exact kr _ _ _ _ hw rfl dX5_readLine_108
        · have hf := sn_el c_12 hf
          refine lv_aload_n hx hb dX5_readLine_86 rfl (lv_at hl 0 rfl) ?_
          refine lv_aload_n hx hb dX5_readLine_87 rfl (lv_at hl 0 rfl) ?_
          obtain ⟨g_15, hf⟩ := sn_gdE hf
          refine sn_getR (r := 8) C hw fd_RX5_22 layC_17 rfl (by simpa using g_15) dX5_readLine_88 ?_
          refine sn_getC (r := (8 + 1)) C hw fd_RX5_49 (sn_look sn_isX2_8 (k := 0) rfl) rfl dX5_readLine_91 ?_
          refine lv_bipush (v := 8) hx hb dX5_readLine_94 (by decide) ?_
          obtain ⟨g_16, hf⟩ := sn_gdE hf
          refine sn_iald C hw (sn_look sn_isX2_8 (k := 1) rfl) g_16 dX5_readLine_96 ?_
          obtain ⟨t_17, h_18, hf⟩ := sn_bd hf
          refine sn_callVv (rest := []) C hw (ctX5_readPolicy l  h_18) kl_RX5_97 layC_17 rfl rfl rfl rfl (Nat.le_of_ble_eq_true rfl) dX5_readLine_97 hl.1 (fun H locs hw => ?_)
          refine lv_goto (tgt := 108) hx hb dX5_readLine_100 (by decide) ?_
          cases hf
          exact kr _ _ _ _ hw rfl dX5_readLine_108
      · have hf := sn_el c_9 hf
        refine lv_aload_n hx hb dX5_readLine_60 rfl (lv_at hl 0 rfl) ?_
        refine lv_aload_n hx hb dX5_readLine_61 rfl (lv_at hl 0 rfl) ?_
        obtain ⟨g_19, hf⟩ := sn_gdE hf
        refine sn_getR (r := 8) C hw fd_RX5_22 layC_17 rfl (by simpa using g_19) dX5_readLine_62 ?_
        refine sn_getC (r := (8 + 1)) C hw fd_RX5_49 (sn_look sn_isX2_8 (k := 0) rfl) rfl dX5_readLine_65 ?_
        refine lv_bipush (v := 7) hx hb dX5_readLine_68 (by decide) ?_
        obtain ⟨g_20, hf⟩ := sn_gdE hf
        refine sn_iald C hw (sn_look sn_isX2_8 (k := 1) rfl) g_20 dX5_readLine_70 ?_
        obtain ⟨t_21, h_22, hf⟩ := sn_bd hf
        refine sn_callVv (rest := []) C hw (ctX5_readNet l  h_22) kl_RX5_92 layC_17 rfl rfl rfl rfl (Nat.le_of_ble_eq_true rfl) dX5_readLine_71 hl.1 (fun H locs hw => ?_)
        refine lv_goto (tgt := 108) hx hb dX5_readLine_74 (by decide) ?_
        cases hf
        exact kr _ _ _ _ hw rfl dX5_readLine_108
    · have hf := sn_el c_6 hf
      refine lv_aload_n hx hb dX5_readLine_34 rfl (lv_at hl 0 rfl) ?_
      refine lv_aload_n hx hb dX5_readLine_35 rfl (lv_at hl 0 rfl) ?_
      obtain ⟨g_23, hf⟩ := sn_gdE hf
      refine sn_getR (r := 8) C hw fd_RX5_22 layC_17 rfl (by simpa using g_23) dX5_readLine_36 ?_
      refine sn_getC (r := (8 + 1)) C hw fd_RX5_49 (sn_look sn_isX2_8 (k := 0) rfl) rfl dX5_readLine_39 ?_
      refine lv_bipush (v := 6) hx hb dX5_readLine_42 (by decide) ?_
      obtain ⟨g_24, hf⟩ := sn_gdE hf
      refine sn_iald C hw (sn_look sn_isX2_8 (k := 1) rfl) g_24 dX5_readLine_44 ?_
      obtain ⟨t_25, h_26, hf⟩ := sn_bd hf
      refine sn_callVv (rest := []) C hw (ctX5_readGust l  h_26) kl_RX5_87 layC_17 rfl rfl rfl rfl (Nat.le_of_ble_eq_true rfl) dX5_readLine_45 hl.1 (fun H locs hw => ?_)
      refine lv_goto (tgt := 108) hx hb dX5_readLine_48 (by decide) ?_
      cases hf
      exact kr _ _ _ _ hw rfl dX5_readLine_108
  · have hf := sn_el c_3 hf
    refine lv_aload_n hx hb dX5_readLine_9 rfl (lv_at hl 0 rfl) ?_
    refine lv_aload_n hx hb dX5_readLine_10 rfl (lv_at hl 0 rfl) ?_
    obtain ⟨g_27, hf⟩ := sn_gdE hf
    refine sn_getR (r := 8) C hw fd_RX5_22 layC_17 rfl (by simpa using g_27) dX5_readLine_11 ?_
    refine sn_getC (r := (8 + 1)) C hw fd_RX5_49 (sn_look sn_isX2_8 (k := 0) rfl) rfl dX5_readLine_14 ?_
    refine lv_iconst (v := 5) hx hb dX5_readLine_17 rfl ?_
    obtain ⟨g_28, hf⟩ := sn_gdE hf
    refine sn_iald C hw (sn_look sn_isX2_8 (k := 1) rfl) g_28 dX5_readLine_18 ?_
    obtain ⟨t_29, h_30, hf⟩ := sn_bd hf
    refine sn_callVv (rest := []) C hw (ctX5_readNose l  h_30) kl_RX5_81 layC_17 rfl rfl rfl rfl (Nat.le_of_ble_eq_true rfl) dX5_readLine_19 hl.1 (fun H locs hw => ?_)
    refine lv_goto (tgt := 108) hx hb dX5_readLine_22 (by decide) ?_
    cases hf
    exact kr _ _ _ _ hw rfl dX5_readLine_108
theorem ctX5_readLine (l : Launch) {σ : sn_S}  {o : sn_S} (hf : fX5_readLine σ = some o) : sn_M l yX5_readLine cX5_readLine 1 none rmX5_readLine layC (fun ad => [.ref (ad 17)]) σ none o :=
  sn_met (by decide) (fun _ => Nat.le_of_ble_eq_true rfl) (fun p e s m args below meth c ls D ct ad A C hw hl => wX5_readLine_in C  hf (fun H locs ls pc hw ok hd => sn_vret C hw hd) _ _ _ hw hl)
-- X5_read
abbrev rmX5_read : Room := { frames := 8, cells := 0, slots := 0, locals := 171 }
def BX5_read_88 (σ : sn_S) (q1 : Nat) : Option (sn_S) :=
  (some σ)
def BX5_read_69 (σ : sn_S) (q1 : Nat) (x2 : Int32) : Option ((sn_S × Int32) ⊕ (sn_S)) :=
  (sn_gd (sn_R σ 17 7 == some 8) (sn_gd (sn_in (10 : Int32) 11) (sn_lt (sn_pI σ (8 + 1) (10 : Int32).toNatClampNeg (x2 + (1 : Int32))) fun σ_3 => (sn_lt (x2 + 1) fun y_5 => (some (.inl (σ_3, y_5)))))))
def BX5_read_33 (σ : sn_S) (q1 : Nat) (x2 : Int32) : Option ((sn_S × Int32) ⊕ (sn_S)) :=
  (if (900 : Int32) ≤ x2 then
  (some (.inr (σ)))
  else
  (if (sn_I σ 17 2) = 0 then
  (if (sn_I σ 17 6) = 0 then
  (some (.inr (σ)))
  else
  (if x2 = 0 then
  ((fX5_readHouse σ).bind fun t_7 => (BX5_read_69 t_7 q1 x2))
  else
  ((fX5_readLine σ).bind fun t_5 => (BX5_read_69 t_5 q1 x2))))
  else
  (some (.inr (σ)))))
def LX5_read_33 (q1 : Nat) (s : sn_S × Int32) : Option ((sn_S × Int32) ⊕ (sn_S)) := BX5_read_33 s.1 q1 s.2
def fX5_read (σ : sn_S) (q1 : Nat) : Option sn_S :=
  (sn_lt (sn_pR σ 17 7 (some q1)) fun σ_1 => (sn_gd (sn_R σ_1 17 7 == some 8) ((fX2_clear σ_1 8).bind fun t_4 => (sn_lt (sn_pI t_4 17 2 (0 : Int32)) fun σ_6 => (sn_lt (sn_pI σ_6 17 3 (-1 : Int32)) fun σ_8 => (sn_lt (sn_pI σ_8 17 5 (0 : Int32)) fun σ_10 => ((fX5_step σ_10).bind fun t_12 => ((sn_it (LX5_read_33 q1) 5000 (t_12, (0 : Int32))).bind fun t_14 => (BX5_read_88 t_14 q1)))))))))
theorem wX5_read_88 (C : sn_C p s m args meth c RX5 cX5_read 3 none D ct ad layC A) {σ : sn_S} {q1 : Nat} (h1 : sn_isX2 q1) {o : sn_S} (hf : BX5_read_88 σ q1 = some o) (kr : sn_Kr p l e rmX5_read s m args below meth c Q D ct ad layC A cX5_read .return_ (true) o []) : sn_At p l e rmX5_read s m args below meth c Q D ct ad layC A 3 σ 88 [] [] := by
  intro H locs ls hw hl
  have hx := C.1
  have hb := C.2.1
  unfold BX5_read_88 at hf
  cases hf
  exact kr _ _ _ _ hw rfl dX5_read_88
theorem wX5_read_69 (C : sn_C p s m args meth c RX5 cX5_read 3 none D ct ad layC A) {σ : sn_S} {q1 : Nat} {x2 : Int32} (h1 : sn_isX2 q1) {o : (sn_S × Int32) ⊕ (sn_S)} (hf : BX5_read_69 σ q1 x2 = some o) (kc : ∀ v, o = .inl v → sn_At p l e rmX5_read s m args below meth c Q D ct ad layC A 3 v.1 33 [(0, .ref (ad 17)), (2, .int v.2)] []) (kx : ∀ v, o = .inr v → sn_At p l e rmX5_read s m args below meth c Q D ct ad layC A 3 v 88 [] []) : sn_At p l e rmX5_read s m args below meth c Q D ct ad layC A 3 σ 69 [(0, .ref (ad 17)), (2, .int x2)] [] := by
  intro H locs ls hw hl
  have hx := C.1
  have hb := C.2.1
  unfold BX5_read_69 at hf
  refine lv_aload_n hx hb dX5_read_69 rfl (lv_at hl 0 rfl) ?_
  obtain ⟨g_1, hf⟩ := sn_gdE hf
  refine sn_getR (r := 8) C hw fd_RX5_22 layC_17 rfl (by simpa using g_1) dX5_read_70 ?_
  refine sn_getC (r := (8 + 1)) C hw fd_RX5_49 (sn_look sn_isX2_8 (k := 0) rfl) rfl dX5_read_73 ?_
  refine lv_bipush (v := 10) hx hb dX5_read_76 (by decide) ?_
  refine lv_iload_n hx hb dX5_read_78 rfl (lv_at hl 1 rfl) ?_
  refine lv_iconst (v := 1) hx hb dX5_read_79 rfl ?_
  refine lv_iadd hx hb dX5_read_80 ?_
  obtain ⟨g_2, hf⟩ := sn_gdE hf
  refine sn_iast C hw (sn_look sn_isX2_8 (k := 1) rfl) g_2 dX5_read_81 (fun H locs hw => ?_)
  obtain ⟨σ_3, e_4, hf⟩ := sn_ltE hf
  rw [← e_4] at hw
  obtain ⟨y_5, e_6, hf⟩ := sn_ltE hf
  refine lv_iinc (v := y_5) (lv' := [(2, .int y_5), (0, .ref (ad 17))]) hx hb dX5_read_82 hl (k := 1) rfl (by rw [e_6]; rfl) (by decide) rfl (fun ls hl => ?_)
  refine lv_goto (tgt := 33) hx hb dX5_read_85 (by decide) ?_
  cases hf
  exact kc _ rfl _ _ _ hw (lv_sub hl [1, 0] rfl)
theorem wX5_read_33 (C : sn_C p s m args meth c RX5 cX5_read 3 none D ct ad layC A) {σ : sn_S} {q1 : Nat} {x2 : Int32} (h1 : sn_isX2 q1) {o : (sn_S × Int32) ⊕ (sn_S)} (hf : BX5_read_33 σ q1 x2 = some o) (kc : ∀ v, o = .inl v → sn_At p l e rmX5_read s m args below meth c Q D ct ad layC A 3 v.1 33 [(0, .ref (ad 17)), (2, .int v.2)] []) (kx : ∀ v, o = .inr v → sn_At p l e rmX5_read s m args below meth c Q D ct ad layC A 3 v 88 [] []) : sn_At p l e rmX5_read s m args below meth c Q D ct ad layC A 3 σ 33 [(0, .ref (ad 17)), (2, .int x2)] [] := by
  intro H locs ls hw hl
  have hx := C.1
  have hb := C.2.1
  unfold BX5_read_33 at hf
  refine lv_iload_n hx hb dX5_read_33 rfl (lv_at hl 1 rfl) ?_
  refine lv_sipush (v := 900) hx hb dX5_read_34 (by decide) ?_
  refine lv_icmp_ge (tgt := 88) hx hb dX5_read_37 (by decide) (fun c_1 => ?_) (fun c_1 => ?_)
  · have hf := sn_if c_1 hf
    cases hf
    exact kx _ rfl _ _ _ hw (lv_sub hl [] rfl)
  · have hf := sn_el c_1 hf
    refine lv_aload_n hx hb dX5_read_40 rfl (lv_at hl 0 rfl) ?_
    refine sn_getI C hw fd_RX5_31 layC_17 rfl dX5_read_41 ?_
    refine lv_if_ne (tgt := 88) hx hb dX5_read_44 (by decide) (fun c_2 => ?_) (fun c_2 => ?_)
    · have hf := sn_el c_2 hf
      cases hf
      exact kx _ rfl _ _ _ hw (lv_sub hl [] rfl)
    · have hf := sn_if c_2 hf
      refine lv_aload_n hx hb dX5_read_47 rfl (lv_at hl 0 rfl) ?_
      refine sn_getI C hw fd_RX5_40 layC_17 rfl dX5_read_48 ?_
      refine lv_if_eq (tgt := 88) hx hb dX5_read_51 (by decide) (fun c_3 => ?_) (fun c_3 => ?_)
      · have hf := sn_if c_3 hf
        cases hf
        exact kx _ rfl _ _ _ hw (lv_sub hl [] rfl)
      · have hf := sn_el c_3 hf
        refine lv_iload_n hx hb dX5_read_54 rfl (lv_at hl 1 rfl) ?_
        refine lv_if_ne (tgt := 65) hx hb dX5_read_55 (by decide) (fun c_4 => ?_) (fun c_4 => ?_)
        · have hf := sn_el c_4 hf
          refine lv_aload_n hx hb dX5_read_65 rfl (lv_at hl 0 rfl) ?_
          obtain ⟨t_5, h_6, hf⟩ := sn_bd hf
          refine sn_callVv (rest := []) C hw (ctX5_readLine l  h_6) kl_RX5_46 layC_17 rfl rfl rfl rfl (Nat.le_of_ble_eq_true rfl) dX5_read_66 hl.1 (fun H locs hw => ?_)
          exact wX5_read_69 C h1 hf kc kx _ _ _ hw (lv_sub hl [0, 1] rfl)
        · have hf := sn_if c_4 hf
          refine lv_aload_n hx hb dX5_read_58 rfl (lv_at hl 0 rfl) ?_
          obtain ⟨t_7, h_8, hf⟩ := sn_bd hf
          refine sn_callVv (rest := []) C hw (ctX5_readHouse l  h_8) kl_RX5_43 layC_17 rfl rfl rfl rfl (Nat.le_of_ble_eq_true rfl) dX5_read_59 hl.1 (fun H locs hw => ?_)
          refine lv_goto (tgt := 69) hx hb dX5_read_62 (by decide) ?_
          exact wX5_read_69 C h1 hf kc kx _ _ _ hw (lv_sub hl [0, 1] rfl)
theorem wX5_read_L33 (C : sn_C p s m args meth c RX5 cX5_read 3 none D ct ad layC A) {q1 : Nat}  (h1 : sn_isX2 q1) {z : sn_S × Int32} {t : sn_S} (h : sn_it (LX5_read_33 q1) 5000 z = some t) (kx : ∀ v, t = v → sn_At p l e rmX5_read s m args below meth c Q D ct ad layC A 3 v 88 [] []) : sn_At p l e rmX5_read s m args below meth c Q D ct ad layC A 3 z.1 33 [(0, .ref (ad 17)), (2, .int z.2)] [] :=
  sn_loop (f := LX5_read_33 q1) (G := fun z => sn_At p l e rmX5_read s m args below meth c Q D ct ad layC A 3 z.1 33 [(0, .ref (ad 17)), (2, .int z.2)] []) (E := fun t => (∀ v, t = v → sn_At p l e rmX5_read s m args below meth c Q D ct ad layC A 3 v 88 [] []) ∧ True) (fun z o hf k1 k2 => wX5_read_33 C h1 hf (fun v e => k1 v e) (fun v e => (k2 _ e).1 v rfl)) 5000 z t h ⟨kx, trivial⟩
theorem wX5_read_in (C : sn_C p s m args meth c RX5 cX5_read 3 none D ct ad layC A) {σ : sn_S} {q1 : Nat} (h1 : sn_isX2 q1) {o : sn_S} (hf : fX5_read σ q1 = some o) (kr : sn_Kr p l e rmX5_read s m args below meth c Q D ct ad layC A cX5_read .return_ (true) o []) : sn_At p l e rmX5_read s m args below meth c Q D ct ad layC A 3 σ 0 [(0, .ref (ad 17)), (1, .ref (ad q1))] [] := by
  intro H locs ls hw hl
  have hx := C.1
  have hb := C.2.1
  unfold fX5_read at hf
  refine lv_aload_n hx hb dX5_read_0 rfl (lv_at hl 0 rfl) ?_
  refine lv_aload_n hx hb dX5_read_1 rfl (lv_at hl 1 rfl) ?_
  refine sn_putR C hw fp_RX5_22 layC_17 rfl dX5_read_2 (fun H locs hw => ?_)
  obtain ⟨σ_1, e_2, hf⟩ := sn_ltE hf
  rw [← e_2] at hw
  refine lv_aload_n hx hb dX5_read_5 rfl (lv_at hl 0 rfl) ?_
  obtain ⟨g_3, hf⟩ := sn_gdE hf
  refine sn_getR (r := 8) C hw fd_RX5_22 layC_17 rfl (by simpa using g_3) dX5_read_6 ?_
  obtain ⟨t_4, h_5, hf⟩ := sn_bd hf
  refine sn_callVv (rest := []) C hw (ctX2_clear l sn_isX2_8 h_5) kl_RX5_26 (sn_look sn_isX2_8 (k := 0) rfl) rfl rfl rfl rfl (Nat.le_of_ble_eq_true rfl) dX5_read_9 hl.1 (fun H locs hw => ?_)
  refine lv_aload_n hx hb dX5_read_12 rfl (lv_at hl 0 rfl) ?_
  refine lv_iconst (v := 0) hx hb dX5_read_13 rfl ?_
  refine sn_putI C hw fp_RX5_31 layC_17 rfl dX5_read_14 (fun H locs hw => ?_)
  obtain ⟨σ_6, e_7, hf⟩ := sn_ltE hf
  rw [← e_7] at hw
  refine lv_aload_n hx hb dX5_read_17 rfl (lv_at hl 0 rfl) ?_
  refine lv_iconst (v := (-1)) hx hb dX5_read_18 rfl ?_
  refine sn_putI C hw fp_RX5_15 layC_17 rfl dX5_read_19 (fun H locs hw => ?_)
  obtain ⟨σ_8, e_9, hf⟩ := sn_ltE hf
  rw [← e_9] at hw
  refine lv_aload_n hx hb dX5_read_22 rfl (lv_at hl 0 rfl) ?_
  refine lv_iconst (v := 0) hx hb dX5_read_23 rfl ?_
  refine sn_putI C hw fp_RX5_34 layC_17 rfl dX5_read_24 (fun H locs hw => ?_)
  obtain ⟨σ_10, e_11, hf⟩ := sn_ltE hf
  rw [← e_11] at hw
  refine lv_aload_n hx hb dX5_read_27 rfl (lv_at hl 0 rfl) ?_
  obtain ⟨t_12, h_13, hf⟩ := sn_bd hf
  refine sn_callVv (rest := []) C hw (ctX5_step l  h_13) kl_RX5_37 layC_17 rfl rfl rfl rfl (Nat.le_of_ble_eq_true rfl) dX5_read_28 hl.1 (fun H locs hw => ?_)
  refine lv_iconst (v := 0) hx hb dX5_read_31 rfl ?_
  refine lv_istore_n (lv' := [(2, .int (0 : Int32)), (0, .ref (ad 17)), (1, .ref (ad q1))]) hx hb dX5_read_32 rfl hl (by decide) rfl (fun ls hl => ?_)
  obtain ⟨t_14, h_15, hf⟩ := sn_bd hf
  exact wX5_read_L33 C h1 h_15 (fun v e => by cases e; exact wX5_read_88 C h1 hf kr) _ _ _ hw (lv_sub hl [1, 0] rfl)
theorem ctX5_read (l : Launch) {σ : sn_S} {q1 : Nat} (h1 : sn_isX2 q1) {o : sn_S} (hf : fX5_read σ q1 = some o) : sn_M l yX5_read cX5_read 3 none rmX5_read layC (fun ad => [.ref (ad 17), .ref (ad q1)]) σ none o :=
  sn_met (by decide) (fun _ => Nat.le_of_ble_eq_true rfl) (fun p e s m args below meth c ls D ct ad A C hw hl => wX5_read_in C h1 hf (fun H locs ls pc hw ok hd => sn_vret C hw hd) _ _ _ hw hl)
-- X6_isSlot
abbrev rmX6_isSlot : Room := { frames := 0, cells := 0, slots := 0, locals := 0 }
def fX6_isSlot (x0 : Int32) : Option Int32 :=
  (if x0 < 0 then
  (sn_gd (sn_b01 (0 : Int32)) (some (0 : Int32)))
  else
  (if (4 : Int32) ≤ x0 then
  (sn_gd (sn_b01 (0 : Int32)) (some (0 : Int32)))
  else
  (sn_gd (sn_b01 (1 : Int32)) (some (1 : Int32)))))
theorem wX6_isSlot_in (C : sn_C p s m args meth c RX6 cX6_isSlot 1 (some .boolean) D ct ad layC A) {σ : sn_S} {x0 : Int32}  {o : Int32} (hf : fX6_isSlot x0 = some o) (kr : sn_Kr p l e rmX6_isSlot s m args below meth c Q D ct ad layC A cX6_isSlot .ireturn (sn_b01 o) σ [.int o]) : sn_At p l e rmX6_isSlot s m args below meth c Q D ct ad layC A 1 σ 0 [(0, .int x0)] [] := by
  intro H locs ls hw hl
  have hx := C.1
  have hb := C.2.1
  unfold fX6_isSlot at hf
  refine lv_iload_n hx hb dX6_isSlot_0 rfl (lv_at hl 0 rfl) ?_
  refine lv_if_lt (tgt := 13) hx hb dX6_isSlot_1 (by decide) (fun c_1 => ?_) (fun c_1 => ?_)
  · have hf := sn_if c_1 hf
    refine lv_iconst (v := 0) hx hb dX6_isSlot_13 rfl ?_
    obtain ⟨g_2, hf⟩ := sn_gdE hf
    cases hf
    exact kr _ _ _ _ hw g_2 dX6_isSlot_14
  · have hf := sn_el c_1 hf
    refine lv_iload_n hx hb dX6_isSlot_4 rfl (lv_at hl 0 rfl) ?_
    refine lv_iconst (v := 4) hx hb dX6_isSlot_5 rfl ?_
    refine lv_icmp_ge (tgt := 13) hx hb dX6_isSlot_6 (by decide) (fun c_3 => ?_) (fun c_3 => ?_)
    · have hf := sn_if c_3 hf
      refine lv_iconst (v := 0) hx hb dX6_isSlot_13 rfl ?_
      obtain ⟨g_4, hf⟩ := sn_gdE hf
      cases hf
      exact kr _ _ _ _ hw g_4 dX6_isSlot_14
    · have hf := sn_el c_3 hf
      refine lv_iconst (v := 1) hx hb dX6_isSlot_9 rfl ?_
      refine lv_goto (tgt := 14) hx hb dX6_isSlot_10 (by decide) ?_
      obtain ⟨g_5, hf⟩ := sn_gdE hf
      cases hf
      exact kr _ _ _ _ hw g_5 dX6_isSlot_14
theorem ctX6_isSlot (l : Launch) {σ : sn_S} {x0 : Int32}  {o : Int32} (hf : fX6_isSlot x0 = some o) : sn_M l yX6_isSlot cX6_isSlot 1 (some .boolean) rmX6_isSlot layC (fun ad => [.int x0]) σ (some (fun _ => .int o)) σ :=
  sn_met (by decide) (fun _ => Nat.le_of_ble_eq_true rfl) (fun p e s m args below meth c ls D ct ad A C hw hl => wX6_isSlot_in C  hf (fun H locs ls pc hw ok hd => sn_zret C hw ok hd) _ _ _ hw hl)
-- X6_has
abbrev rmX6_has : Room := { frames := 0, cells := 0, slots := 0, locals := 0 }
def fX6_has (σ : sn_S) (x1 : Int32) : Option Int32 :=
  (sn_gd (sn_in x1 4) (if (sn_I σ 26 x1.toNatClampNeg) = (-1 : Int32) then
  (sn_gd (sn_b01 (0 : Int32)) (some (0 : Int32)))
  else
  (sn_gd (sn_b01 (1 : Int32)) (some (1 : Int32)))))
theorem wX6_has_in (C : sn_C p s m args meth c RX6 cX6_has 2 (some .boolean) D ct ad layC A) {σ : sn_S} {x1 : Int32}  {o : Int32} (hf : fX6_has σ x1 = some o) (kr : sn_Kr p l e rmX6_has s m args below meth c Q D ct ad layC A cX6_has .ireturn (sn_b01 o) σ [.int o]) : sn_At p l e rmX6_has s m args below meth c Q D ct ad layC A 2 σ 0 [(0, .ref (ad 19)), (1, .int x1)] [] := by
  intro H locs ls hw hl
  have hx := C.1
  have hb := C.2.1
  unfold fX6_has at hf
  refine lv_aload_n hx hb dX6_has_0 rfl (lv_at hl 0 rfl) ?_
  refine sn_getC (r := 26) C hw fd_RX6_20 layC_19 rfl dX6_has_1 ?_
  refine lv_iload_n hx hb dX6_has_4 rfl (lv_at hl 1 rfl) ?_
  obtain ⟨g_1, hf⟩ := sn_gdE hf
  refine sn_iald C hw layC_26 g_1 dX6_has_5 ?_
  refine lv_iconst (v := (-1)) hx hb dX6_has_6 rfl ?_
  refine lv_icmp_eq (tgt := 14) hx hb dX6_has_7 (by decide) (fun c_2 => ?_) (fun c_2 => ?_)
  · have hf := sn_if c_2 hf
    refine lv_iconst (v := 0) hx hb dX6_has_14 rfl ?_
    obtain ⟨g_3, hf⟩ := sn_gdE hf
    cases hf
    exact kr _ _ _ _ hw g_3 dX6_has_15
  · have hf := sn_el c_2 hf
    refine lv_iconst (v := 1) hx hb dX6_has_10 rfl ?_
    refine lv_goto (tgt := 15) hx hb dX6_has_11 (by decide) ?_
    obtain ⟨g_4, hf⟩ := sn_gdE hf
    cases hf
    exact kr _ _ _ _ hw g_4 dX6_has_15
theorem ctX6_has (l : Launch) {σ : sn_S} {x1 : Int32}  {o : Int32} (hf : fX6_has σ x1 = some o) : sn_M l yX6_has cX6_has 2 (some .boolean) rmX6_has layC (fun ad => [.ref (ad 19), .int x1]) σ (some (fun _ => .int o)) σ :=
  sn_met (by decide) (fun _ => Nat.le_of_ble_eq_true rfl) (fun p e s m args below meth c ls D ct ad A C hw hl => wX6_has_in C  hf (fun H locs ls pc hw ok hd => sn_zret C hw ok hd) _ _ _ hw hl)
-- X6_howMany
abbrev rmX6_howMany : Room := { frames := 1, cells := 0, slots := 0, locals := 21 }
def BX6_howMany_31 (σ : sn_S) (x1 : Int32) : Option (Int32) :=
  (some x1)
def BX6_howMany_23 (σ : sn_S) (x1 : Int32) (x2 : Int32) (t0 : Int32) (t1 : Int32) : Option ((Int32 × Int32) ⊕ (Int32)) :=
  (sn_lt (t0 + t1) fun y_1 => (sn_lt (x2 + 1) fun y_3 => (some (.inl (y_1, y_3)))))
def BX6_howMany_4 (σ : sn_S) (x1 : Int32) (x2 : Int32) : Option ((Int32 × Int32) ⊕ (Int32)) :=
  (if (4 : Int32) ≤ x2 then
  (some (.inr (x1)))
  else
  ((fX6_has σ x2).bind fun t_2 => (if t_2 = 0 then
  (BX6_howMany_23 σ x1 x2 x1 (0 : Int32))
  else
  (BX6_howMany_23 σ x1 x2 x1 (1 : Int32)))))
def LX6_howMany_4 (σ : sn_S) (s : Int32 × Int32) : Option ((Int32 × Int32) ⊕ (Int32)) := BX6_howMany_4 σ s.1 s.2
def fX6_howMany (σ : sn_S) : Option Int32 :=
  ((sn_it (LX6_howMany_4 σ) 5000 ((0 : Int32), (0 : Int32))).bind fun t_1 => (BX6_howMany_31 σ t_1))
theorem wX6_howMany_31 (C : sn_C p s m args meth c RX6 cX6_howMany 3 (some .int) D ct ad layC A) {σ : sn_S} {x1 : Int32}  {o : Int32} (hf : BX6_howMany_31 σ x1 = some o) (kr : sn_Kr p l e rmX6_howMany s m args below meth c Q D ct ad layC A cX6_howMany .ireturn (true) σ [.int o]) : sn_At p l e rmX6_howMany s m args below meth c Q D ct ad layC A 3 σ 31 [(1, .int x1)] [] := by
  intro H locs ls hw hl
  have hx := C.1
  have hb := C.2.1
  unfold BX6_howMany_31 at hf
  refine lv_iload_n hx hb dX6_howMany_31 rfl (lv_at hl 0 rfl) ?_
  cases hf
  exact kr _ _ _ _ hw rfl dX6_howMany_32
theorem wX6_howMany_23 (C : sn_C p s m args meth c RX6 cX6_howMany 3 (some .int) D ct ad layC A) {σ : sn_S} {x1 : Int32} {x2 : Int32} {t0 : Int32} {t1 : Int32}  {o : (Int32 × Int32) ⊕ (Int32)} (hf : BX6_howMany_23 σ x1 x2 t0 t1 = some o) (kc : ∀ v, o = .inl v → sn_At p l e rmX6_howMany s m args below meth c Q D ct ad layC A 3 σ 4 [(0, .ref (ad 19)), (1, .int v.1), (2, .int v.2)] []) (kx : ∀ v, o = .inr v → sn_At p l e rmX6_howMany s m args below meth c Q D ct ad layC A 3 σ 31 [(1, .int v)] []) : sn_At p l e rmX6_howMany s m args below meth c Q D ct ad layC A 3 σ 23 [(0, .ref (ad 19)), (1, .int x1), (2, .int x2)] [.int t1, .int t0] := by
  intro H locs ls hw hl
  have hx := C.1
  have hb := C.2.1
  unfold BX6_howMany_23 at hf
  refine lv_iadd hx hb dX6_howMany_23 ?_
  obtain ⟨y_1, e_2, hf⟩ := sn_ltE hf
  refine lv_topi (fun y_1_ e_2_ => ?_)
  obtain rfl : y_1 = y_1_ := e_2.trans e_2_.symm
  refine lv_istore_n (lv' := [(1, .int y_1), (0, .ref (ad 19)), (2, .int x2)]) hx hb dX6_howMany_24 rfl hl (by decide) rfl (fun ls hl => ?_)
  obtain ⟨y_3, e_4, hf⟩ := sn_ltE hf
  refine lv_iinc (v := y_3) (lv' := [(2, .int y_3), (1, .int y_1), (0, .ref (ad 19))]) hx hb dX6_howMany_25 hl (k := 2) rfl (by rw [e_4]; rfl) (by decide) rfl (fun ls hl => ?_)
  refine lv_goto (tgt := 4) hx hb dX6_howMany_28 (by decide) ?_
  cases hf
  exact kc _ rfl _ _ _ hw (lv_sub hl [2, 1, 0] rfl)
theorem wX6_howMany_4 (C : sn_C p s m args meth c RX6 cX6_howMany 3 (some .int) D ct ad layC A) {σ : sn_S} {x1 : Int32} {x2 : Int32}  {o : (Int32 × Int32) ⊕ (Int32)} (hf : BX6_howMany_4 σ x1 x2 = some o) (kc : ∀ v, o = .inl v → sn_At p l e rmX6_howMany s m args below meth c Q D ct ad layC A 3 σ 4 [(0, .ref (ad 19)), (1, .int v.1), (2, .int v.2)] []) (kx : ∀ v, o = .inr v → sn_At p l e rmX6_howMany s m args below meth c Q D ct ad layC A 3 σ 31 [(1, .int v)] []) : sn_At p l e rmX6_howMany s m args below meth c Q D ct ad layC A 3 σ 4 [(0, .ref (ad 19)), (1, .int x1), (2, .int x2)] [] := by
  intro H locs ls hw hl
  have hx := C.1
  have hb := C.2.1
  unfold BX6_howMany_4 at hf
  refine lv_iload_n hx hb dX6_howMany_4 rfl (lv_at hl 2 rfl) ?_
  refine lv_iconst (v := 4) hx hb dX6_howMany_5 rfl ?_
  refine lv_icmp_ge (tgt := 31) hx hb dX6_howMany_6 (by decide) (fun c_1 => ?_) (fun c_1 => ?_)
  · have hf := sn_if c_1 hf
    cases hf
    exact kx _ rfl _ _ _ hw (lv_sub hl [1] rfl)
  · have hf := sn_el c_1 hf
    refine lv_iload_n hx hb dX6_howMany_9 rfl (lv_at hl 1 rfl) ?_
    refine lv_aload_n hx hb dX6_howMany_10 rfl (lv_at hl 0 rfl) ?_
    refine lv_iload_n hx hb dX6_howMany_11 rfl (lv_at hl 2 rfl) ?_
    obtain ⟨t_2, h_3, hf⟩ := sn_bd hf
    refine sn_callVi (rest := [.int x1]) C hw (ctX6_has l  h_3) kl_RX6_29 layC_19 rfl rfl rfl rfl (Nat.le_of_ble_eq_true rfl) dX6_howMany_12 hl.1 (fun H locs hw => ?_)
    refine lv_if_eq (tgt := 22) hx hb dX6_howMany_15 (by decide) (fun c_4 => ?_) (fun c_4 => ?_)
    · have hf := sn_if c_4 hf
      refine lv_iconst (v := 0) hx hb dX6_howMany_22 rfl ?_
      exact wX6_howMany_23 C  hf kc kx _ _ _ hw (lv_sub hl [0, 1, 2] rfl)
    · have hf := sn_el c_4 hf
      refine lv_iconst (v := 1) hx hb dX6_howMany_18 rfl ?_
      refine lv_goto (tgt := 23) hx hb dX6_howMany_19 (by decide) ?_
      exact wX6_howMany_23 C  hf kc kx _ _ _ hw (lv_sub hl [0, 1, 2] rfl)
theorem wX6_howMany_L4 (C : sn_C p s m args meth c RX6 cX6_howMany 3 (some .int) D ct ad layC A) {σ : sn_S}   {z : Int32 × Int32} {t : Int32} (h : sn_it (LX6_howMany_4 σ) 5000 z = some t) (kx : ∀ v, t = v → sn_At p l e rmX6_howMany s m args below meth c Q D ct ad layC A 3 σ 31 [(1, .int v)] []) : sn_At p l e rmX6_howMany s m args below meth c Q D ct ad layC A 3 σ 4 [(0, .ref (ad 19)), (1, .int z.1), (2, .int z.2)] [] :=
  sn_loop (f := LX6_howMany_4 σ) (G := fun z => sn_At p l e rmX6_howMany s m args below meth c Q D ct ad layC A 3 σ 4 [(0, .ref (ad 19)), (1, .int z.1), (2, .int z.2)] []) (E := fun t => (∀ v, t = v → sn_At p l e rmX6_howMany s m args below meth c Q D ct ad layC A 3 σ 31 [(1, .int v)] []) ∧ True) (fun z o hf k1 k2 => wX6_howMany_4 C  hf (fun v e => k1 v e) (fun v e => (k2 _ e).1 v rfl)) 5000 z t h ⟨kx, trivial⟩
theorem wX6_howMany_in (C : sn_C p s m args meth c RX6 cX6_howMany 3 (some .int) D ct ad layC A) {σ : sn_S}  {o : Int32} (hf : fX6_howMany σ = some o) (kr : sn_Kr p l e rmX6_howMany s m args below meth c Q D ct ad layC A cX6_howMany .ireturn (true) σ [.int o]) : sn_At p l e rmX6_howMany s m args below meth c Q D ct ad layC A 3 σ 0 [(0, .ref (ad 19))] [] := by
  intro H locs ls hw hl
  have hx := C.1
  have hb := C.2.1
  unfold fX6_howMany at hf
  refine lv_iconst (v := 0) hx hb dX6_howMany_0 rfl ?_
  refine lv_istore_n (lv' := [(1, .int (0 : Int32)), (0, .ref (ad 19))]) hx hb dX6_howMany_1 rfl hl (by decide) rfl (fun ls hl => ?_)
  refine lv_iconst (v := 0) hx hb dX6_howMany_2 rfl ?_
  refine lv_istore_n (lv' := [(2, .int (0 : Int32)), (1, .int (0 : Int32)), (0, .ref (ad 19))]) hx hb dX6_howMany_3 rfl hl (by decide) rfl (fun ls hl => ?_)
  obtain ⟨t_1, h_2, hf⟩ := sn_bd hf
  exact wX6_howMany_L4 C  h_2 (fun v e => by cases e; exact wX6_howMany_31 C  hf kr) _ _ _ hw (lv_sub hl [2, 1, 0] rfl)
theorem ctX6_howMany (l : Launch) {σ : sn_S}  {o : Int32} (hf : fX6_howMany σ = some o) : sn_M l yX6_howMany cX6_howMany 3 (some .int) rmX6_howMany layC (fun ad => [.ref (ad 19)]) σ (some (fun _ => .int o)) σ :=
  sn_met (by decide) (fun _ => Nat.le_of_ble_eq_true rfl) (fun p e s m args below meth c ls D ct ad A C hw hl => wX6_howMany_in C  hf (fun H locs ls pc hw ok hd => sn_iret C hw hd) _ _ _ hw hl)
-- X6_make
abbrev rmX6_make : Room := { frames := 1, cells := 0, slots := 0, locals := 24 }
def fX6_make (σ : sn_S) (x1 : Int32) (x2 : Int32) (x3 : Int32) : Option sn_S :=
  (sn_gd (sn_in x1 4) (sn_lt (sn_pI σ 25 x1.toNatClampNeg x2) fun σ_2 => (sn_gd (sn_in x1 4) (sn_lt (sn_pI σ_2 26 x1.toNatClampNeg x3) fun σ_5 => (sn_gd (sn_in x1 4) ((fJ7_fill_d0a16 σ_5 (sn_at sn_rs20 x1) 60 (0 : Int64)).bind fun t_8 => (some t_8)))))))
theorem wX6_make_in (C : sn_C p s m args meth c RX6 cX6_make 4 none D ct ad layC A) {σ : sn_S} {x1 : Int32} {x2 : Int32} {x3 : Int32}  {o : sn_S} (hf : fX6_make σ x1 x2 x3 = some o) (kr : sn_Kr p l e rmX6_make s m args below meth c Q D ct ad layC A cX6_make .return_ (true) o []) : sn_At p l e rmX6_make s m args below meth c Q D ct ad layC A 4 σ 0 [(0, .ref (ad 19)), (1, .int x1), (2, .int x2), (3, .int x3)] [] := by
  intro H locs ls hw hl
  have hx := C.1
  have hb := C.2.1
  unfold fX6_make at hf
  refine lv_aload_n hx hb dX6_make_0 rfl (lv_at hl 0 rfl) ?_
  refine sn_getC (r := 25) C hw fd_RX6_16 layC_19 rfl dX6_make_1 ?_
  refine lv_iload_n hx hb dX6_make_4 rfl (lv_at hl 1 rfl) ?_
  refine lv_iload_n hx hb dX6_make_5 rfl (lv_at hl 2 rfl) ?_
  obtain ⟨g_1, hf⟩ := sn_gdE hf
  refine sn_iast C hw layC_25 g_1 dX6_make_6 (fun H locs hw => ?_)
  obtain ⟨σ_2, e_3, hf⟩ := sn_ltE hf
  rw [← e_3] at hw
  refine lv_aload_n hx hb dX6_make_7 rfl (lv_at hl 0 rfl) ?_
  refine sn_getC (r := 26) C hw fd_RX6_20 layC_19 rfl dX6_make_8 ?_
  refine lv_iload_n hx hb dX6_make_11 rfl (lv_at hl 1 rfl) ?_
  refine lv_iload_n hx hb dX6_make_12 rfl (lv_at hl 3 rfl) ?_
  obtain ⟨g_4, hf⟩ := sn_gdE hf
  refine sn_iast C hw layC_26 g_4 dX6_make_13 (fun H locs hw => ?_)
  obtain ⟨σ_5, e_6, hf⟩ := sn_ltE hf
  rw [← e_6] at hw
  refine lv_aload_n hx hb dX6_make_14 rfl (lv_at hl 0 rfl) ?_
  refine sn_getC (r := 20) C hw fd_RX6_11 layC_19 rfl dX6_make_15 ?_
  refine lv_iload_n hx hb dX6_make_18 rfl (lv_at hl 1 rfl) ?_
  obtain ⟨g_7, hf⟩ := sn_gdE hf
  refine sn_aldA C hw layC_20 rfl g_7 dX6_make_19 ?_
  refine lv_lconst (v := 0) hx hb dX6_make_20 rfl ?_
  obtain ⟨t_8, h_9, hf⟩ := sn_bd hf
  refine sn_callSv (rest := []) C hw (ctJ7_fill_d0a16 l (sn_rs_row g_7) h_9) kl_RX6_33 rfl rfl rfl (Nat.le_of_ble_eq_true rfl) dX6_make_21 hl.1 (fun H locs hw => ?_)
  cases hf
  exact kr _ _ _ _ hw rfl dX6_make_24
theorem ctX6_make (l : Launch) {σ : sn_S} {x1 : Int32} {x2 : Int32} {x3 : Int32}  {o : sn_S} (hf : fX6_make σ x1 x2 x3 = some o) : sn_M l yX6_make cX6_make 4 none rmX6_make layC (fun ad => [.ref (ad 19), .int x1, .int x2, .int x3]) σ none o :=
  sn_met (by decide) (fun _ => Nat.le_of_ble_eq_true rfl) (fun p e s m args below meth c ls D ct ad A C hw hl => wX6_make_in C  hf (fun H locs ls pc hw ok hd => sn_vret C hw hd) _ _ _ hw hl)
end
end
section
section
variable {p : Program} {l : Launch} {e : Env} {s : State} {m : MethodId} {args : Array Value} {below : List Frame} {meth : Method} {c : Code} {Q : State → Prop} {D : va_G} {ct : Nat → ClassId} {ad : Nat → Nat} {A : Nat → Prop} {lay : List sn_E}
-- X6_put
abbrev rmX6_put : Room := { frames := 0, cells := 0, slots := 0, locals := 0 }
def fX6_put (σ : sn_S) (x1 : Int32) (x2 : Int32) (x3 : Int64) : Option sn_S :=
  (sn_gd (sn_in x1 4) (if (sn_I σ 25 x1.toNatClampNeg) = 0 then
  (sn_gd (sn_in x1 4) (sn_gd (sn_in x2 60) (sn_lt (sn_pL σ (sn_at sn_rs20 x1) x2.toNatClampNeg x3.toInt32.toInt8.toInt32.toInt64) fun σ_5 => (some σ_5))))
  else
  (if (sn_I σ 25 x1.toNatClampNeg) = 1 then
  (sn_gd (sn_in x1 4) (sn_gd (sn_in x2 60) (sn_lt (sn_pL σ (sn_at sn_rs20 x1) x2.toNatClampNeg x3.toInt32.toInt16.toInt32.toInt64) fun σ_10 => (some σ_10))))
  else
  (if (sn_I σ 25 x1.toNatClampNeg) = 2 then
  (sn_gd (sn_in x1 4) (sn_gd (sn_in x2 60) (sn_lt (sn_pL σ (sn_at sn_rs20 x1) x2.toNatClampNeg x3.toInt32.toInt64) fun σ_15 => (some σ_15))))
  else
  (sn_gd (sn_in x1 4) (sn_gd (sn_in x2 60) (sn_lt (sn_pL σ (sn_at sn_rs20 x1) x2.toNatClampNeg x3) fun σ_19 => (some σ_19))))))))
theorem wX6_put_in (C : sn_C p s m args meth c RX6 cX6_put 5 none D ct ad layC A) {σ : sn_S} {x1 : Int32} {x2 : Int32} {x3 : Int64}  {o : sn_S} (hf : fX6_put σ x1 x2 x3 = some o) (kr : sn_Kr p l e rmX6_put s m args below meth c Q D ct ad layC A cX6_put .return_ (true) o []) : sn_At p l e rmX6_put s m args below meth c Q D ct ad layC A 5 σ 0 [(0, .ref (ad 19)), (1, .int x1), (2, .int x2), (3, .long x3)] [] := by
  intro H locs ls hw hl
  have hx := C.1
  have hb := C.2.1
  unfold fX6_put at hf
  refine lv_aload_n hx hb dX6_put_0 rfl (lv_at hl 0 rfl) ?_
  refine sn_getC (r := 25) C hw fd_RX6_16 layC_19 rfl dX6_put_1 ?_
  refine lv_iload_n hx hb dX6_put_4 rfl (lv_at hl 1 rfl) ?_
  obtain ⟨g_1, hf⟩ := sn_gdE hf
  refine sn_iald C hw layC_25 g_1 dX6_put_5 ?_
  by_cases c_2 : (sn_I σ 25 x1.toNatClampNeg) = 0
  · have hf := sn_if c_2 hf
    refine lv_tableIn (tgt := 32) (off := 26) hx hb dX6_put_6 (by rw [c_2]; decide) (by rw [c_2]; decide) (by rw [c_2]; rfl) (by decide) ?_
    refine lv_aload_n hx hb dX6_put_32 rfl (lv_at hl 0 rfl) ?_
    refine sn_getC (r := 20) C hw fd_RX6_11 layC_19 rfl dX6_put_33 ?_
    refine lv_iload_n hx hb dX6_put_36 rfl (lv_at hl 1 rfl) ?_
    obtain ⟨g_3, hf⟩ := sn_gdE hf
    refine sn_aldA C hw layC_20 rfl g_3 dX6_put_37 ?_
    refine lv_iload_n hx hb dX6_put_38 rfl (lv_at hl 2 rfl) ?_
    refine lv_lload_n hx hb dX6_put_39 rfl (lv_at hl 3 rfl) ?_
    refine lv_l2i hx hb dX6_put_40 rfl ?_
    refine lv_i2b hx hb dX6_put_41 rfl ?_
    refine lv_i2l hx hb dX6_put_42 rfl ?_
    obtain ⟨g_4, hf⟩ := sn_gdE hf
    refine sn_last C hw (sn_rs_row g_3) g_4 dX6_put_43 (fun H locs hw => ?_)
    obtain ⟨σ_5, e_6, hf⟩ := sn_ltE hf
    rw [← e_6] at hw
    refine lv_goto (tgt := 85) hx hb dX6_put_44 (by decide) ?_
    cases hf
    exact kr _ _ _ _ hw rfl dX6_put_85
  have hf := sn_el c_2 hf
  by_cases c_7 : (sn_I σ 25 x1.toNatClampNeg) = 1
  · have hf := sn_if c_7 hf
    refine lv_tableIn (tgt := 47) (off := 41) hx hb dX6_put_6 (by rw [c_7]; decide) (by rw [c_7]; decide) (by rw [c_7]; rfl) (by decide) ?_
    refine lv_aload_n hx hb dX6_put_47 rfl (lv_at hl 0 rfl) ?_
    refine sn_getC (r := 20) C hw fd_RX6_11 layC_19 rfl dX6_put_48 ?_
    refine lv_iload_n hx hb dX6_put_51 rfl (lv_at hl 1 rfl) ?_
    obtain ⟨g_8, hf⟩ := sn_gdE hf
    refine sn_aldA C hw layC_20 rfl g_8 dX6_put_52 ?_
    refine lv_iload_n hx hb dX6_put_53 rfl (lv_at hl 2 rfl) ?_
    refine lv_lload_n hx hb dX6_put_54 rfl (lv_at hl 3 rfl) ?_
    refine lv_l2i hx hb dX6_put_55 rfl ?_
    refine lv_i2s hx hb dX6_put_56 rfl ?_
    refine lv_i2l hx hb dX6_put_57 rfl ?_
    obtain ⟨g_9, hf⟩ := sn_gdE hf
    refine sn_last C hw (sn_rs_row g_8) g_9 dX6_put_58 (fun H locs hw => ?_)
    obtain ⟨σ_10, e_11, hf⟩ := sn_ltE hf
    rw [← e_11] at hw
    refine lv_goto (tgt := 85) hx hb dX6_put_59 (by decide) ?_
    cases hf
    exact kr _ _ _ _ hw rfl dX6_put_85
  have hf := sn_el c_7 hf
  by_cases c_12 : (sn_I σ 25 x1.toNatClampNeg) = 2
  · have hf := sn_if c_12 hf
    refine lv_tableIn (tgt := 62) (off := 56) hx hb dX6_put_6 (by rw [c_12]; decide) (by rw [c_12]; decide) (by rw [c_12]; rfl) (by decide) ?_
    refine lv_aload_n hx hb dX6_put_62 rfl (lv_at hl 0 rfl) ?_
    refine sn_getC (r := 20) C hw fd_RX6_11 layC_19 rfl dX6_put_63 ?_
    refine lv_iload_n hx hb dX6_put_66 rfl (lv_at hl 1 rfl) ?_
    obtain ⟨g_13, hf⟩ := sn_gdE hf
    refine sn_aldA C hw layC_20 rfl g_13 dX6_put_67 ?_
    refine lv_iload_n hx hb dX6_put_68 rfl (lv_at hl 2 rfl) ?_
    refine lv_lload_n hx hb dX6_put_69 rfl (lv_at hl 3 rfl) ?_
    refine lv_l2i hx hb dX6_put_70 rfl ?_
    refine lv_i2l hx hb dX6_put_71 rfl ?_
    obtain ⟨g_14, hf⟩ := sn_gdE hf
    refine sn_last C hw (sn_rs_row g_13) g_14 dX6_put_72 (fun H locs hw => ?_)
    obtain ⟨σ_15, e_16, hf⟩ := sn_ltE hf
    rw [← e_16] at hw
    refine lv_goto (tgt := 85) hx hb dX6_put_73 (by decide) ?_
    cases hf
    exact kr _ _ _ _ hw rfl dX6_put_85
  have hf := sn_el c_12 hf
  refine lv_tableOut (tgt := 76) hx hb dX6_put_6 (sn_swout3 c_2 c_7 c_12) (by decide) ?_
  refine lv_aload_n hx hb dX6_put_76 rfl (lv_at hl 0 rfl) ?_
  refine sn_getC (r := 20) C hw fd_RX6_11 layC_19 rfl dX6_put_77 ?_
  refine lv_iload_n hx hb dX6_put_80 rfl (lv_at hl 1 rfl) ?_
  obtain ⟨g_17, hf⟩ := sn_gdE hf
  refine sn_aldA C hw layC_20 rfl g_17 dX6_put_81 ?_
  refine lv_iload_n hx hb dX6_put_82 rfl (lv_at hl 2 rfl) ?_
  refine lv_lload_n hx hb dX6_put_83 rfl (lv_at hl 3 rfl) ?_
  obtain ⟨g_18, hf⟩ := sn_gdE hf
  refine sn_last C hw (sn_rs_row g_17) g_18 dX6_put_84 (fun H locs hw => ?_)
  obtain ⟨σ_19, e_20, hf⟩ := sn_ltE hf
  rw [← e_20] at hw
  cases hf
  exact kr _ _ _ _ hw rfl dX6_put_85
theorem ctX6_put (l : Launch) {σ : sn_S} {x1 : Int32} {x2 : Int32} {x3 : Int64}  {o : sn_S} (hf : fX6_put σ x1 x2 x3 = some o) : sn_M l yX6_put cX6_put 5 none rmX6_put layC (fun ad => [.ref (ad 19), .int x1, .int x2, .long x3]) σ none o :=
  sn_met (by decide) (fun _ => Nat.le_of_ble_eq_true rfl) (fun p e s m args below meth c ls D ct ad A C hw hl => wX6_put_in C  hf (fun H locs ls pc hw ok hd => sn_vret C hw hd) _ _ _ hw hl)
-- X6_spans
abbrev rmX6_spans : Room := { frames := 0, cells := 0, slots := 0, locals := 0 }
def fX6_spans (σ : sn_S) (x1 : Int32) (x2 : Int32) (x3 : Int32) : Option Int32 :=
  (if x2 < 0 then
  (sn_gd (sn_b01 (0 : Int32)) (some (0 : Int32)))
  else
  (if x3 < 0 then
  (sn_gd (sn_b01 (0 : Int32)) (some (0 : Int32)))
  else
  (sn_gd (sn_in x1 4) (if (sn_I σ 26 x1.toNatClampNeg) < x2 then
  (sn_gd (sn_b01 (0 : Int32)) (some (0 : Int32)))
  else
  (sn_gd (sn_in x1 4) (if ((sn_I σ 26 x1.toNatClampNeg) - x2) < x3 then
  (sn_gd (sn_b01 (0 : Int32)) (some (0 : Int32)))
  else
  (sn_gd (sn_b01 (1 : Int32)) (some (1 : Int32)))))))))
theorem wX6_spans_in (C : sn_C p s m args meth c RX6 cX6_spans 4 (some .boolean) D ct ad layC A) {σ : sn_S} {x1 : Int32} {x2 : Int32} {x3 : Int32}  {o : Int32} (hf : fX6_spans σ x1 x2 x3 = some o) (kr : sn_Kr p l e rmX6_spans s m args below meth c Q D ct ad layC A cX6_spans .ireturn (sn_b01 o) σ [.int o]) : sn_At p l e rmX6_spans s m args below meth c Q D ct ad layC A 4 σ 0 [(0, .ref (ad 19)), (1, .int x1), (2, .int x2), (3, .int x3)] [] := by
  intro H locs ls hw hl
  have hx := C.1
  have hb := C.2.1
  unfold fX6_spans at hf
  refine lv_iload_n hx hb dX6_spans_0 rfl (lv_at hl 2 rfl) ?_
  refine lv_if_lt (tgt := 34) hx hb dX6_spans_1 (by decide) (fun c_1 => ?_) (fun c_1 => ?_)
  · have hf := sn_if c_1 hf
    refine lv_iconst (v := 0) hx hb dX6_spans_34 rfl ?_
    obtain ⟨g_2, hf⟩ := sn_gdE hf
    cases hf
    exact kr _ _ _ _ hw g_2 dX6_spans_35
  · have hf := sn_el c_1 hf
    refine lv_iload_n hx hb dX6_spans_4 rfl (lv_at hl 3 rfl) ?_
    refine lv_if_lt (tgt := 34) hx hb dX6_spans_5 (by decide) (fun c_3 => ?_) (fun c_3 => ?_)
    · have hf := sn_if c_3 hf
      refine lv_iconst (v := 0) hx hb dX6_spans_34 rfl ?_
      obtain ⟨g_4, hf⟩ := sn_gdE hf
      cases hf
      exact kr _ _ _ _ hw g_4 dX6_spans_35
    · have hf := sn_el c_3 hf
      refine lv_iload_n hx hb dX6_spans_8 rfl (lv_at hl 2 rfl) ?_
      refine lv_aload_n hx hb dX6_spans_9 rfl (lv_at hl 0 rfl) ?_
      refine sn_getC (r := 26) C hw fd_RX6_20 layC_19 rfl dX6_spans_10 ?_
      refine lv_iload_n hx hb dX6_spans_13 rfl (lv_at hl 1 rfl) ?_
      obtain ⟨g_5, hf⟩ := sn_gdE hf
      refine sn_iald C hw layC_26 g_5 dX6_spans_14 ?_
      refine lv_icmp_gt (tgt := 34) hx hb dX6_spans_15 (by decide) (fun c_6 => ?_) (fun c_6 => ?_)
      · have hf := sn_if c_6 hf
        refine lv_iconst (v := 0) hx hb dX6_spans_34 rfl ?_
        obtain ⟨g_7, hf⟩ := sn_gdE hf
        cases hf
        exact kr _ _ _ _ hw g_7 dX6_spans_35
      · have hf := sn_el c_6 hf
        refine lv_iload_n hx hb dX6_spans_18 rfl (lv_at hl 3 rfl) ?_
        refine lv_aload_n hx hb dX6_spans_19 rfl (lv_at hl 0 rfl) ?_
        refine sn_getC (r := 26) C hw fd_RX6_20 layC_19 rfl dX6_spans_20 ?_
        refine lv_iload_n hx hb dX6_spans_23 rfl (lv_at hl 1 rfl) ?_
        obtain ⟨g_8, hf⟩ := sn_gdE hf
        refine sn_iald C hw layC_26 g_8 dX6_spans_24 ?_
        refine lv_iload_n hx hb dX6_spans_25 rfl (lv_at hl 2 rfl) ?_
        refine lv_isub hx hb dX6_spans_26 ?_
        refine lv_icmp_gt (tgt := 34) hx hb dX6_spans_27 (by decide) (fun c_9 => ?_) (fun c_9 => ?_)
        · have hf := sn_if c_9 hf
          refine lv_iconst (v := 0) hx hb dX6_spans_34 rfl ?_
          obtain ⟨g_10, hf⟩ := sn_gdE hf
          cases hf
          exact kr _ _ _ _ hw g_10 dX6_spans_35
        · have hf := sn_el c_9 hf
          refine lv_iconst (v := 1) hx hb dX6_spans_30 rfl ?_
          refine lv_goto (tgt := 35) hx hb dX6_spans_31 (by decide) ?_
          obtain ⟨g_11, hf⟩ := sn_gdE hf
          cases hf
          exact kr _ _ _ _ hw g_11 dX6_spans_35
theorem ctX6_spans (l : Launch) {σ : sn_S} {x1 : Int32} {x2 : Int32} {x3 : Int32}  {o : Int32} (hf : fX6_spans σ x1 x2 x3 = some o) : sn_M l yX6_spans cX6_spans 4 (some .boolean) rmX6_spans layC (fun ad => [.ref (ad 19), .int x1, .int x2, .int x3]) σ (some (fun _ => .int o)) σ :=
  sn_met (by decide) (fun _ => Nat.le_of_ble_eq_true rfl) (fun p e s m args below meth c ls D ct ad A C hw hl => wX6_spans_in C  hf (fun H locs ls pc hw ok hd => sn_zret C hw ok hd) _ _ _ hw hl)
-- X7_forget
abbrev rmX7_forget : Room := { frames := 1, cells := 0, slots := 0, locals := 23 }
def fX7_forget (σ : sn_S) : Option sn_S :=
  ((fJ7_fill_53178 σ 55 6 (0 : Int32)).bind fun t_1 => ((fJ7_fill_53178 t_1 56 186 (0 : Int32)).bind fun t_3 => (sn_lt (sn_pI t_3 54 1 (0 : Int32)) fun σ_5 => (sn_lt (sn_pI σ_5 54 2 (0 : Int32)) fun σ_7 => (sn_lt (sn_pI σ_7 54 3 (-1 : Int32)) fun σ_9 => (some σ_9))))))
theorem wX7_forget_in (C : sn_C p s m args meth c RX7 cX7_forget 1 none D ct ad layC A) {σ : sn_S}  {o : sn_S} (hf : fX7_forget σ = some o) (kr : sn_Kr p l e rmX7_forget s m args below meth c Q D ct ad layC A cX7_forget .return_ (true) o []) : sn_At p l e rmX7_forget s m args below meth c Q D ct ad layC A 1 σ 0 [(0, .ref (ad 54))] [] := by
  intro H locs ls hw hl
  have hx := C.1
  have hb := C.2.1
  unfold fX7_forget at hf
  refine lv_aload_n hx hb dX7_forget_0 rfl (lv_at hl 0 rfl) ?_
  refine sn_getC (r := 55) C hw fd_RX7_9 layC_54 rfl dX7_forget_1 ?_
  refine lv_iconst (v := 0) hx hb dX7_forget_4 rfl ?_
  obtain ⟨t_1, h_2, hf⟩ := sn_bd hf
  refine sn_callSv (rest := []) C hw (ctJ7_fill_53178 l layC_55 h_2) kl_RX7_18 rfl rfl rfl (Nat.le_of_ble_eq_true rfl) dX7_forget_5 hl.1 (fun H locs hw => ?_)
  refine lv_aload_n hx hb dX7_forget_8 rfl (lv_at hl 0 rfl) ?_
  refine sn_getC (r := 56) C hw fd_RX7_15 layC_54 rfl dX7_forget_9 ?_
  refine lv_iconst (v := 0) hx hb dX7_forget_12 rfl ?_
  obtain ⟨t_3, h_4, hf⟩ := sn_bd hf
  refine sn_callSv (rest := []) C hw (ctJ7_fill_53178 l layC_56 h_4) kl_RX7_18 rfl rfl rfl (Nat.le_of_ble_eq_true rfl) dX7_forget_13 hl.1 (fun H locs hw => ?_)
  refine lv_aload_n hx hb dX7_forget_16 rfl (lv_at hl 0 rfl) ?_
  refine lv_iconst (v := 0) hx hb dX7_forget_17 rfl ?_
  refine sn_putI C hw fp_RX7_24 layC_54 rfl dX7_forget_18 (fun H locs hw => ?_)
  obtain ⟨σ_5, e_6, hf⟩ := sn_ltE hf
  rw [← e_6] at hw
  refine lv_aload_n hx hb dX7_forget_21 rfl (lv_at hl 0 rfl) ?_
  refine lv_iconst (v := 0) hx hb dX7_forget_22 rfl ?_
  refine sn_putI C hw fp_RX7_28 layC_54 rfl dX7_forget_23 (fun H locs hw => ?_)
  obtain ⟨σ_7, e_8, hf⟩ := sn_ltE hf
  rw [← e_8] at hw
  refine lv_aload_n hx hb dX7_forget_26 rfl (lv_at hl 0 rfl) ?_
  refine lv_iconst (v := (-1)) hx hb dX7_forget_27 rfl ?_
  refine sn_putI C hw fp_RX7_31 layC_54 rfl dX7_forget_28 (fun H locs hw => ?_)
  obtain ⟨σ_9, e_10, hf⟩ := sn_ltE hf
  rw [← e_10] at hw
  cases hf
  exact kr _ _ _ _ hw rfl dX7_forget_31
theorem ctX7_forget (l : Launch) {σ : sn_S}  {o : sn_S} (hf : fX7_forget σ = some o) : sn_M l yX7_forget cX7_forget 1 none rmX7_forget layC (fun ad => [.ref (ad 54)]) σ none o :=
  sn_met (by decide) (fun _ => Nat.le_of_ble_eq_true rfl) (fun p e s m args below meth c ls D ct ad A C hw hl => wX7_forget_in C  hf (fun H locs ls pc hw ok hd => sn_vret C hw hd) _ _ _ hw hl)
-- X7_meets
abbrev rmX7_meets : Room := { frames := 0, cells := 0, slots := 0, locals := 0 }
def BX7_meets_38 (σ : sn_S) (q1 : Nat) : Option (Int32) :=
  (sn_gd (sn_b01 (1 : Int32)) (some (1 : Int32)))
def BX7_meets_2 (σ : sn_S) (q1 : Nat) (x2 : Int32) (x3 : Int32) : Option ((Int32) ⊕ ((Unit) ⊕ Int32)) :=
  (if (sn_I σ q1 1) ≤ x3 then
  (some (.inr (.inl ())))
  else
  (sn_gd (sn_in x3 6) (sn_gd (sn_in x3 6) (if (((sn_I σ 55 x3.toNatClampNeg) &&& x2) &&& ((sn_I σ (q1 + 10) x3.toNatClampNeg) ^^^ (-1 : Int32))) = 0 then
  (sn_lt (x3 + 1) fun y_5 => (some (.inl (y_5))))
  else
  (sn_gd (sn_b01 (0 : Int32)) (some (.inr (.inr (0 : Int32)))))))))
def LX7_meets_2 (σ : sn_S) (q1 : Nat) (x2 : Int32) (s : Int32) : Option ((Int32) ⊕ ((Unit) ⊕ Int32)) := BX7_meets_2 σ q1 x2 s
def fX7_meets (σ : sn_S) (q1 : Nat) (x2 : Int32) : Option Int32 :=
  ((sn_it (LX7_meets_2 σ q1 x2) 5000 ((0 : Int32))).bind fun t_1 => Sum.elim (fun v_3 => (BX7_meets_38 σ q1)) (fun r_4 => (some r_4)) t_1)
theorem wX7_meets_38 (C : sn_C p s m args meth c RX7 cX7_meets 4 (some .boolean) D ct ad layC A) {σ : sn_S} {q1 : Nat} (h1 : sn_isX0 q1) {o : Int32} (hf : BX7_meets_38 σ q1 = some o) (kr : sn_Kr p l e rmX7_meets s m args below meth c Q D ct ad layC A cX7_meets .ireturn (sn_b01 o) σ [.int o]) : sn_At p l e rmX7_meets s m args below meth c Q D ct ad layC A 4 σ 38 [] [] := by
  intro H locs ls hw hl
  have hx := C.1
  have hb := C.2.1
  unfold BX7_meets_38 at hf
  refine lv_iconst (v := 1) hx hb dX7_meets_38 rfl ?_
  obtain ⟨g_1, hf⟩ := sn_gdE hf
  cases hf
  exact kr _ _ _ _ hw g_1 dX7_meets_39
theorem wX7_meets_2 (C : sn_C p s m args meth c RX7 cX7_meets 4 (some .boolean) D ct ad layC A) {σ : sn_S} {q1 : Nat} {x2 : Int32} {x3 : Int32} (h1 : sn_isX0 q1) {o : (Int32) ⊕ ((Unit) ⊕ Int32)} (hf : BX7_meets_2 σ q1 x2 x3 = some o) (kc : ∀ v, o = .inl v → sn_At p l e rmX7_meets s m args below meth c Q D ct ad layC A 4 σ 2 [(0, .ref (ad 54)), (1, .ref (ad q1)), (2, .int x2), (3, .int v)] []) (kx : ∀ v, o = .inr (.inl v) → sn_At p l e rmX7_meets s m args below meth c Q D ct ad layC A 4 σ 38 [] []) (kr : ∀ r, o = .inr (.inr r) → sn_Kr p l e rmX7_meets s m args below meth c Q D ct ad layC A cX7_meets .ireturn (sn_b01 r) σ [.int r]) : sn_At p l e rmX7_meets s m args below meth c Q D ct ad layC A 4 σ 2 [(0, .ref (ad 54)), (1, .ref (ad q1)), (2, .int x2), (3, .int x3)] [] := by
  intro H locs ls hw hl
  have hx := C.1
  have hb := C.2.1
  unfold BX7_meets_2 at hf
  refine lv_iload_n hx hb dX7_meets_2 rfl (lv_at hl 3 rfl) ?_
  refine lv_aload_n hx hb dX7_meets_3 rfl (lv_at hl 1 rfl) ?_
  refine sn_getI C hw fd_RX7_60 (sn_look h1 (k := 0) rfl) rfl dX7_meets_4 ?_
  refine lv_icmp_ge (tgt := 38) hx hb dX7_meets_7 (by decide) (fun c_1 => ?_) (fun c_1 => ?_)
  · have hf := sn_if c_1 hf
    cases hf
    exact kx _ rfl _ _ _ hw (lv_sub hl [] rfl)
  · have hf := sn_el c_1 hf
    refine lv_aload_n hx hb dX7_meets_10 rfl (lv_at hl 0 rfl) ?_
    refine sn_getC (r := 55) C hw fd_RX7_9 layC_54 rfl dX7_meets_11 ?_
    refine lv_iload_n hx hb dX7_meets_14 rfl (lv_at hl 3 rfl) ?_
    obtain ⟨g_2, hf⟩ := sn_gdE hf
    refine sn_iald C hw layC_55 g_2 dX7_meets_15 ?_
    refine lv_iload_n hx hb dX7_meets_16 rfl (lv_at hl 2 rfl) ?_
    refine lv_iand hx hb dX7_meets_17 ?_
    refine lv_aload_n hx hb dX7_meets_18 rfl (lv_at hl 1 rfl) ?_
    refine sn_getC (r := (q1 + 10)) C hw fd_RX7_63 (sn_look h1 (k := 0) rfl) rfl dX7_meets_19 ?_
    refine lv_iload_n hx hb dX7_meets_22 rfl (lv_at hl 3 rfl) ?_
    obtain ⟨g_3, hf⟩ := sn_gdE hf
    refine sn_iald C hw (sn_look h1 (k := 10) rfl) g_3 dX7_meets_23 ?_
    refine lv_iconst (v := (-1)) hx hb dX7_meets_24 rfl ?_
    refine lv_ixor hx hb dX7_meets_25 ?_
    refine lv_iand hx hb dX7_meets_26 ?_
    refine lv_if_eq (tgt := 32) hx hb dX7_meets_27 (by decide) (fun c_4 => ?_) (fun c_4 => ?_)
    · have hf := sn_if c_4 hf
      obtain ⟨y_5, e_6, hf⟩ := sn_ltE hf
      refine lv_iinc (v := y_5) (lv' := [(3, .int y_5), (0, .ref (ad 54)), (1, .ref (ad q1)), (2, .int x2)]) hx hb dX7_meets_32 hl (k := 3) rfl (by rw [e_6]; rfl) (by decide) rfl (fun ls hl => ?_)
      refine lv_goto (tgt := 2) hx hb dX7_meets_35 (by decide) ?_
      cases hf
      exact kc _ rfl _ _ _ hw (lv_sub hl [1, 2, 3, 0] rfl)
    · have hf := sn_el c_4 hf
      refine lv_iconst (v := 0) hx hb dX7_meets_30 rfl ?_
      obtain ⟨g_7, hf⟩ := sn_gdE hf
      cases hf
      exact kr _ rfl _ _ _ _ hw g_7 dX7_meets_31
theorem wX7_meets_L2 (C : sn_C p s m args meth c RX7 cX7_meets 4 (some .boolean) D ct ad layC A) {σ : sn_S} {q1 : Nat} {x2 : Int32}  (h1 : sn_isX0 q1) {z : Int32} {t : (Unit) ⊕ Int32} (h : sn_it (LX7_meets_2 σ q1 x2) 5000 z = some t) (kx : ∀ v, t = .inl v → sn_At p l e rmX7_meets s m args below meth c Q D ct ad layC A 4 σ 38 [] []) (kr : ∀ r, t = .inr r → sn_Kr p l e rmX7_meets s m args below meth c Q D ct ad layC A cX7_meets .ireturn (sn_b01 r) σ [.int r]) : sn_At p l e rmX7_meets s m args below meth c Q D ct ad layC A 4 σ 2 [(0, .ref (ad 54)), (1, .ref (ad q1)), (2, .int x2), (3, .int z)] [] :=
  sn_loop (f := LX7_meets_2 σ q1 x2) (G := fun z => sn_At p l e rmX7_meets s m args below meth c Q D ct ad layC A 4 σ 2 [(0, .ref (ad 54)), (1, .ref (ad q1)), (2, .int x2), (3, .int z)] []) (E := fun t => (∀ v, t = .inl v → sn_At p l e rmX7_meets s m args below meth c Q D ct ad layC A 4 σ 38 [] []) ∧ (∀ r, t = .inr r → sn_Kr p l e rmX7_meets s m args below meth c Q D ct ad layC A cX7_meets .ireturn (sn_b01 r) σ [.int r])) (fun z o hf k1 k2 => wX7_meets_2 C h1 hf (fun v e => k1 v e) (fun v e => (k2 _ e).1 v rfl) (fun r e => (k2 _ e).2 r rfl)) 5000 z t h ⟨kx, kr⟩
theorem wX7_meets_in (C : sn_C p s m args meth c RX7 cX7_meets 4 (some .boolean) D ct ad layC A) {σ : sn_S} {q1 : Nat} {x2 : Int32} (h1 : sn_isX0 q1) {o : Int32} (hf : fX7_meets σ q1 x2 = some o) (kr : sn_Kr p l e rmX7_meets s m args below meth c Q D ct ad layC A cX7_meets .ireturn (sn_b01 o) σ [.int o]) : sn_At p l e rmX7_meets s m args below meth c Q D ct ad layC A 4 σ 0 [(0, .ref (ad 54)), (1, .ref (ad q1)), (2, .int x2)] [] := by
  intro H locs ls hw hl
  have hx := C.1
  have hb := C.2.1
  unfold fX7_meets at hf
  refine lv_iconst (v := 0) hx hb dX7_meets_0 rfl ?_
  refine lv_istore_n (lv' := [(3, .int (0 : Int32)), (0, .ref (ad 54)), (1, .ref (ad q1)), (2, .int x2)]) hx hb dX7_meets_1 rfl hl (by decide) rfl (fun ls hl => ?_)
  obtain ⟨t_1, h_2, hf⟩ := sn_bd hf
  rcases t_1 with v_3 | r_4
  · rw [Sum.elim_inl] at hf
    exact wX7_meets_L2 C h1 h_2 (fun v e => by cases e; exact wX7_meets_38 C h1 hf kr) (fun r e => by cases e) _ _ _ hw (lv_sub hl [1, 2, 3, 0] rfl)
  · rw [Sum.elim_inr] at hf
    cases hf
    exact wX7_meets_L2 C h1 h_2 (fun v e => by cases e) (fun r e => by cases e; exact kr) _ _ _ hw (lv_sub hl [1, 2, 3, 0] rfl)
theorem ctX7_meets (l : Launch) {σ : sn_S} {q1 : Nat} {x2 : Int32} (h1 : sn_isX0 q1) {o : Int32} (hf : fX7_meets σ q1 x2 = some o) : sn_M l yX7_meets cX7_meets 4 (some .boolean) rmX7_meets layC (fun ad => [.ref (ad 54), .ref (ad q1), .int x2]) σ (some (fun _ => .int o)) σ :=
  sn_met (by decide) (fun _ => Nat.le_of_ble_eq_true rfl) (fun p e s m args below meth c ls D ct ad A C hw hl => wX7_meets_in C h1 hf (fun H locs ls pc hw ok hd => sn_zret C hw ok hd) _ _ _ hw hl)
-- X7_note
abbrev rmX7_note : Room := { frames := 1, cells := 0, slots := 0, locals := 20 }
def BX7_note_82 (σ : sn_S) (q1 : Nat) : Option (sn_S) :=
  (some σ)
def BX7_note_42 (σ : sn_S) (q1 : Nat) (x4 : Int32) : Option ((sn_S × Int32) ⊕ (sn_S)) :=
  (if (sn_I σ q1 1) ≤ x4 then
  (some (.inr (σ)))
  else
  (sn_gd (sn_in x4 6) ((fJ6_bitCount_0f7a4 (sn_I σ (q1 + 10) x4.toNatClampNeg)).bind fun t_3 => (sn_gd (sn_in (((31 : Int32) * x4) + t_3) 186) (sn_gd (sn_in (((31 : Int32) * x4) + t_3) 186) (sn_lt (sn_pI σ 56 (((31 : Int32) * x4) + t_3).toNatClampNeg ((sn_I σ 56 (((31 : Int32) * x4) + t_3).toNatClampNeg) + (1 : Int32))) fun σ_7 => (sn_lt (x4 + 1) fun y_9 => (some (.inl (σ_7, y_9))))))))))
def LX7_note_42 (q1 : Nat) (s : sn_S × Int32) : Option ((sn_S × Int32) ⊕ (sn_S)) := BX7_note_42 s.1 q1 s.2
def BX7_note_17 (σ : sn_S) (q1 : Nat) (x2 : Int32) : Option (sn_S) :=
  (sn_lt (sn_pI σ 54 1 ((sn_I σ 54 1) + (1 : Int32))) fun σ_1 => (sn_lt (sn_pI σ_1 54 2 ((sn_I σ_1 54 2) ||| ((1 : Int32) <<< (x2 &&& 31)))) fun σ_3 => ((sn_it (LX7_note_42 q1) 5000 (σ_3, (0 : Int32))).bind fun t_5 => (BX7_note_82 t_5 q1))))
def fX7_note (σ : sn_S) (q1 : Nat) (x2 : Int32) (x3 : Int32) : Option sn_S :=
  (if (sn_I σ 54 1) = 0 then
  (sn_lt (sn_pI σ 54 3 (((10 : Int32) * x2) + x3)) fun σ_2 => (BX7_note_17 σ_2 q1 x2))
  else
  (BX7_note_17 σ q1 x2))
theorem wX7_note_82 (C : sn_C p s m args meth c RX7 cX7_note 5 none D ct ad layC A) {σ : sn_S} {q1 : Nat} (h1 : sn_isX0 q1) {o : sn_S} (hf : BX7_note_82 σ q1 = some o) (kr : sn_Kr p l e rmX7_note s m args below meth c Q D ct ad layC A cX7_note .return_ (true) o []) : sn_At p l e rmX7_note s m args below meth c Q D ct ad layC A 5 σ 82 [] [] := by
  intro H locs ls hw hl
  have hx := C.1
  have hb := C.2.1
  unfold BX7_note_82 at hf
  cases hf
  exact kr _ _ _ _ hw rfl dX7_note_82
theorem wX7_note_42 (C : sn_C p s m args meth c RX7 cX7_note 5 none D ct ad layC A) {σ : sn_S} {q1 : Nat} {x4 : Int32} (h1 : sn_isX0 q1) {o : (sn_S × Int32) ⊕ (sn_S)} (hf : BX7_note_42 σ q1 x4 = some o) (kc : ∀ v, o = .inl v → sn_At p l e rmX7_note s m args below meth c Q D ct ad layC A 5 v.1 42 [(0, .ref (ad 54)), (1, .ref (ad q1)), (4, .int v.2)] []) (kx : ∀ v, o = .inr v → sn_At p l e rmX7_note s m args below meth c Q D ct ad layC A 5 v 82 [] []) : sn_At p l e rmX7_note s m args below meth c Q D ct ad layC A 5 σ 42 [(0, .ref (ad 54)), (1, .ref (ad q1)), (4, .int x4)] [] := by
  intro H locs ls hw hl
  have hx := C.1
  have hb := C.2.1
  unfold BX7_note_42 at hf
  refine lv_iload hx hb dX7_note_42 (lv_at hl 2 rfl) ?_
  refine lv_aload_n hx hb dX7_note_44 rfl (lv_at hl 1 rfl) ?_
  refine sn_getI C hw fd_RX7_60 (sn_look h1 (k := 0) rfl) rfl dX7_note_45 ?_
  refine lv_icmp_ge (tgt := 82) hx hb dX7_note_48 (by decide) (fun c_1 => ?_) (fun c_1 => ?_)
  · have hf := sn_if c_1 hf
    cases hf
    exact kx _ rfl _ _ _ hw (lv_sub hl [] rfl)
  · have hf := sn_el c_1 hf
    refine lv_aload_n hx hb dX7_note_51 rfl (lv_at hl 0 rfl) ?_
    refine sn_getC (r := 56) C hw fd_RX7_15 layC_54 rfl dX7_note_52 ?_
    refine lv_bipush (v := 31) hx hb dX7_note_55 (by decide) ?_
    refine lv_iload hx hb dX7_note_57 (lv_at hl 2 rfl) ?_
    refine lv_imul hx hb dX7_note_59 ?_
    refine lv_aload_n hx hb dX7_note_60 rfl (lv_at hl 1 rfl) ?_
    refine sn_getC (r := (q1 + 10)) C hw fd_RX7_63 (sn_look h1 (k := 0) rfl) rfl dX7_note_61 ?_
    refine lv_iload hx hb dX7_note_64 (lv_at hl 2 rfl) ?_
    obtain ⟨g_2, hf⟩ := sn_gdE hf
    refine sn_iald C hw (sn_look h1 (k := 10) rfl) g_2 dX7_note_66 ?_
    obtain ⟨t_3, h_4, hf⟩ := sn_bd hf
    refine sn_callSi (rest := [.int ((31 : Int32) * x4), .ref (ad 56)]) C hw (ctJ6_bitCount_0f7a4 l  h_4) kl_RX7_66 rfl rfl rfl (Nat.le_of_ble_eq_true rfl) dX7_note_67 hl.1 (fun H locs hw => ?_)
    refine lv_iadd hx hb dX7_note_70 ?_
    refine lv_dup2_11 hx hb dX7_note_71 rfl rfl ?_
    obtain ⟨g_5, hf⟩ := sn_gdE hf
    refine sn_iald C hw layC_56 g_5 dX7_note_72 ?_
    refine lv_iconst (v := 1) hx hb dX7_note_73 rfl ?_
    refine lv_iadd hx hb dX7_note_74 ?_
    obtain ⟨g_6, hf⟩ := sn_gdE hf
    refine sn_iast C hw layC_56 g_6 dX7_note_75 (fun H locs hw => ?_)
    obtain ⟨σ_7, e_8, hf⟩ := sn_ltE hf
    rw [← e_8] at hw
    obtain ⟨y_9, e_10, hf⟩ := sn_ltE hf
    refine lv_iinc (v := y_9) (lv' := [(4, .int y_9), (0, .ref (ad 54)), (1, .ref (ad q1))]) hx hb dX7_note_76 hl (k := 2) rfl (by rw [e_10]; rfl) (by decide) rfl (fun ls hl => ?_)
    refine lv_goto (tgt := 42) hx hb dX7_note_79 (by decide) ?_
    cases hf
    exact kc _ rfl _ _ _ hw (lv_sub hl [1, 2, 0] rfl)
theorem wX7_note_L42 (C : sn_C p s m args meth c RX7 cX7_note 5 none D ct ad layC A) {q1 : Nat}  (h1 : sn_isX0 q1) {z : sn_S × Int32} {t : sn_S} (h : sn_it (LX7_note_42 q1) 5000 z = some t) (kx : ∀ v, t = v → sn_At p l e rmX7_note s m args below meth c Q D ct ad layC A 5 v 82 [] []) : sn_At p l e rmX7_note s m args below meth c Q D ct ad layC A 5 z.1 42 [(0, .ref (ad 54)), (1, .ref (ad q1)), (4, .int z.2)] [] :=
  sn_loop (f := LX7_note_42 q1) (G := fun z => sn_At p l e rmX7_note s m args below meth c Q D ct ad layC A 5 z.1 42 [(0, .ref (ad 54)), (1, .ref (ad q1)), (4, .int z.2)] []) (E := fun t => (∀ v, t = v → sn_At p l e rmX7_note s m args below meth c Q D ct ad layC A 5 v 82 [] []) ∧ True) (fun z o hf k1 k2 => wX7_note_42 C h1 hf (fun v e => k1 v e) (fun v e => (k2 _ e).1 v rfl)) 5000 z t h ⟨kx, trivial⟩
theorem wX7_note_17 (C : sn_C p s m args meth c RX7 cX7_note 5 none D ct ad layC A) {σ : sn_S} {q1 : Nat} {x2 : Int32} (h1 : sn_isX0 q1) {o : sn_S} (hf : BX7_note_17 σ q1 x2 = some o) (kr : sn_Kr p l e rmX7_note s m args below meth c Q D ct ad layC A cX7_note .return_ (true) o []) : sn_At p l e rmX7_note s m args below meth c Q D ct ad layC A 5 σ 17 [(0, .ref (ad 54)), (1, .ref (ad q1)), (2, .int x2)] [] := by
  intro H locs ls hw hl
  have hx := C.1
  have hb := C.2.1
  unfold BX7_note_17 at hf
  refine lv_aload_n hx hb dX7_note_17 rfl (lv_at hl 0 rfl) ?_
  refine lv_dup hx hb dX7_note_18 rfl ?_
  refine sn_getI C hw fd_RX7_24 layC_54 rfl dX7_note_19 ?_
  refine lv_iconst (v := 1) hx hb dX7_note_22 rfl ?_
  refine lv_iadd hx hb dX7_note_23 ?_
  refine sn_putI C hw fp_RX7_24 layC_54 rfl dX7_note_24 (fun H locs hw => ?_)
  obtain ⟨σ_1, e_2, hf⟩ := sn_ltE hf
  rw [← e_2] at hw
  refine lv_aload_n hx hb dX7_note_27 rfl (lv_at hl 0 rfl) ?_
  refine lv_dup hx hb dX7_note_28 rfl ?_
  refine sn_getI C hw fd_RX7_28 layC_54 rfl dX7_note_29 ?_
  refine lv_iconst (v := 1) hx hb dX7_note_32 rfl ?_
  refine lv_iload_n hx hb dX7_note_33 rfl (lv_at hl 2 rfl) ?_
  refine lv_ishl hx hb dX7_note_34 ?_
  refine lv_ior hx hb dX7_note_35 ?_
  refine sn_putI C hw fp_RX7_28 layC_54 rfl dX7_note_36 (fun H locs hw => ?_)
  obtain ⟨σ_3, e_4, hf⟩ := sn_ltE hf
  rw [← e_4] at hw
  refine lv_iconst (v := 0) hx hb dX7_note_39 rfl ?_
  refine lv_istore (lv' := [(4, .int (0 : Int32)), (0, .ref (ad 54)), (1, .ref (ad q1)), (2, .int x2)]) hx hb dX7_note_40 hl (by decide) rfl (fun ls hl => ?_)
  obtain ⟨t_5, h_6, hf⟩ := sn_bd hf
  exact wX7_note_L42 C h1 h_6 (fun v e => by cases e; exact wX7_note_82 C h1 hf kr) _ _ _ hw (lv_sub hl [1, 2, 0] rfl)
theorem wX7_note_in (C : sn_C p s m args meth c RX7 cX7_note 5 none D ct ad layC A) {σ : sn_S} {q1 : Nat} {x2 : Int32} {x3 : Int32} (h1 : sn_isX0 q1) {o : sn_S} (hf : fX7_note σ q1 x2 x3 = some o) (kr : sn_Kr p l e rmX7_note s m args below meth c Q D ct ad layC A cX7_note .return_ (true) o []) : sn_At p l e rmX7_note s m args below meth c Q D ct ad layC A 5 σ 0 [(0, .ref (ad 54)), (1, .ref (ad q1)), (2, .int x2), (3, .int x3)] [] := by
  intro H locs ls hw hl
  have hx := C.1
  have hb := C.2.1
  unfold fX7_note at hf
  refine lv_aload_n hx hb dX7_note_0 rfl (lv_at hl 0 rfl) ?_
  refine sn_getI C hw fd_RX7_24 layC_54 rfl dX7_note_1 ?_
  refine lv_if_ne (tgt := 17) hx hb dX7_note_4 (by decide) (fun c_1 => ?_) (fun c_1 => ?_)
  · have hf := sn_el c_1 hf
    exact wX7_note_17 C h1 hf kr _ _ _ hw (lv_sub hl [0, 1, 2] rfl)
  · have hf := sn_if c_1 hf
    refine lv_aload_n hx hb dX7_note_7 rfl (lv_at hl 0 rfl) ?_
    refine lv_bipush (v := 10) hx hb dX7_note_8 (by decide) ?_
    refine lv_iload_n hx hb dX7_note_10 rfl (lv_at hl 2 rfl) ?_
    refine lv_imul hx hb dX7_note_11 ?_
    refine lv_iload_n hx hb dX7_note_12 rfl (lv_at hl 3 rfl) ?_
    refine lv_iadd hx hb dX7_note_13 ?_
    refine sn_putI C hw fp_RX7_31 layC_54 rfl dX7_note_14 (fun H locs hw => ?_)
    obtain ⟨σ_2, e_3, hf⟩ := sn_ltE hf
    rw [← e_3] at hw
    exact wX7_note_17 C h1 hf kr _ _ _ hw (lv_sub hl [0, 1, 2] rfl)
theorem ctX7_note (l : Launch) {σ : sn_S} {q1 : Nat} {x2 : Int32} {x3 : Int32} (h1 : sn_isX0 q1) {o : sn_S} (hf : fX7_note σ q1 x2 x3 = some o) : sn_M l yX7_note cX7_note 5 none rmX7_note layC (fun ad => [.ref (ad 54), .ref (ad q1), .int x2, .int x3]) σ none o :=
  sn_met (by decide) (fun _ => Nat.le_of_ble_eq_true rfl) (fun p e s m args below meth c ls D ct ad A C hw hl => wX7_note_in C h1 hf (fun H locs ls pc hw ok hd => sn_vret C hw hd) _ _ _ hw hl)
-- X7_seekIn
abbrev rmX7_seekIn : Room := { frames := 4, cells := 0, slots := 0, locals := 93 }
def BX7_seekIn_117 (σ : sn_S) (q1 : Nat) (q2 : Nat) : Option (sn_S) :=
  (some σ)
def BX7_seekIn_91 (σ : sn_S) (q1 : Nat) (q2 : Nat) (x3 : Int32) : Option ((sn_S × Int32) ⊕ ((sn_S) ⊕ sn_S)) :=
  (sn_gd (sn_in x3 30) (sn_gd (sn_in x3 30) (sn_lt (sn_pI σ (q2 + 1) x3.toNatClampNeg (sn_I σ (q1 + 1) x3.toNatClampNeg)) fun σ_3 => ((fX0_live σ_3 q2 x3 (x3 + (1 : Int32))).bind fun t_5 => (sn_lt (x3 + 1) fun y_7 => (some (.inl (t_5, y_7))))))))
def BX7_seekIn_85 (σ : sn_S) (q1 : Nat) (q2 : Nat) (x3 : Int32) (x4 : Int32) : Option ((sn_S × Int32) ⊕ (sn_S)) :=
  (sn_lt (x4 + 1) fun y_1 => (some (.inl (σ, y_1))))
def BX7_seekIn_31 (σ : sn_S) (q1 : Nat) (q2 : Nat) (x3 : Int32) (x4 : Int32) : Option ((sn_S × Int32) ⊕ (sn_S)) :=
  (if (9 : Int32) < x4 then
  (some (.inr (σ)))
  else
  (sn_gd (sn_in x3 30) (sn_gd (sn_in x3 30) (sn_lt (sn_pI σ (q2 + 1) x3.toNatClampNeg ((sn_I σ (q1 + 1) x3.toNatClampNeg) + x4)) fun σ_4 => ((fX0_live σ_4 q2 x3 (sn_I σ_4 q1 0)).bind fun t_6 => ((fX8_firstMinutes (sn_I t_6 q1 0)).bind fun t_8 => ((fX7_meets t_6 q2 t_8).bind fun t_10 => (if t_10 = 0 then
  (BX7_seekIn_85 t_6 q1 q2 x3 x4)
  else
  ((fX7_note t_6 q2 x3 x4).bind fun t_13 => (BX7_seekIn_85 t_13 q1 q2 x3 x4))))))))))
def LX7_seekIn_31 (q1 : Nat) (q2 : Nat) (x3 : Int32) (s : sn_S × Int32) : Option ((sn_S × Int32) ⊕ (sn_S)) := BX7_seekIn_31 s.1 q1 q2 x3 s.2
def BX7_seekIn_7 (σ : sn_S) (q1 : Nat) (q2 : Nat) (x3 : Int32) : Option ((sn_S × Int32) ⊕ ((sn_S) ⊕ sn_S)) :=
  (if (sn_I σ q1 0) ≤ x3 then
  (some (.inr (.inl (σ))))
  else
  ((fX8_firstMinutes x3).bind fun t_2 => ((fX7_meets σ q2 t_2).bind fun t_4 => (if t_4 = 0 then
  (some (.inr (.inr σ)))
  else
  ((sn_it (LX7_seekIn_31 q1 q2 x3) 5000 (σ, (1 : Int32))).bind fun t_7 => (BX7_seekIn_91 t_7 q1 q2 x3))))))
def LX7_seekIn_7 (q1 : Nat) (q2 : Nat) (s : sn_S × Int32) : Option ((sn_S × Int32) ⊕ ((sn_S) ⊕ sn_S)) := BX7_seekIn_7 s.1 q1 q2 s.2
def fX7_seekIn (σ : sn_S) (q1 : Nat) (q2 : Nat) : Option sn_S :=
  ((fX0_copyFrom σ q2 q1).bind fun t_1 => ((sn_it (LX7_seekIn_7 q1 q2) 5000 (t_1, (0 : Int32))).bind fun t_3 => Sum.elim (fun v_5 => (BX7_seekIn_117 v_5 q1 q2)) (fun r_6 => (some r_6)) t_3))
theorem wX7_seekIn_117 (C : sn_C p s m args meth c RX7 cX7_seekIn 5 none D ct ad layC A) {σ : sn_S} {q1 : Nat} {q2 : Nat} (h1 : sn_isX0 q1) (h2 : sn_isX0 q2) {o : sn_S} (hf : BX7_seekIn_117 σ q1 q2 = some o) (kr : sn_Kr p l e rmX7_seekIn s m args below meth c Q D ct ad layC A cX7_seekIn .return_ (true) o []) : sn_At p l e rmX7_seekIn s m args below meth c Q D ct ad layC A 5 σ 117 [] [] := by
  intro H locs ls hw hl
  have hx := C.1
  have hb := C.2.1
  unfold BX7_seekIn_117 at hf
  cases hf
  exact kr _ _ _ _ hw rfl dX7_seekIn_117
theorem wX7_seekIn_91 (C : sn_C p s m args meth c RX7 cX7_seekIn 5 none D ct ad layC A) {σ : sn_S} {q1 : Nat} {q2 : Nat} {x3 : Int32} (h1 : sn_isX0 q1) (h2 : sn_isX0 q2) {o : (sn_S × Int32) ⊕ ((sn_S) ⊕ sn_S)} (hf : BX7_seekIn_91 σ q1 q2 x3 = some o) (kc : ∀ v, o = .inl v → sn_At p l e rmX7_seekIn s m args below meth c Q D ct ad layC A 5 v.1 7 [(0, .ref (ad 54)), (1, .ref (ad q1)), (2, .ref (ad q2)), (3, .int v.2)] []) (kx : ∀ v, o = .inr (.inl v) → sn_At p l e rmX7_seekIn s m args below meth c Q D ct ad layC A 5 v 117 [] []) (kr : ∀ r, o = .inr (.inr r) → sn_Kr p l e rmX7_seekIn s m args below meth c Q D ct ad layC A cX7_seekIn .return_ (true) r []) : sn_At p l e rmX7_seekIn s m args below meth c Q D ct ad layC A 5 σ 91 [(0, .ref (ad 54)), (1, .ref (ad q1)), (2, .ref (ad q2)), (3, .int x3)] [] := by
  intro H locs ls hw hl
  have hx := C.1
  have hb := C.2.1
  unfold BX7_seekIn_91 at hf
  refine lv_aload_n hx hb dX7_seekIn_91 rfl (lv_at hl 2 rfl) ?_
  refine sn_getC (r := (q2 + 1)) C hw fd_RX7_49 (sn_look h2 (k := 0) rfl) rfl dX7_seekIn_92 ?_
  refine lv_iload_n hx hb dX7_seekIn_95 rfl (lv_at hl 3 rfl) ?_
  refine lv_aload_n hx hb dX7_seekIn_96 rfl (lv_at hl 1 rfl) ?_
  refine sn_getC (r := (q1 + 1)) C hw fd_RX7_49 (sn_look h1 (k := 0) rfl) rfl dX7_seekIn_97 ?_
  refine lv_iload_n hx hb dX7_seekIn_100 rfl (lv_at hl 3 rfl) ?_
  obtain ⟨g_1, hf⟩ := sn_gdE hf
  refine sn_iald C hw (sn_look h1 (k := 1) rfl) g_1 dX7_seekIn_101 ?_
  obtain ⟨g_2, hf⟩ := sn_gdE hf
  refine sn_iast C hw (sn_look h2 (k := 1) rfl) g_2 dX7_seekIn_102 (fun H locs hw => ?_)
  obtain ⟨σ_3, e_4, hf⟩ := sn_ltE hf
  rw [← e_4] at hw
  refine lv_aload_n hx hb dX7_seekIn_103 rfl (lv_at hl 2 rfl) ?_
  refine lv_iload_n hx hb dX7_seekIn_104 rfl (lv_at hl 3 rfl) ?_
  refine lv_iload_n hx hb dX7_seekIn_105 rfl (lv_at hl 3 rfl) ?_
  refine lv_iconst (v := 1) hx hb dX7_seekIn_106 rfl ?_
  refine lv_iadd hx hb dX7_seekIn_107 ?_
  obtain ⟨t_5, h_6, hf⟩ := sn_bd hf
  refine sn_callVv (rest := []) C hw (ctX0_live l h2 h_6) kl_RX7_52 (sn_look h2 (k := 0) rfl) rfl rfl rfl rfl (Nat.le_of_ble_eq_true rfl) dX7_seekIn_108 hl.1 (fun H locs hw => ?_)
  obtain ⟨y_7, e_8, hf⟩ := sn_ltE hf
  refine lv_iinc (v := y_7) (lv' := [(3, .int y_7), (0, .ref (ad 54)), (1, .ref (ad q1)), (2, .ref (ad q2))]) hx hb dX7_seekIn_111 hl (k := 3) rfl (by rw [e_8]; rfl) (by decide) rfl (fun ls hl => ?_)
  refine lv_goto (tgt := 7) hx hb dX7_seekIn_114 (by decide) ?_
  cases hf
  exact kc _ rfl _ _ _ hw (lv_sub hl [1, 2, 3, 0] rfl)
theorem wX7_seekIn_85 (C : sn_C p s m args meth c RX7 cX7_seekIn 5 none D ct ad layC A) {σ : sn_S} {q1 : Nat} {q2 : Nat} {x3 : Int32} {x4 : Int32} (h1 : sn_isX0 q1) (h2 : sn_isX0 q2) {o : (sn_S × Int32) ⊕ (sn_S)} (hf : BX7_seekIn_85 σ q1 q2 x3 x4 = some o) (kc : ∀ v, o = .inl v → sn_At p l e rmX7_seekIn s m args below meth c Q D ct ad layC A 5 v.1 31 [(0, .ref (ad 54)), (1, .ref (ad q1)), (2, .ref (ad q2)), (3, .int x3), (4, .int v.2)] []) (kx : ∀ v, o = .inr v → sn_At p l e rmX7_seekIn s m args below meth c Q D ct ad layC A 5 v 91 [(0, .ref (ad 54)), (1, .ref (ad q1)), (2, .ref (ad q2)), (3, .int x3)] []) : sn_At p l e rmX7_seekIn s m args below meth c Q D ct ad layC A 5 σ 85 [(0, .ref (ad 54)), (1, .ref (ad q1)), (2, .ref (ad q2)), (3, .int x3), (4, .int x4)] [] := by
  intro H locs ls hw hl
  have hx := C.1
  have hb := C.2.1
  unfold BX7_seekIn_85 at hf
  obtain ⟨y_1, e_2, hf⟩ := sn_ltE hf
  refine lv_iinc (v := y_1) (lv' := [(4, .int y_1), (0, .ref (ad 54)), (1, .ref (ad q1)), (2, .ref (ad q2)), (3, .int x3)]) hx hb dX7_seekIn_85 hl (k := 4) rfl (by rw [e_2]; rfl) (by decide) rfl (fun ls hl => ?_)
  refine lv_goto (tgt := 31) hx hb dX7_seekIn_88 (by decide) ?_
  cases hf
  exact kc _ rfl _ _ _ hw (lv_sub hl [1, 2, 3, 4, 0] rfl)
theorem wX7_seekIn_31 (C : sn_C p s m args meth c RX7 cX7_seekIn 5 none D ct ad layC A) {σ : sn_S} {q1 : Nat} {q2 : Nat} {x3 : Int32} {x4 : Int32} (h1 : sn_isX0 q1) (h2 : sn_isX0 q2) {o : (sn_S × Int32) ⊕ (sn_S)} (hf : BX7_seekIn_31 σ q1 q2 x3 x4 = some o) (kc : ∀ v, o = .inl v → sn_At p l e rmX7_seekIn s m args below meth c Q D ct ad layC A 5 v.1 31 [(0, .ref (ad 54)), (1, .ref (ad q1)), (2, .ref (ad q2)), (3, .int x3), (4, .int v.2)] []) (kx : ∀ v, o = .inr v → sn_At p l e rmX7_seekIn s m args below meth c Q D ct ad layC A 5 v 91 [(0, .ref (ad 54)), (1, .ref (ad q1)), (2, .ref (ad q2)), (3, .int x3)] []) : sn_At p l e rmX7_seekIn s m args below meth c Q D ct ad layC A 5 σ 31 [(0, .ref (ad 54)), (1, .ref (ad q1)), (2, .ref (ad q2)), (3, .int x3), (4, .int x4)] [] := by
  intro H locs ls hw hl
  have hx := C.1
  have hb := C.2.1
  unfold BX7_seekIn_31 at hf
  refine lv_iload hx hb dX7_seekIn_31 (lv_at hl 4 rfl) ?_
  refine lv_bipush (v := 9) hx hb dX7_seekIn_33 (by decide) ?_
  refine lv_icmp_gt (tgt := 91) hx hb dX7_seekIn_35 (by decide) (fun c_1 => ?_) (fun c_1 => ?_)
  · have hf := sn_if c_1 hf
    cases hf
    exact kx _ rfl _ _ _ hw (lv_sub hl [0, 1, 2, 3] rfl)
  · have hf := sn_el c_1 hf
    refine lv_aload_n hx hb dX7_seekIn_38 rfl (lv_at hl 2 rfl) ?_
    refine sn_getC (r := (q2 + 1)) C hw fd_RX7_49 (sn_look h2 (k := 0) rfl) rfl dX7_seekIn_39 ?_
    refine lv_iload_n hx hb dX7_seekIn_42 rfl (lv_at hl 3 rfl) ?_
    refine lv_aload_n hx hb dX7_seekIn_43 rfl (lv_at hl 1 rfl) ?_
    refine sn_getC (r := (q1 + 1)) C hw fd_RX7_49 (sn_look h1 (k := 0) rfl) rfl dX7_seekIn_44 ?_
    refine lv_iload_n hx hb dX7_seekIn_47 rfl (lv_at hl 3 rfl) ?_
    obtain ⟨g_2, hf⟩ := sn_gdE hf
    refine sn_iald C hw (sn_look h1 (k := 1) rfl) g_2 dX7_seekIn_48 ?_
    refine lv_iload hx hb dX7_seekIn_49 (lv_at hl 4 rfl) ?_
    refine lv_iadd hx hb dX7_seekIn_51 ?_
    obtain ⟨g_3, hf⟩ := sn_gdE hf
    refine sn_iast C hw (sn_look h2 (k := 1) rfl) g_3 dX7_seekIn_52 (fun H locs hw => ?_)
    obtain ⟨σ_4, e_5, hf⟩ := sn_ltE hf
    rw [← e_5] at hw
    refine lv_aload_n hx hb dX7_seekIn_53 rfl (lv_at hl 2 rfl) ?_
    refine lv_iload_n hx hb dX7_seekIn_54 rfl (lv_at hl 3 rfl) ?_
    refine lv_aload_n hx hb dX7_seekIn_55 rfl (lv_at hl 1 rfl) ?_
    refine sn_getI C hw fd_RX7_40 (sn_look h1 (k := 0) rfl) rfl dX7_seekIn_56 ?_
    obtain ⟨t_6, h_7, hf⟩ := sn_bd hf
    refine sn_callVv (rest := []) C hw (ctX0_live l h2 h_7) kl_RX7_52 (sn_look h2 (k := 0) rfl) rfl rfl rfl rfl (Nat.le_of_ble_eq_true rfl) dX7_seekIn_59 hl.1 (fun H locs hw => ?_)
    refine lv_aload_n hx hb dX7_seekIn_62 rfl (lv_at hl 0 rfl) ?_
    refine lv_aload_n hx hb dX7_seekIn_63 rfl (lv_at hl 2 rfl) ?_
    refine lv_aload_n hx hb dX7_seekIn_64 rfl (lv_at hl 1 rfl) ?_
    refine sn_getI C hw fd_RX7_40 (sn_look h1 (k := 0) rfl) rfl dX7_seekIn_65 ?_
    obtain ⟨t_8, h_9, hf⟩ := sn_bd hf
    refine sn_callNi (rest := [.ref (ad q2), .ref (ad 54)]) C hw (ctX8_firstMinutes l  h_9) kl_RX7_41 rfl rfl rfl (Nat.le_of_ble_eq_true rfl) dX7_seekIn_68 hl.1 (fun H locs hw => ?_)
    obtain ⟨t_10, h_11, hf⟩ := sn_bd hf
    refine sn_callVi (rest := []) C hw (ctX7_meets l h2 h_11) kl_RX7_45 layC_54 rfl rfl rfl rfl (Nat.le_of_ble_eq_true rfl) dX7_seekIn_71 hl.1 (fun H locs hw => ?_)
    refine lv_if_eq (tgt := 85) hx hb dX7_seekIn_74 (by decide) (fun c_12 => ?_) (fun c_12 => ?_)
    · have hf := sn_if c_12 hf
      exact wX7_seekIn_85 C h1 h2 hf kc kx _ _ _ hw (lv_sub hl [0, 1, 2, 3, 4] rfl)
    · have hf := sn_el c_12 hf
      refine lv_aload_n hx hb dX7_seekIn_77 rfl (lv_at hl 0 rfl) ?_
      refine lv_aload_n hx hb dX7_seekIn_78 rfl (lv_at hl 2 rfl) ?_
      refine lv_iload_n hx hb dX7_seekIn_79 rfl (lv_at hl 3 rfl) ?_
      refine lv_iload hx hb dX7_seekIn_80 (lv_at hl 4 rfl) ?_
      obtain ⟨t_13, h_14, hf⟩ := sn_bd hf
      refine sn_callVv (rest := []) C hw (ctX7_note l h2 h_14) kl_RX7_56 layC_54 rfl rfl rfl rfl (Nat.le_of_ble_eq_true rfl) dX7_seekIn_82 hl.1 (fun H locs hw => ?_)
      exact wX7_seekIn_85 C h1 h2 hf kc kx _ _ _ hw (lv_sub hl [0, 1, 2, 3, 4] rfl)
theorem wX7_seekIn_L31 (C : sn_C p s m args meth c RX7 cX7_seekIn 5 none D ct ad layC A) {q1 : Nat} {q2 : Nat} {x3 : Int32}  (h1 : sn_isX0 q1) (h2 : sn_isX0 q2) {z : sn_S × Int32} {t : sn_S} (h : sn_it (LX7_seekIn_31 q1 q2 x3) 5000 z = some t) (kx : ∀ v, t = v → sn_At p l e rmX7_seekIn s m args below meth c Q D ct ad layC A 5 v 91 [(0, .ref (ad 54)), (1, .ref (ad q1)), (2, .ref (ad q2)), (3, .int x3)] []) : sn_At p l e rmX7_seekIn s m args below meth c Q D ct ad layC A 5 z.1 31 [(0, .ref (ad 54)), (1, .ref (ad q1)), (2, .ref (ad q2)), (3, .int x3), (4, .int z.2)] [] :=
  sn_loop (f := LX7_seekIn_31 q1 q2 x3) (G := fun z => sn_At p l e rmX7_seekIn s m args below meth c Q D ct ad layC A 5 z.1 31 [(0, .ref (ad 54)), (1, .ref (ad q1)), (2, .ref (ad q2)), (3, .int x3), (4, .int z.2)] []) (E := fun t => (∀ v, t = v → sn_At p l e rmX7_seekIn s m args below meth c Q D ct ad layC A 5 v 91 [(0, .ref (ad 54)), (1, .ref (ad q1)), (2, .ref (ad q2)), (3, .int x3)] []) ∧ True) (fun z o hf k1 k2 => wX7_seekIn_31 C h1 h2 hf (fun v e => k1 v e) (fun v e => (k2 _ e).1 v rfl)) 5000 z t h ⟨kx, trivial⟩
theorem wX7_seekIn_7 (C : sn_C p s m args meth c RX7 cX7_seekIn 5 none D ct ad layC A) {σ : sn_S} {q1 : Nat} {q2 : Nat} {x3 : Int32} (h1 : sn_isX0 q1) (h2 : sn_isX0 q2) {o : (sn_S × Int32) ⊕ ((sn_S) ⊕ sn_S)} (hf : BX7_seekIn_7 σ q1 q2 x3 = some o) (kc : ∀ v, o = .inl v → sn_At p l e rmX7_seekIn s m args below meth c Q D ct ad layC A 5 v.1 7 [(0, .ref (ad 54)), (1, .ref (ad q1)), (2, .ref (ad q2)), (3, .int v.2)] []) (kx : ∀ v, o = .inr (.inl v) → sn_At p l e rmX7_seekIn s m args below meth c Q D ct ad layC A 5 v 117 [] []) (kr : ∀ r, o = .inr (.inr r) → sn_Kr p l e rmX7_seekIn s m args below meth c Q D ct ad layC A cX7_seekIn .return_ (true) r []) : sn_At p l e rmX7_seekIn s m args below meth c Q D ct ad layC A 5 σ 7 [(0, .ref (ad 54)), (1, .ref (ad q1)), (2, .ref (ad q2)), (3, .int x3)] [] := by
  intro H locs ls hw hl
  have hx := C.1
  have hb := C.2.1
  unfold BX7_seekIn_7 at hf
  refine lv_iload_n hx hb dX7_seekIn_7 rfl (lv_at hl 3 rfl) ?_
  refine lv_aload_n hx hb dX7_seekIn_8 rfl (lv_at hl 1 rfl) ?_
  refine sn_getI C hw fd_RX7_40 (sn_look h1 (k := 0) rfl) rfl dX7_seekIn_9 ?_
  refine lv_icmp_ge (tgt := 117) hx hb dX7_seekIn_12 (by decide) (fun c_1 => ?_) (fun c_1 => ?_)
  · have hf := sn_if c_1 hf
    cases hf
    exact kx _ rfl _ _ _ hw (lv_sub hl [] rfl)
  · have hf := sn_el c_1 hf
    refine lv_aload_n hx hb dX7_seekIn_15 rfl (lv_at hl 0 rfl) ?_
    refine lv_aload_n hx hb dX7_seekIn_16 rfl (lv_at hl 2 rfl) ?_
    refine lv_iload_n hx hb dX7_seekIn_17 rfl (lv_at hl 3 rfl) ?_
    obtain ⟨t_2, h_3, hf⟩ := sn_bd hf
    refine sn_callNi (rest := [.ref (ad q2), .ref (ad 54)]) C hw (ctX8_firstMinutes l  h_3) kl_RX7_41 rfl rfl rfl (Nat.le_of_ble_eq_true rfl) dX7_seekIn_18 hl.1 (fun H locs hw => ?_)
    obtain ⟨t_4, h_5, hf⟩ := sn_bd hf
    refine sn_callVi (rest := []) C hw (ctX7_meets l h2 h_5) kl_RX7_45 layC_54 rfl rfl rfl rfl (Nat.le_of_ble_eq_true rfl) dX7_seekIn_21 hl.1 (fun H locs hw => ?_)
    refine lv_if_ne (tgt := 28) hx hb dX7_seekIn_24 (by decide) (fun c_6 => ?_) (fun c_6 => ?_)
    · have hf := sn_el c_6 hf
      refine lv_iconst (v := 1) hx hb dX7_seekIn_28 rfl ?_
      refine lv_istore (lv' := [(4, .int (1 : Int32)), (0, .ref (ad 54)), (1, .ref (ad q1)), (2, .ref (ad q2)), (3, .int x3)]) hx hb dX7_seekIn_29 hl (by decide) rfl (fun ls hl => ?_)
      obtain ⟨t_7, h_8, hf⟩ := sn_bd hf
      exact wX7_seekIn_L31 C h1 h2 h_8 (fun v e => by cases e; exact wX7_seekIn_91 C h1 h2 hf kc kx kr) _ _ _ hw (lv_sub hl [1, 2, 3, 4, 0] rfl)
    · have hf := sn_if c_6 hf
      cases hf
      exact kr _ rfl _ _ _ _ hw rfl dX7_seekIn_27
theorem wX7_seekIn_L7 (C : sn_C p s m args meth c RX7 cX7_seekIn 5 none D ct ad layC A) {q1 : Nat} {q2 : Nat}  (h1 : sn_isX0 q1) (h2 : sn_isX0 q2) {z : sn_S × Int32} {t : (sn_S) ⊕ sn_S} (h : sn_it (LX7_seekIn_7 q1 q2) 5000 z = some t) (kx : ∀ v, t = .inl v → sn_At p l e rmX7_seekIn s m args below meth c Q D ct ad layC A 5 v 117 [] []) (kr : ∀ r, t = .inr r → sn_Kr p l e rmX7_seekIn s m args below meth c Q D ct ad layC A cX7_seekIn .return_ (true) r []) : sn_At p l e rmX7_seekIn s m args below meth c Q D ct ad layC A 5 z.1 7 [(0, .ref (ad 54)), (1, .ref (ad q1)), (2, .ref (ad q2)), (3, .int z.2)] [] :=
  sn_loop (f := LX7_seekIn_7 q1 q2) (G := fun z => sn_At p l e rmX7_seekIn s m args below meth c Q D ct ad layC A 5 z.1 7 [(0, .ref (ad 54)), (1, .ref (ad q1)), (2, .ref (ad q2)), (3, .int z.2)] []) (E := fun t => (∀ v, t = .inl v → sn_At p l e rmX7_seekIn s m args below meth c Q D ct ad layC A 5 v 117 [] []) ∧ (∀ r, t = .inr r → sn_Kr p l e rmX7_seekIn s m args below meth c Q D ct ad layC A cX7_seekIn .return_ (true) r [])) (fun z o hf k1 k2 => wX7_seekIn_7 C h1 h2 hf (fun v e => k1 v e) (fun v e => (k2 _ e).1 v rfl) (fun r e => (k2 _ e).2 r rfl)) 5000 z t h ⟨kx, kr⟩
theorem wX7_seekIn_in (C : sn_C p s m args meth c RX7 cX7_seekIn 5 none D ct ad layC A) {σ : sn_S} {q1 : Nat} {q2 : Nat} (h1 : sn_isX0 q1) (h2 : sn_isX0 q2) {o : sn_S} (hf : fX7_seekIn σ q1 q2 = some o) (kr : sn_Kr p l e rmX7_seekIn s m args below meth c Q D ct ad layC A cX7_seekIn .return_ (true) o []) : sn_At p l e rmX7_seekIn s m args below meth c Q D ct ad layC A 5 σ 0 [(0, .ref (ad 54)), (1, .ref (ad q1)), (2, .ref (ad q2))] [] := by
  intro H locs ls hw hl
  have hx := C.1
  have hb := C.2.1
  unfold fX7_seekIn at hf
  refine lv_aload_n hx hb dX7_seekIn_0 rfl (lv_at hl 2 rfl) ?_
  refine lv_aload_n hx hb dX7_seekIn_1 rfl (lv_at hl 1 rfl) ?_
  obtain ⟨t_1, h_2, hf⟩ := sn_bd hf
  refine sn_callVv (rest := []) C hw (ctX0_copyFrom l h2 h1 h_2) kl_RX7_34 (sn_look h2 (k := 0) rfl) rfl rfl rfl rfl (Nat.le_of_ble_eq_true rfl) dX7_seekIn_2 hl.1 (fun H locs hw => ?_)
  refine lv_iconst (v := 0) hx hb dX7_seekIn_5 rfl ?_
  refine lv_istore_n (lv' := [(3, .int (0 : Int32)), (0, .ref (ad 54)), (1, .ref (ad q1)), (2, .ref (ad q2))]) hx hb dX7_seekIn_6 rfl hl (by decide) rfl (fun ls hl => ?_)
  obtain ⟨t_3, h_4, hf⟩ := sn_bd hf
  rcases t_3 with v_5 | r_6
  · rw [Sum.elim_inl] at hf
    exact wX7_seekIn_L7 C h1 h2 h_4 (fun v e => by cases e; exact wX7_seekIn_117 C h1 h2 hf kr) (fun r e => by cases e) _ _ _ hw (lv_sub hl [1, 2, 3, 0] rfl)
  · rw [Sum.elim_inr] at hf
    cases hf
    exact wX7_seekIn_L7 C h1 h2 h_4 (fun v e => by cases e) (fun r e => by cases e; exact kr) _ _ _ hw (lv_sub hl [1, 2, 3, 0] rfl)
theorem ctX7_seekIn (l : Launch) {σ : sn_S} {q1 : Nat} {q2 : Nat} (h1 : sn_isX0 q1) (h2 : sn_isX0 q2) {o : sn_S} (hf : fX7_seekIn σ q1 q2 = some o) : sn_M l yX7_seekIn cX7_seekIn 5 none rmX7_seekIn layC (fun ad => [.ref (ad 54), .ref (ad q1), .ref (ad q2)]) σ none o :=
  sn_met (by decide) (fun _ => Nat.le_of_ble_eq_true rfl) (fun p e s m args below meth c ls D ct ad A C hw hl => wX7_seekIn_in C h1 h2 hf (fun H locs ls pc hw ok hd => sn_vret C hw hd) _ _ _ hw hl)
-- X7_atWorst
abbrev rmX7_atWorst : Room := { frames := 1, cells := 0, slots := 0, locals := 32 }
def BX7_atWorst_32 (σ : sn_S) (x2 : Int32) : Option (Int32) :=
  (some x2)
def BX7_atWorst_4 (σ : sn_S) (x1 : Int32) (x2 : Int32) (x3 : Int32) : Option ((Int32 × Int32) ⊕ (Int32)) :=
  (if (31 : Int32) ≤ x3 then
  (some (.inr (x2)))
  else
  (sn_gd (sn_in (((31 : Int32) * x1) + x3) 186) (sn_lt (if x2 < (sn_I σ 56 (((31 : Int32) * x1) + x3).toNatClampNeg) then (sn_I σ 56 (((31 : Int32) * x1) + x3).toNatClampNeg) else x2) fun y_3 => (sn_lt (x3 + 1) fun y_5 => (some (.inl (y_3, y_5)))))))
def LX7_atWorst_4 (σ : sn_S) (x1 : Int32) (s : Int32 × Int32) : Option ((Int32 × Int32) ⊕ (Int32)) := BX7_atWorst_4 σ x1 s.1 s.2
def fX7_atWorst (σ : sn_S) (x1 : Int32) : Option Int32 :=
  ((sn_it (LX7_atWorst_4 σ x1) 5000 ((0 : Int32), (0 : Int32))).bind fun t_1 => (BX7_atWorst_32 σ t_1))
theorem wX7_atWorst_32 (C : sn_C p s m args meth c RX7 cX7_atWorst 4 (some .int) D ct ad layC A) {σ : sn_S} {x2 : Int32}  {o : Int32} (hf : BX7_atWorst_32 σ x2 = some o) (kr : sn_Kr p l e rmX7_atWorst s m args below meth c Q D ct ad layC A cX7_atWorst .ireturn (true) σ [.int o]) : sn_At p l e rmX7_atWorst s m args below meth c Q D ct ad layC A 4 σ 32 [(2, .int x2)] [] := by
  intro H locs ls hw hl
  have hx := C.1
  have hb := C.2.1
  unfold BX7_atWorst_32 at hf
  refine lv_iload_n hx hb dX7_atWorst_32 rfl (lv_at hl 0 rfl) ?_
  cases hf
  exact kr _ _ _ _ hw rfl dX7_atWorst_33
theorem wX7_atWorst_4 (C : sn_C p s m args meth c RX7 cX7_atWorst 4 (some .int) D ct ad layC A) {σ : sn_S} {x1 : Int32} {x2 : Int32} {x3 : Int32}  {o : (Int32 × Int32) ⊕ (Int32)} (hf : BX7_atWorst_4 σ x1 x2 x3 = some o) (kc : ∀ v, o = .inl v → sn_At p l e rmX7_atWorst s m args below meth c Q D ct ad layC A 4 σ 4 [(0, .ref (ad 54)), (1, .int x1), (2, .int v.1), (3, .int v.2)] []) (kx : ∀ v, o = .inr v → sn_At p l e rmX7_atWorst s m args below meth c Q D ct ad layC A 4 σ 32 [(2, .int v)] []) : sn_At p l e rmX7_atWorst s m args below meth c Q D ct ad layC A 4 σ 4 [(0, .ref (ad 54)), (1, .int x1), (2, .int x2), (3, .int x3)] [] := by
  intro H locs ls hw hl
  have hx := C.1
  have hb := C.2.1
  unfold BX7_atWorst_4 at hf
  refine lv_iload_n hx hb dX7_atWorst_4 rfl (lv_at hl 3 rfl) ?_
  refine lv_bipush (v := 31) hx hb dX7_atWorst_5 (by decide) ?_
  refine lv_icmp_ge (tgt := 32) hx hb dX7_atWorst_7 (by decide) (fun c_1 => ?_) (fun c_1 => ?_)
  · have hf := sn_if c_1 hf
    cases hf
    exact kx _ rfl _ _ _ hw (lv_sub hl [2] rfl)
  · have hf := sn_el c_1 hf
    refine lv_iload_n hx hb dX7_atWorst_10 rfl (lv_at hl 2 rfl) ?_
    refine lv_aload_n hx hb dX7_atWorst_11 rfl (lv_at hl 0 rfl) ?_
    refine sn_getC (r := 56) C hw fd_RX7_15 layC_54 rfl dX7_atWorst_12 ?_
    refine lv_bipush (v := 31) hx hb dX7_atWorst_15 (by decide) ?_
    refine lv_iload_n hx hb dX7_atWorst_17 rfl (lv_at hl 1 rfl) ?_
    refine lv_imul hx hb dX7_atWorst_18 ?_
    refine lv_iload_n hx hb dX7_atWorst_19 rfl (lv_at hl 3 rfl) ?_
    refine lv_iadd hx hb dX7_atWorst_20 ?_
    obtain ⟨g_2, hf⟩ := sn_gdE hf
    refine sn_iald C hw layC_56 g_2 dX7_atWorst_21 ?_
    refine va_mmax hx hb (C.2.2.1.trans hl.1.symm) C.2.2.2.1 (C.2.2.2.2.1 _ km_RX7_71) (C.2.2.2.2.1 _ kst_maxI) (C.2.2.2.2.1 _ ki_Math) (C.2.2.2.2.1 _ kc_maxI) (Nat.le_of_ble_eq_true rfl) (Nat.le_of_ble_eq_true rfl) (Nat.zero_le _) (Nat.zero_le _) dX7_atWorst_22 ?_
    obtain ⟨y_3, e_4, hf⟩ := sn_ltE hf
    refine lv_topi (fun y_3_ e_4_ => ?_)
    obtain rfl : y_3 = y_3_ := e_4.trans e_4_.symm
    refine lv_istore_n (lv' := [(2, .int y_3), (0, .ref (ad 54)), (1, .int x1), (3, .int x3)]) hx hb dX7_atWorst_25 rfl hl (by decide) rfl (fun ls hl => ?_)
    obtain ⟨y_5, e_6, hf⟩ := sn_ltE hf
    refine lv_iinc (v := y_5) (lv' := [(3, .int y_5), (2, .int y_3), (0, .ref (ad 54)), (1, .int x1)]) hx hb dX7_atWorst_26 hl (k := 3) rfl (by rw [e_6]; rfl) (by decide) rfl (fun ls hl => ?_)
    refine lv_goto (tgt := 4) hx hb dX7_atWorst_29 (by decide) ?_
    cases hf
    exact kc _ rfl _ _ _ hw (lv_sub hl [2, 3, 1, 0] rfl)
theorem wX7_atWorst_L4 (C : sn_C p s m args meth c RX7 cX7_atWorst 4 (some .int) D ct ad layC A) {σ : sn_S} {x1 : Int32}   {z : Int32 × Int32} {t : Int32} (h : sn_it (LX7_atWorst_4 σ x1) 5000 z = some t) (kx : ∀ v, t = v → sn_At p l e rmX7_atWorst s m args below meth c Q D ct ad layC A 4 σ 32 [(2, .int v)] []) : sn_At p l e rmX7_atWorst s m args below meth c Q D ct ad layC A 4 σ 4 [(0, .ref (ad 54)), (1, .int x1), (2, .int z.1), (3, .int z.2)] [] :=
  sn_loop (f := LX7_atWorst_4 σ x1) (G := fun z => sn_At p l e rmX7_atWorst s m args below meth c Q D ct ad layC A 4 σ 4 [(0, .ref (ad 54)), (1, .int x1), (2, .int z.1), (3, .int z.2)] []) (E := fun t => (∀ v, t = v → sn_At p l e rmX7_atWorst s m args below meth c Q D ct ad layC A 4 σ 32 [(2, .int v)] []) ∧ True) (fun z o hf k1 k2 => wX7_atWorst_4 C  hf (fun v e => k1 v e) (fun v e => (k2 _ e).1 v rfl)) 5000 z t h ⟨kx, trivial⟩
theorem wX7_atWorst_in (C : sn_C p s m args meth c RX7 cX7_atWorst 4 (some .int) D ct ad layC A) {σ : sn_S} {x1 : Int32}  {o : Int32} (hf : fX7_atWorst σ x1 = some o) (kr : sn_Kr p l e rmX7_atWorst s m args below meth c Q D ct ad layC A cX7_atWorst .ireturn (true) σ [.int o]) : sn_At p l e rmX7_atWorst s m args below meth c Q D ct ad layC A 4 σ 0 [(0, .ref (ad 54)), (1, .int x1)] [] := by
  intro H locs ls hw hl
  have hx := C.1
  have hb := C.2.1
  unfold fX7_atWorst at hf
  refine lv_iconst (v := 0) hx hb dX7_atWorst_0 rfl ?_
  refine lv_istore_n (lv' := [(2, .int (0 : Int32)), (0, .ref (ad 54)), (1, .int x1)]) hx hb dX7_atWorst_1 rfl hl (by decide) rfl (fun ls hl => ?_)
  refine lv_iconst (v := 0) hx hb dX7_atWorst_2 rfl ?_
  refine lv_istore_n (lv' := [(3, .int (0 : Int32)), (2, .int (0 : Int32)), (0, .ref (ad 54)), (1, .int x1)]) hx hb dX7_atWorst_3 rfl hl (by decide) rfl (fun ls hl => ?_)
  obtain ⟨t_1, h_2, hf⟩ := sn_bd hf
  exact wX7_atWorst_L4 C  h_2 (fun v e => by cases e; exact wX7_atWorst_32 C  hf kr) _ _ _ hw (lv_sub hl [2, 3, 1, 0] rfl)
theorem ctX7_atWorst (l : Launch) {σ : sn_S} {x1 : Int32}  {o : Int32} (hf : fX7_atWorst σ x1 = some o) : sn_M l yX7_atWorst cX7_atWorst 4 (some .int) rmX7_atWorst layC (fun ad => [.ref (ad 54), .int x1]) σ (some (fun _ => .int o)) σ :=
  sn_met (by decide) (fun _ => Nat.le_of_ble_eq_true rfl) (fun p e s m args below meth c ls D ct ad A C hw hl => wX7_atWorst_in C  hf (fun H locs ls pc hw ok hd => sn_iret C hw hd) _ _ _ hw hl)
-- X7_whomToAsk
abbrev rmX7_whomToAsk : Room := { frames := 2, cells := 0, slots := 0, locals := 55 }
def BX7_whomToAsk_42 (σ : sn_S) (x2 : Int32) : Option (Int32) :=
  (some x2)
def BX7_whomToAsk_36 (σ : sn_S) (x1 : Int32) (x2 : Int32) (x3 : Int32) (x4 : Int32) : Option ((Int32 × Int32 × Int32) ⊕ (Int32)) :=
  (sn_lt (x4 + 1) fun y_1 => (some (.inl (x2, x3, y_1))))
def BX7_whomToAsk_10 (σ : sn_S) (x1 : Int32) (x2 : Int32) (x3 : Int32) (x4 : Int32) : Option ((Int32 × Int32 × Int32) ⊕ (Int32)) :=
  (if x1 ≤ x4 then
  (some (.inr (x2)))
  else
  ((fX7_atWorst σ x4).bind fun t_2 => (if x3 ≤ t_2 then
  (BX7_whomToAsk_36 σ x1 x2 x3 x4)
  else
  (BX7_whomToAsk_36 σ x1 x4 t_2 x4))))
def LX7_whomToAsk_10 (σ : sn_S) (x1 : Int32) (s : Int32 × Int32 × Int32) : Option ((Int32 × Int32 × Int32) ⊕ (Int32)) := BX7_whomToAsk_10 σ x1 s.1 s.2.1 s.2.2
def fX7_whomToAsk (σ : sn_S) (x1 : Int32) : Option Int32 :=
  (sn_lt (sn_I σ 54 1) fun y_1 => ((sn_it (LX7_whomToAsk_10 σ x1) 5000 ((-1 : Int32), y_1, (0 : Int32))).bind fun t_3 => (BX7_whomToAsk_42 σ t_3)))
theorem wX7_whomToAsk_42 (C : sn_C p s m args meth c RX7 cX7_whomToAsk 6 (some .int) D ct ad layC A) {σ : sn_S} {x2 : Int32}  {o : Int32} (hf : BX7_whomToAsk_42 σ x2 = some o) (kr : sn_Kr p l e rmX7_whomToAsk s m args below meth c Q D ct ad layC A cX7_whomToAsk .ireturn (true) σ [.int o]) : sn_At p l e rmX7_whomToAsk s m args below meth c Q D ct ad layC A 6 σ 42 [(2, .int x2)] [] := by
  intro H locs ls hw hl
  have hx := C.1
  have hb := C.2.1
  unfold BX7_whomToAsk_42 at hf
  refine lv_iload_n hx hb dX7_whomToAsk_42 rfl (lv_at hl 0 rfl) ?_
  cases hf
  exact kr _ _ _ _ hw rfl dX7_whomToAsk_43
theorem wX7_whomToAsk_36 (C : sn_C p s m args meth c RX7 cX7_whomToAsk 6 (some .int) D ct ad layC A) {σ : sn_S} {x1 : Int32} {x2 : Int32} {x3 : Int32} {x4 : Int32}  {o : (Int32 × Int32 × Int32) ⊕ (Int32)} (hf : BX7_whomToAsk_36 σ x1 x2 x3 x4 = some o) (kc : ∀ v, o = .inl v → sn_At p l e rmX7_whomToAsk s m args below meth c Q D ct ad layC A 6 σ 10 [(0, .ref (ad 54)), (1, .int x1), (2, .int v.1), (3, .int v.2.1), (4, .int v.2.2)] []) (kx : ∀ v, o = .inr v → sn_At p l e rmX7_whomToAsk s m args below meth c Q D ct ad layC A 6 σ 42 [(2, .int v)] []) : sn_At p l e rmX7_whomToAsk s m args below meth c Q D ct ad layC A 6 σ 36 [(0, .ref (ad 54)), (1, .int x1), (2, .int x2), (3, .int x3), (4, .int x4)] [] := by
  intro H locs ls hw hl
  have hx := C.1
  have hb := C.2.1
  unfold BX7_whomToAsk_36 at hf
  obtain ⟨y_1, e_2, hf⟩ := sn_ltE hf
  refine lv_iinc (v := y_1) (lv' := [(4, .int y_1), (0, .ref (ad 54)), (1, .int x1), (2, .int x2), (3, .int x3)]) hx hb dX7_whomToAsk_36 hl (k := 4) rfl (by rw [e_2]; rfl) (by decide) rfl (fun ls hl => ?_)
  refine lv_goto (tgt := 10) hx hb dX7_whomToAsk_39 (by decide) ?_
  cases hf
  exact kc _ rfl _ _ _ hw (lv_sub hl [1, 2, 3, 4, 0] rfl)
theorem wX7_whomToAsk_10 (C : sn_C p s m args meth c RX7 cX7_whomToAsk 6 (some .int) D ct ad layC A) {σ : sn_S} {x1 : Int32} {x2 : Int32} {x3 : Int32} {x4 : Int32}  {o : (Int32 × Int32 × Int32) ⊕ (Int32)} (hf : BX7_whomToAsk_10 σ x1 x2 x3 x4 = some o) (kc : ∀ v, o = .inl v → sn_At p l e rmX7_whomToAsk s m args below meth c Q D ct ad layC A 6 σ 10 [(0, .ref (ad 54)), (1, .int x1), (2, .int v.1), (3, .int v.2.1), (4, .int v.2.2)] []) (kx : ∀ v, o = .inr v → sn_At p l e rmX7_whomToAsk s m args below meth c Q D ct ad layC A 6 σ 42 [(2, .int v)] []) : sn_At p l e rmX7_whomToAsk s m args below meth c Q D ct ad layC A 6 σ 10 [(0, .ref (ad 54)), (1, .int x1), (2, .int x2), (3, .int x3), (4, .int x4)] [] := by
  intro H locs ls hw hl
  have hx := C.1
  have hb := C.2.1
  unfold BX7_whomToAsk_10 at hf
  refine lv_iload hx hb dX7_whomToAsk_10 (lv_at hl 4 rfl) ?_
  refine lv_iload_n hx hb dX7_whomToAsk_12 rfl (lv_at hl 1 rfl) ?_
  refine lv_icmp_ge (tgt := 42) hx hb dX7_whomToAsk_13 (by decide) (fun c_1 => ?_) (fun c_1 => ?_)
  · have hf := sn_if c_1 hf
    cases hf
    exact kx _ rfl _ _ _ hw (lv_sub hl [2] rfl)
  · have hf := sn_el c_1 hf
    refine lv_aload_n hx hb dX7_whomToAsk_16 rfl (lv_at hl 0 rfl) ?_
    refine lv_iload hx hb dX7_whomToAsk_17 (lv_at hl 4 rfl) ?_
    obtain ⟨t_2, h_3, hf⟩ := sn_bd hf
    refine sn_callVi (rest := []) C hw (ctX7_atWorst l  h_3) kl_RX7_77 layC_54 rfl rfl rfl rfl (Nat.le_of_ble_eq_true rfl) dX7_whomToAsk_19 hl.1 (fun H locs hw => ?_)
    refine lv_istore (lv' := [(5, .int t_2), (0, .ref (ad 54)), (1, .int x1), (2, .int x2), (3, .int x3), (4, .int x4)]) hx hb dX7_whomToAsk_22 hl (by decide) rfl (fun ls hl => ?_)
    refine lv_iload hx hb dX7_whomToAsk_24 (lv_at hl 0 rfl) ?_
    refine lv_iload_n hx hb dX7_whomToAsk_26 rfl (lv_at hl 4 rfl) ?_
    refine lv_icmp_ge (tgt := 36) hx hb dX7_whomToAsk_27 (by decide) (fun c_4 => ?_) (fun c_4 => ?_)
    · have hf := sn_if c_4 hf
      exact wX7_whomToAsk_36 C  hf kc kx _ _ _ hw (lv_sub hl [1, 2, 3, 4, 5] rfl)
    · have hf := sn_el c_4 hf
      refine lv_iload hx hb dX7_whomToAsk_30 (lv_at hl 0 rfl) ?_
      refine lv_istore_n (lv' := [(3, .int t_2), (5, .int t_2), (0, .ref (ad 54)), (1, .int x1), (2, .int x2), (4, .int x4)]) hx hb dX7_whomToAsk_32 rfl hl (by decide) rfl (fun ls hl => ?_)
      refine lv_iload hx hb dX7_whomToAsk_33 (lv_at hl 5 rfl) ?_
      refine lv_istore_n (lv' := [(2, .int x4), (3, .int t_2), (5, .int t_2), (0, .ref (ad 54)), (1, .int x1), (4, .int x4)]) hx hb dX7_whomToAsk_35 rfl hl (by decide) rfl (fun ls hl => ?_)
      exact wX7_whomToAsk_36 C  hf kc kx _ _ _ hw (lv_sub hl [3, 4, 0, 1, 5] rfl)
theorem wX7_whomToAsk_L10 (C : sn_C p s m args meth c RX7 cX7_whomToAsk 6 (some .int) D ct ad layC A) {σ : sn_S} {x1 : Int32}   {z : Int32 × Int32 × Int32} {t : Int32} (h : sn_it (LX7_whomToAsk_10 σ x1) 5000 z = some t) (kx : ∀ v, t = v → sn_At p l e rmX7_whomToAsk s m args below meth c Q D ct ad layC A 6 σ 42 [(2, .int v)] []) : sn_At p l e rmX7_whomToAsk s m args below meth c Q D ct ad layC A 6 σ 10 [(0, .ref (ad 54)), (1, .int x1), (2, .int z.1), (3, .int z.2.1), (4, .int z.2.2)] [] :=
  sn_loop (f := LX7_whomToAsk_10 σ x1) (G := fun z => sn_At p l e rmX7_whomToAsk s m args below meth c Q D ct ad layC A 6 σ 10 [(0, .ref (ad 54)), (1, .int x1), (2, .int z.1), (3, .int z.2.1), (4, .int z.2.2)] []) (E := fun t => (∀ v, t = v → sn_At p l e rmX7_whomToAsk s m args below meth c Q D ct ad layC A 6 σ 42 [(2, .int v)] []) ∧ True) (fun z o hf k1 k2 => wX7_whomToAsk_10 C  hf (fun v e => k1 v e) (fun v e => (k2 _ e).1 v rfl)) 5000 z t h ⟨kx, trivial⟩
theorem wX7_whomToAsk_in (C : sn_C p s m args meth c RX7 cX7_whomToAsk 6 (some .int) D ct ad layC A) {σ : sn_S} {x1 : Int32}  {o : Int32} (hf : fX7_whomToAsk σ x1 = some o) (kr : sn_Kr p l e rmX7_whomToAsk s m args below meth c Q D ct ad layC A cX7_whomToAsk .ireturn (true) σ [.int o]) : sn_At p l e rmX7_whomToAsk s m args below meth c Q D ct ad layC A 6 σ 0 [(0, .ref (ad 54)), (1, .int x1)] [] := by
  intro H locs ls hw hl
  have hx := C.1
  have hb := C.2.1
  unfold fX7_whomToAsk at hf
  refine lv_iconst (v := (-1)) hx hb dX7_whomToAsk_0 rfl ?_
  refine lv_istore_n (lv' := [(2, .int (-1 : Int32)), (0, .ref (ad 54)), (1, .int x1)]) hx hb dX7_whomToAsk_1 rfl hl (by decide) rfl (fun ls hl => ?_)
  refine lv_aload_n hx hb dX7_whomToAsk_2 rfl (lv_at hl 1 rfl) ?_
  refine sn_getI C hw fd_RX7_24 layC_54 rfl dX7_whomToAsk_3 ?_
  obtain ⟨y_1, e_2, hf⟩ := sn_ltE hf
  refine lv_topi (fun y_1_ e_2_ => ?_)
  obtain rfl : y_1 = y_1_ := e_2.trans e_2_.symm
  refine lv_istore_n (lv' := [(3, .int y_1), (2, .int (-1 : Int32)), (0, .ref (ad 54)), (1, .int x1)]) hx hb dX7_whomToAsk_6 rfl hl (by decide) rfl (fun ls hl => ?_)
  refine lv_iconst (v := 0) hx hb dX7_whomToAsk_7 rfl ?_
  refine lv_istore (lv' := [(4, .int (0 : Int32)), (3, .int y_1), (2, .int (-1 : Int32)), (0, .ref (ad 54)), (1, .int x1)]) hx hb dX7_whomToAsk_8 hl (by decide) rfl (fun ls hl => ?_)
  obtain ⟨t_3, h_4, hf⟩ := sn_bd hf
  exact wX7_whomToAsk_L10 C  h_4 (fun v e => by cases e; exact wX7_whomToAsk_42 C  hf kr) _ _ _ hw (lv_sub hl [3, 4, 2, 1, 0] rfl)
theorem ctX7_whomToAsk (l : Launch) {σ : sn_S} {x1 : Int32}  {o : Int32} (hf : fX7_whomToAsk σ x1 = some o) : sn_M l yX7_whomToAsk cX7_whomToAsk 6 (some .int) rmX7_whomToAsk layC (fun ad => [.ref (ad 54), .int x1]) σ (some (fun _ => .int o)) σ :=
  sn_met (by decide) (fun _ => Nat.le_of_ble_eq_true rfl) (fun p e s m args below meth c ls D ct ad A C hw hl => wX7_whomToAsk_in C  hf (fun H locs ls pc hw ok hd => sn_iret C hw hd) _ _ _ hw hl)
-- X8_feed
abbrev rmX8_feed : Room := { frames := 1, cells := 0, slots := 0, locals := 22 }
def fX8_feed (σ : sn_S) (x1 : Int32) (x2 : Int32) (x3 : Int32) (x4 : Int32) (x5 : Int32) : Option (Int32 × sn_S) :=
  (if ((sn_I σ 17 1) + (20 : Int32)) ≤ (900 : Int32) then
  ((fX5_put σ x1).bind fun t_2 => ((fX5_put t_2 x2).bind fun t_4 => ((fX5_put t_4 x3).bind fun t_6 => ((fX5_put t_6 x4).bind fun t_8 => ((fX5_put t_8 x5).bind fun t_10 => (some ((sn_I t_10 17 1), t_10)))))))
  else
  (some ((-1 : Int32), σ)))
theorem wX8_feed_in (C : sn_C p s m args meth c RX8 cX8_feed 6 (some .int) D ct ad layC A) {σ : sn_S} {x1 : Int32} {x2 : Int32} {x3 : Int32} {x4 : Int32} {x5 : Int32}  {o : (Int32 × sn_S)} (hf : fX8_feed σ x1 x2 x3 x4 x5 = some o) (kr : sn_Kr p l e rmX8_feed s m args below meth c Q D ct ad layC A cX8_feed .ireturn (true) o.2 [.int o.1]) : sn_At p l e rmX8_feed s m args below meth c Q D ct ad layC A 6 σ 0 [(0, .ref (ad 0)), (1, .int x1), (2, .int x2), (3, .int x3), (4, .int x4), (5, .int x5)] [] := by
  intro H locs ls hw hl
  have hx := C.1
  have hb := C.2.1
  unfold fX8_feed at hf
  refine lv_aload_n hx hb dX8_feed_0 rfl (lv_at hl 0 rfl) ?_
  refine sn_getC (r := 17) C hw fd_RX8_30 layC_0 rfl dX8_feed_1 ?_
  refine sn_getI C hw fd_RX8_79 layC_17 rfl dX8_feed_4 ?_
  refine lv_bipush (v := 20) hx hb dX8_feed_7 (by decide) ?_
  refine lv_iadd hx hb dX8_feed_9 ?_
  refine lv_sipush (v := 900) hx hb dX8_feed_10 (by decide) ?_
  refine lv_icmp_le (tgt := 18) hx hb dX8_feed_13 (by decide) (fun c_1 => ?_) (fun c_1 => ?_)
  · have hf := sn_if c_1 hf
    refine lv_aload_n hx hb dX8_feed_18 rfl (lv_at hl 0 rfl) ?_
    refine sn_getC (r := 17) C hw fd_RX8_30 layC_0 rfl dX8_feed_19 ?_
    refine lv_iload_n hx hb dX8_feed_22 rfl (lv_at hl 1 rfl) ?_
    obtain ⟨t_2, h_3, hf⟩ := sn_bd hf
    refine sn_callVv (rest := []) C hw (ctX5_put l  h_3) kl_RX8_83 layC_17 rfl rfl rfl rfl (Nat.le_of_ble_eq_true rfl) dX8_feed_23 hl.1 (fun H locs hw => ?_)
    refine lv_aload_n hx hb dX8_feed_26 rfl (lv_at hl 0 rfl) ?_
    refine sn_getC (r := 17) C hw fd_RX8_30 layC_0 rfl dX8_feed_27 ?_
    refine lv_iload_n hx hb dX8_feed_30 rfl (lv_at hl 2 rfl) ?_
    obtain ⟨t_4, h_5, hf⟩ := sn_bd hf
    refine sn_callVv (rest := []) C hw (ctX5_put l  h_5) kl_RX8_83 layC_17 rfl rfl rfl rfl (Nat.le_of_ble_eq_true rfl) dX8_feed_31 hl.1 (fun H locs hw => ?_)
    refine lv_aload_n hx hb dX8_feed_34 rfl (lv_at hl 0 rfl) ?_
    refine sn_getC (r := 17) C hw fd_RX8_30 layC_0 rfl dX8_feed_35 ?_
    refine lv_iload_n hx hb dX8_feed_38 rfl (lv_at hl 3 rfl) ?_
    obtain ⟨t_6, h_7, hf⟩ := sn_bd hf
    refine sn_callVv (rest := []) C hw (ctX5_put l  h_7) kl_RX8_83 layC_17 rfl rfl rfl rfl (Nat.le_of_ble_eq_true rfl) dX8_feed_39 hl.1 (fun H locs hw => ?_)
    refine lv_aload_n hx hb dX8_feed_42 rfl (lv_at hl 0 rfl) ?_
    refine sn_getC (r := 17) C hw fd_RX8_30 layC_0 rfl dX8_feed_43 ?_
    refine lv_iload hx hb dX8_feed_46 (lv_at hl 4 rfl) ?_
    obtain ⟨t_8, h_9, hf⟩ := sn_bd hf
    refine sn_callVv (rest := []) C hw (ctX5_put l  h_9) kl_RX8_83 layC_17 rfl rfl rfl rfl (Nat.le_of_ble_eq_true rfl) dX8_feed_48 hl.1 (fun H locs hw => ?_)
    refine lv_aload_n hx hb dX8_feed_51 rfl (lv_at hl 0 rfl) ?_
    refine sn_getC (r := 17) C hw fd_RX8_30 layC_0 rfl dX8_feed_52 ?_
    refine lv_iload hx hb dX8_feed_55 (lv_at hl 5 rfl) ?_
    obtain ⟨t_10, h_11, hf⟩ := sn_bd hf
    refine sn_callVv (rest := []) C hw (ctX5_put l  h_11) kl_RX8_83 layC_17 rfl rfl rfl rfl (Nat.le_of_ble_eq_true rfl) dX8_feed_57 hl.1 (fun H locs hw => ?_)
    refine lv_aload_n hx hb dX8_feed_60 rfl (lv_at hl 0 rfl) ?_
    refine sn_getC (r := 17) C hw fd_RX8_30 layC_0 rfl dX8_feed_61 ?_
    refine sn_getI C hw fd_RX8_79 layC_17 rfl dX8_feed_64 ?_
    cases hf
    exact kr _ _ _ _ hw rfl dX8_feed_67
  · have hf := sn_el c_1 hf
    refine lv_iconst (v := (-1)) hx hb dX8_feed_16 rfl ?_
    cases hf
    exact kr _ _ _ _ hw rfl dX8_feed_17
theorem ctX8_feed (l : Launch) {σ : sn_S} {x1 : Int32} {x2 : Int32} {x3 : Int32} {x4 : Int32} {x5 : Int32}  {o : (Int32 × sn_S)} (hf : fX8_feed σ x1 x2 x3 x4 x5 = some o) : sn_M l yX8_feed cX8_feed 6 (some .int) rmX8_feed layC (fun ad => [.ref (ad 0), .int x1, .int x2, .int x3, .int x4, .int x5]) σ (some (fun _ => .int o.1)) o.2 :=
  sn_met (by decide) (fun _ => Nat.le_of_ble_eq_true rfl) (fun p e s m args below meth c ls D ct ad A C hw hl => wX8_feed_in C  hf (fun H locs ls pc hw ok hd => sn_iret C hw hd) _ _ _ hw hl)
-- X8_end
abbrev rmX8_end : Room := { frames := 0, cells := 0, slots := 0, locals := 0 }
def fX8_end (σ : sn_S) (x1 : Int32) : Option (Int32 × sn_S) :=
  (if x1 < 0 then
  (some ((-1 : Int32), σ))
  else
  (if x1 ≤ (sn_I σ 17 1) then
  (sn_lt (sn_pI σ 17 1 x1) fun σ_3 => (some (x1, σ_3)))
  else
  (some ((-1 : Int32), σ))))
theorem wX8_end_in (C : sn_C p s m args meth c RX8 cX8_end 2 (some .int) D ct ad layC A) {σ : sn_S} {x1 : Int32}  {o : (Int32 × sn_S)} (hf : fX8_end σ x1 = some o) (kr : sn_Kr p l e rmX8_end s m args below meth c Q D ct ad layC A cX8_end .ireturn (true) o.2 [.int o.1]) : sn_At p l e rmX8_end s m args below meth c Q D ct ad layC A 2 σ 0 [(0, .ref (ad 0)), (1, .int x1)] [] := by
  intro H locs ls hw hl
  have hx := C.1
  have hb := C.2.1
  unfold fX8_end at hf
  refine lv_iload_n hx hb dX8_end_0 rfl (lv_at hl 1 rfl) ?_
  refine lv_if_lt (tgt := 15) hx hb dX8_end_1 (by decide) (fun c_1 => ?_) (fun c_1 => ?_)
  · have hf := sn_if c_1 hf
    refine lv_iconst (v := (-1)) hx hb dX8_end_15 rfl ?_
    cases hf
    exact kr _ _ _ _ hw rfl dX8_end_16
  · have hf := sn_el c_1 hf
    refine lv_iload_n hx hb dX8_end_4 rfl (lv_at hl 1 rfl) ?_
    refine lv_aload_n hx hb dX8_end_5 rfl (lv_at hl 0 rfl) ?_
    refine sn_getC (r := 17) C hw fd_RX8_30 layC_0 rfl dX8_end_6 ?_
    refine sn_getI C hw fd_RX8_79 layC_17 rfl dX8_end_9 ?_
    refine lv_icmp_le (tgt := 17) hx hb dX8_end_12 (by decide) (fun c_2 => ?_) (fun c_2 => ?_)
    · have hf := sn_if c_2 hf
      refine lv_aload_n hx hb dX8_end_17 rfl (lv_at hl 0 rfl) ?_
      refine sn_getC (r := 17) C hw fd_RX8_30 layC_0 rfl dX8_end_18 ?_
      refine lv_iload_n hx hb dX8_end_21 rfl (lv_at hl 1 rfl) ?_
      refine sn_putI C hw fp_RX8_79 layC_17 rfl dX8_end_22 (fun H locs hw => ?_)
      obtain ⟨σ_3, e_4, hf⟩ := sn_ltE hf
      rw [← e_4] at hw
      refine lv_iload_n hx hb dX8_end_25 rfl (lv_at hl 1 rfl) ?_
      cases hf
      exact kr _ _ _ _ hw rfl dX8_end_26
    · have hf := sn_el c_2 hf
      refine lv_iconst (v := (-1)) hx hb dX8_end_15 rfl ?_
      cases hf
      exact kr _ _ _ _ hw rfl dX8_end_16
theorem ctX8_end (l : Launch) {σ : sn_S} {x1 : Int32}  {o : (Int32 × sn_S)} (hf : fX8_end σ x1 = some o) : sn_M l yX8_end cX8_end 2 (some .int) rmX8_end layC (fun ad => [.ref (ad 0), .int x1]) σ (some (fun _ => .int o.1)) o.2 :=
  sn_met (by decide) (fun _ => Nat.le_of_ble_eq_true rfl) (fun p e s m args below meth c ls D ct ad A C hw hl => wX8_end_in C  hf (fun H locs ls pc hw ok hd => sn_iret C hw hd) _ _ _ hw hl)
-- X8_liveAnew
abbrev rmX8_liveAnew : Room := { frames := 5, cells := 0, slots := 0, locals := 113 }
def fX8_liveAnew (σ : sn_S) : Option sn_S :=
  ((fX0_tellFrom σ 27 1).bind fun t_1 => ((fX0_liveWhole t_1 27).bind fun t_3 => (some t_3)))
theorem wX8_liveAnew_in (C : sn_C p s m args meth c RX8 cX8_liveAnew 1 none D ct ad layC A) {σ : sn_S}  {o : sn_S} (hf : fX8_liveAnew σ = some o) (kr : sn_Kr p l e rmX8_liveAnew s m args below meth c Q D ct ad layC A cX8_liveAnew .return_ (true) o []) : sn_At p l e rmX8_liveAnew s m args below meth c Q D ct ad layC A 1 σ 0 [(0, .ref (ad 0))] [] := by
  intro H locs ls hw hl
  have hx := C.1
  have hb := C.2.1
  unfold fX8_liveAnew at hf
  refine lv_aload_n hx hb dX8_liveAnew_0 rfl (lv_at hl 0 rfl) ?_
  refine sn_getC (r := 27) C hw fd_RX8_44 layC_0 rfl dX8_liveAnew_1 ?_
  refine lv_aload_n hx hb dX8_liveAnew_4 rfl (lv_at hl 0 rfl) ?_
  refine sn_getC (r := 1) C hw fd_RX8_10 layC_0 rfl dX8_liveAnew_5 ?_
  obtain ⟨t_1, h_2, hf⟩ := sn_bd hf
  refine sn_callVv (rest := []) C hw (ctX0_tellFrom l sn_isX0_27 sn_isX2_1 h_2) kl_RX8_373 (sn_look sn_isX0_27 (k := 0) rfl) rfl rfl rfl rfl (Nat.le_of_ble_eq_true rfl) dX8_liveAnew_8 hl.1 (fun H locs hw => ?_)
  refine lv_aload_n hx hb dX8_liveAnew_11 rfl (lv_at hl 0 rfl) ?_
  refine sn_getC (r := 27) C hw fd_RX8_44 layC_0 rfl dX8_liveAnew_12 ?_
  obtain ⟨t_3, h_4, hf⟩ := sn_bd hf
  refine sn_callVv (rest := []) C hw (ctX0_liveWhole l sn_isX0_27 h_4) kl_RX8_189 (sn_look sn_isX0_27 (k := 0) rfl) rfl rfl rfl rfl (Nat.le_of_ble_eq_true rfl) dX8_liveAnew_15 hl.1 (fun H locs hw => ?_)
  cases hf
  exact kr _ _ _ _ hw rfl dX8_liveAnew_18
theorem ctX8_liveAnew (l : Launch) {σ : sn_S}  {o : sn_S} (hf : fX8_liveAnew σ = some o) : sn_M l yX8_liveAnew cX8_liveAnew 1 none rmX8_liveAnew layC (fun ad => [.ref (ad 0)]) σ none o :=
  sn_met (by decide) (fun _ => Nat.le_of_ble_eq_true rfl) (fun p e s m args below meth c ls D ct ad A C hw hl => wX8_liveAnew_in C  hf (fun H locs ls pc hw ok hd => sn_vret C hw hd) _ _ _ hw hl)
-- X8_house
abbrev rmX8_house : Room := { frames := 9, cells := 0, slots := 0, locals := 193 }
def fX8_house (σ : sn_S) : Option (Int32 × sn_S) :=
  ((fX5_read σ 8).bind fun t_1 => (sn_lt (sn_pI t_1 17 1 (0 : Int32)) fun σ_3 => (if (sn_I σ_3 17 2) = 0 then
  ((fX2_copyFrom σ_3 1 8).bind fun t_6 => ((fX8_liveAnew t_6).bind fun t_8 => (sn_gd (sn_in (10 : Int32) 11) (some ((sn_I t_8 (1 + 1) (10 : Int32).toNatClampNeg), t_8)))))
  else
  (some ((-4 : Int32), σ_3)))))
theorem wX8_house_in (C : sn_C p s m args meth c RX8 cX8_house 1 (some .int) D ct ad layC A) {σ : sn_S}  {o : (Int32 × sn_S)} (hf : fX8_house σ = some o) (kr : sn_Kr p l e rmX8_house s m args below meth c Q D ct ad layC A cX8_house .ireturn (true) o.2 [.int o.1]) : sn_At p l e rmX8_house s m args below meth c Q D ct ad layC A 1 σ 0 [(0, .ref (ad 0))] [] := by
  intro H locs ls hw hl
  have hx := C.1
  have hb := C.2.1
  unfold fX8_house at hf
  refine lv_aload_n hx hb dX8_house_0 rfl (lv_at hl 0 rfl) ?_
  refine sn_getC (r := 17) C hw fd_RX8_30 layC_0 rfl dX8_house_1 ?_
  refine lv_aload_n hx hb dX8_house_4 rfl (lv_at hl 0 rfl) ?_
  refine sn_getC (r := 8) C hw fd_RX8_16 layC_0 rfl dX8_house_5 ?_
  obtain ⟨t_1, h_2, hf⟩ := sn_bd hf
  refine sn_callVv (rest := []) C hw (ctX5_read l sn_isX2_8 h_2) kl_RX8_87 layC_17 rfl rfl rfl rfl (Nat.le_of_ble_eq_true rfl) dX8_house_8 hl.1 (fun H locs hw => ?_)
  refine lv_aload_n hx hb dX8_house_11 rfl (lv_at hl 0 rfl) ?_
  refine sn_getC (r := 17) C hw fd_RX8_30 layC_0 rfl dX8_house_12 ?_
  refine lv_iconst (v := 0) hx hb dX8_house_15 rfl ?_
  refine sn_putI C hw fp_RX8_79 layC_17 rfl dX8_house_16 (fun H locs hw => ?_)
  obtain ⟨σ_3, e_4, hf⟩ := sn_ltE hf
  rw [← e_4] at hw
  refine lv_aload_n hx hb dX8_house_19 rfl (lv_at hl 0 rfl) ?_
  refine sn_getC (r := 17) C hw fd_RX8_30 layC_0 rfl dX8_house_20 ?_
  refine sn_getI C hw fd_RX8_91 layC_17 rfl dX8_house_23 ?_
  refine lv_if_eq (tgt := 32) hx hb dX8_house_26 (by decide) (fun c_5 => ?_) (fun c_5 => ?_)
  · have hf := sn_if c_5 hf
    refine lv_aload_n hx hb dX8_house_32 rfl (lv_at hl 0 rfl) ?_
    refine sn_getC (r := 1) C hw fd_RX8_10 layC_0 rfl dX8_house_33 ?_
    refine lv_aload_n hx hb dX8_house_36 rfl (lv_at hl 0 rfl) ?_
    refine sn_getC (r := 8) C hw fd_RX8_16 layC_0 rfl dX8_house_37 ?_
    obtain ⟨t_6, h_7, hf⟩ := sn_bd hf
    refine sn_callVv (rest := []) C hw (ctX2_copyFrom l sn_isX2_1 sn_isX2_8 h_7) kl_RX8_94 (sn_look sn_isX2_1 (k := 0) rfl) rfl rfl rfl rfl (Nat.le_of_ble_eq_true rfl) dX8_house_40 hl.1 (fun H locs hw => ?_)
    refine lv_aload_n hx hb dX8_house_43 rfl (lv_at hl 0 rfl) ?_
    obtain ⟨t_8, h_9, hf⟩ := sn_bd hf
    refine sn_callVv (rest := []) C hw (ctX8_liveAnew l  h_9) kl_RX8_97 layC_0 rfl rfl rfl rfl (Nat.le_of_ble_eq_true rfl) dX8_house_44 hl.1 (fun H locs hw => ?_)
    refine lv_aload_n hx hb dX8_house_47 rfl (lv_at hl 0 rfl) ?_
    refine sn_getC (r := 1) C hw fd_RX8_10 layC_0 rfl dX8_house_48 ?_
    refine sn_getC (r := (1 + 1)) C hw fd_RX8_100 (sn_look sn_isX2_1 (k := 0) rfl) rfl dX8_house_51 ?_
    refine lv_bipush (v := 10) hx hb dX8_house_54 (by decide) ?_
    obtain ⟨g_10, hf⟩ := sn_gdE hf
    refine sn_iald C hw (sn_look sn_isX2_1 (k := 1) rfl) g_10 dX8_house_56 ?_
    cases hf
    exact kr _ _ _ _ hw rfl dX8_house_57
  · have hf := sn_el c_5 hf
    refine lv_bipush (v := (-4)) hx hb dX8_house_29 (by decide) ?_
    cases hf
    exact kr _ _ _ _ hw rfl dX8_house_31
theorem ctX8_house (l : Launch) {σ : sn_S}  {o : (Int32 × sn_S)} (hf : fX8_house σ = some o) : sn_M l yX8_house cX8_house 1 (some .int) rmX8_house layC (fun ad => [.ref (ad 0)]) σ (some (fun _ => .int o.1)) o.2 :=
  sn_met (by decide) (fun _ => Nat.le_of_ble_eq_true rfl) (fun p e s m args below meth c ls D ct ad A C hw hl => wX8_house_in C  hf (fun H locs ls pc hw ok hd => sn_iret C hw hd) _ _ _ hw hl)
-- X8_fault
abbrev rmX8_fault : Room := { frames := 0, cells := 0, slots := 0, locals := 0 }
def fX8_fault (σ : sn_S) (x1 : Int32) : Option Int32 :=
  (if x1 = 0 then
  (some (sn_I σ 17 2))
  else
  (if x1 = (1 : Int32) then
  (some (sn_I σ 17 3))
  else
  (some (-1 : Int32))))
theorem wX8_fault_in (C : sn_C p s m args meth c RX8 cX8_fault 2 (some .int) D ct ad layC A) {σ : sn_S} {x1 : Int32}  {o : Int32} (hf : fX8_fault σ x1 = some o) (kr : sn_Kr p l e rmX8_fault s m args below meth c Q D ct ad layC A cX8_fault .ireturn (true) σ [.int o]) : sn_At p l e rmX8_fault s m args below meth c Q D ct ad layC A 2 σ 0 [(0, .ref (ad 0)), (1, .int x1)] [] := by
  intro H locs ls hw hl
  have hx := C.1
  have hb := C.2.1
  unfold fX8_fault at hf
  refine lv_iload_n hx hb dX8_fault_0 rfl (lv_at hl 1 rfl) ?_
  refine lv_if_ne (tgt := 12) hx hb dX8_fault_1 (by decide) (fun c_1 => ?_) (fun c_1 => ?_)
  · have hf := sn_el c_1 hf
    refine lv_iload_n hx hb dX8_fault_12 rfl (lv_at hl 1 rfl) ?_
    refine lv_iconst (v := 1) hx hb dX8_fault_13 rfl ?_
    refine lv_icmp_ne (tgt := 27) hx hb dX8_fault_14 (by decide) (fun c_2 => ?_) (fun c_2 => ?_)
    · have hf := sn_el c_2 hf
      refine lv_iconst (v := (-1)) hx hb dX8_fault_27 rfl ?_
      cases hf
      exact kr _ _ _ _ hw rfl dX8_fault_28
    · have hf := sn_if c_2 hf
      refine lv_aload_n hx hb dX8_fault_17 rfl (lv_at hl 0 rfl) ?_
      refine sn_getC (r := 17) C hw fd_RX8_30 layC_0 rfl dX8_fault_18 ?_
      refine sn_getI C hw fd_RX8_104 layC_17 rfl dX8_fault_21 ?_
      refine lv_goto (tgt := 28) hx hb dX8_fault_24 (by decide) ?_
      cases hf
      exact kr _ _ _ _ hw rfl dX8_fault_28
  · have hf := sn_if c_1 hf
    refine lv_aload_n hx hb dX8_fault_4 rfl (lv_at hl 0 rfl) ?_
    refine sn_getC (r := 17) C hw fd_RX8_30 layC_0 rfl dX8_fault_5 ?_
    refine sn_getI C hw fd_RX8_91 layC_17 rfl dX8_fault_8 ?_
    cases hf
    exact kr _ _ _ _ hw rfl dX8_fault_11
theorem ctX8_fault (l : Launch) {σ : sn_S} {x1 : Int32}  {o : Int32} (hf : fX8_fault σ x1 = some o) : sn_M l yX8_fault cX8_fault 2 (some .int) rmX8_fault layC (fun ad => [.ref (ad 0), .int x1]) σ (some (fun _ => .int o)) σ :=
  sn_met (by decide) (fun _ => Nat.le_of_ble_eq_true rfl) (fun p e s m args below meth c ls D ct ad A C hw hl => wX8_fault_in C  hf (fun H locs ls pc hw ok hd => sn_iret C hw hd) _ _ _ hw hl)
-- X8_isPerson
abbrev rmX8_isPerson : Room := { frames := 0, cells := 0, slots := 0, locals := 0 }
def fX8_isPerson (σ : sn_S) (x1 : Int32) : Option Int32 :=
  (if x1 < 0 then
  (sn_gd (sn_b01 (0 : Int32)) (some (0 : Int32)))
  else
  (sn_gd (sn_in (5 : Int32) 11) (if (sn_I σ (1 + 1) (5 : Int32).toNatClampNeg) ≤ x1 then
  (sn_gd (sn_b01 (0 : Int32)) (some (0 : Int32)))
  else
  (sn_gd (sn_b01 (1 : Int32)) (some (1 : Int32))))))
theorem wX8_isPerson_in (C : sn_C p s m args meth c RX8 cX8_isPerson 2 (some .boolean) D ct ad layC A) {σ : sn_S} {x1 : Int32}  {o : Int32} (hf : fX8_isPerson σ x1 = some o) (kr : sn_Kr p l e rmX8_isPerson s m args below meth c Q D ct ad layC A cX8_isPerson .ireturn (sn_b01 o) σ [.int o]) : sn_At p l e rmX8_isPerson s m args below meth c Q D ct ad layC A 2 σ 0 [(0, .ref (ad 0)), (1, .int x1)] [] := by
  intro H locs ls hw hl
  have hx := C.1
  have hb := C.2.1
  unfold fX8_isPerson at hf
  refine lv_iload_n hx hb dX8_isPerson_0 rfl (lv_at hl 1 rfl) ?_
  refine lv_if_lt (tgt := 21) hx hb dX8_isPerson_1 (by decide) (fun c_1 => ?_) (fun c_1 => ?_)
  · have hf := sn_if c_1 hf
    refine lv_iconst (v := 0) hx hb dX8_isPerson_21 rfl ?_
    obtain ⟨g_2, hf⟩ := sn_gdE hf
    cases hf
    exact kr _ _ _ _ hw g_2 dX8_isPerson_22
  · have hf := sn_el c_1 hf
    refine lv_iload_n hx hb dX8_isPerson_4 rfl (lv_at hl 1 rfl) ?_
    refine lv_aload_n hx hb dX8_isPerson_5 rfl (lv_at hl 0 rfl) ?_
    refine sn_getC (r := 1) C hw fd_RX8_10 layC_0 rfl dX8_isPerson_6 ?_
    refine sn_getC (r := (1 + 1)) C hw fd_RX8_100 (sn_look sn_isX2_1 (k := 0) rfl) rfl dX8_isPerson_9 ?_
    refine lv_iconst (v := 5) hx hb dX8_isPerson_12 rfl ?_
    obtain ⟨g_3, hf⟩ := sn_gdE hf
    refine sn_iald C hw (sn_look sn_isX2_1 (k := 1) rfl) g_3 dX8_isPerson_13 ?_
    refine lv_icmp_ge (tgt := 21) hx hb dX8_isPerson_14 (by decide) (fun c_4 => ?_) (fun c_4 => ?_)
    · have hf := sn_if c_4 hf
      refine lv_iconst (v := 0) hx hb dX8_isPerson_21 rfl ?_
      obtain ⟨g_5, hf⟩ := sn_gdE hf
      cases hf
      exact kr _ _ _ _ hw g_5 dX8_isPerson_22
    · have hf := sn_el c_4 hf
      refine lv_iconst (v := 1) hx hb dX8_isPerson_17 rfl ?_
      refine lv_goto (tgt := 22) hx hb dX8_isPerson_18 (by decide) ?_
      obtain ⟨g_6, hf⟩ := sn_gdE hf
      cases hf
      exact kr _ _ _ _ hw g_6 dX8_isPerson_22
theorem ctX8_isPerson (l : Launch) {σ : sn_S} {x1 : Int32}  {o : Int32} (hf : fX8_isPerson σ x1 = some o) : sn_M l yX8_isPerson cX8_isPerson 2 (some .boolean) rmX8_isPerson layC (fun ad => [.ref (ad 0), .int x1]) σ (some (fun _ => .int o)) σ :=
  sn_met (by decide) (fun _ => Nat.le_of_ble_eq_true rfl) (fun p e s m args below meth c ls D ct ad A C hw hl => wX8_isPerson_in C  hf (fun H locs ls pc hw ok hd => sn_zret C hw ok hd) _ _ _ hw hl)
-- X8_nose
abbrev rmX8_nose : Room := { frames := 1, cells := 0, slots := 0, locals := 21 }
def fX8_nose (σ : sn_S) (x1 : Int32) (x2 : Int32) : Option Int32 :=
  ((fX8_isPerson σ x1).bind fun t_1 => (if t_1 = 0 then
  (some (-2 : Int32))
  else
  (if x2 < 0 then
  (some (-2 : Int32))
  else
  (if x2 ≤ (1 : Int32) then
  (sn_gd (sn_in (((2 : Int32) * x1) + x2) 12) (some (sn_I σ (1 + 2) (((2 : Int32) * x1) + x2).toNatClampNeg)))
  else
  (some (-2 : Int32))))))
theorem wX8_nose_in (C : sn_C p s m args meth c RX8 cX8_nose 3 (some .int) D ct ad layC A) {σ : sn_S} {x1 : Int32} {x2 : Int32}  {o : Int32} (hf : fX8_nose σ x1 x2 = some o) (kr : sn_Kr p l e rmX8_nose s m args below meth c Q D ct ad layC A cX8_nose .ireturn (true) σ [.int o]) : sn_At p l e rmX8_nose s m args below meth c Q D ct ad layC A 3 σ 0 [(0, .ref (ad 0)), (1, .int x1), (2, .int x2)] [] := by
  intro H locs ls hw hl
  have hx := C.1
  have hb := C.2.1
  unfold fX8_nose at hf
  refine lv_aload_n hx hb dX8_nose_0 rfl (lv_at hl 0 rfl) ?_
  refine lv_iload_n hx hb dX8_nose_1 rfl (lv_at hl 1 rfl) ?_
  obtain ⟨t_1, h_2, hf⟩ := sn_bd hf
  refine sn_callVi (rest := []) C hw (ctX8_isPerson l  h_2) kl_RX8_107 layC_0 rfl rfl rfl rfl (Nat.le_of_ble_eq_true rfl) dX8_nose_2 hl.1 (fun H locs hw => ?_)
  refine lv_if_eq (tgt := 17) hx hb dX8_nose_5 (by decide) (fun c_3 => ?_) (fun c_3 => ?_)
  · have hf := sn_if c_3 hf
    refine lv_bipush (v := (-2)) hx hb dX8_nose_17 (by decide) ?_
    cases hf
    exact kr _ _ _ _ hw rfl dX8_nose_19
  · have hf := sn_el c_3 hf
    refine lv_iload_n hx hb dX8_nose_8 rfl (lv_at hl 2 rfl) ?_
    refine lv_if_lt (tgt := 17) hx hb dX8_nose_9 (by decide) (fun c_4 => ?_) (fun c_4 => ?_)
    · have hf := sn_if c_4 hf
      refine lv_bipush (v := (-2)) hx hb dX8_nose_17 (by decide) ?_
      cases hf
      exact kr _ _ _ _ hw rfl dX8_nose_19
    · have hf := sn_el c_4 hf
      refine lv_iload_n hx hb dX8_nose_12 rfl (lv_at hl 2 rfl) ?_
      refine lv_iconst (v := 1) hx hb dX8_nose_13 rfl ?_
      refine lv_icmp_le (tgt := 20) hx hb dX8_nose_14 (by decide) (fun c_5 => ?_) (fun c_5 => ?_)
      · have hf := sn_if c_5 hf
        refine lv_aload_n hx hb dX8_nose_20 rfl (lv_at hl 0 rfl) ?_
        refine sn_getC (r := 1) C hw fd_RX8_10 layC_0 rfl dX8_nose_21 ?_
        refine sn_getC (r := (1 + 2)) C hw fd_RX8_111 (sn_look sn_isX2_1 (k := 0) rfl) rfl dX8_nose_24 ?_
        refine lv_iconst (v := 2) hx hb dX8_nose_27 rfl ?_
        refine lv_iload_n hx hb dX8_nose_28 rfl (lv_at hl 1 rfl) ?_
        refine lv_imul hx hb dX8_nose_29 ?_
        refine lv_iload_n hx hb dX8_nose_30 rfl (lv_at hl 2 rfl) ?_
        refine lv_iadd hx hb dX8_nose_31 ?_
        obtain ⟨g_6, hf⟩ := sn_gdE hf
        refine sn_iald C hw (sn_look sn_isX2_1 (k := 2) rfl) g_6 dX8_nose_32 ?_
        cases hf
        exact kr _ _ _ _ hw rfl dX8_nose_33
      · have hf := sn_el c_5 hf
        refine lv_bipush (v := (-2)) hx hb dX8_nose_17 (by decide) ?_
        cases hf
        exact kr _ _ _ _ hw rfl dX8_nose_19
theorem ctX8_nose (l : Launch) {σ : sn_S} {x1 : Int32} {x2 : Int32}  {o : Int32} (hf : fX8_nose σ x1 x2 = some o) : sn_M l yX8_nose cX8_nose 3 (some .int) rmX8_nose layC (fun ad => [.ref (ad 0), .int x1, .int x2]) σ (some (fun _ => .int o)) σ :=
  sn_met (by decide) (fun _ => Nat.le_of_ble_eq_true rfl) (fun p e s m args below meth c ls D ct ad A C hw hl => wX8_nose_in C  hf (fun H locs ls pc hw ok hd => sn_iret C hw hd) _ _ _ hw hl)
-- X8_isPolicy
abbrev rmX8_isPolicy : Room := { frames := 0, cells := 0, slots := 0, locals := 0 }
def fX8_isPolicy (σ : sn_S) (x1 : Int32) : Option Int32 :=
  (if x1 < 0 then
  (sn_gd (sn_b01 (0 : Int32)) (some (0 : Int32)))
  else
  (sn_gd (sn_in (8 : Int32) 11) (if (sn_I σ (1 + 1) (8 : Int32).toNatClampNeg) ≤ x1 then
  (sn_gd (sn_b01 (0 : Int32)) (some (0 : Int32)))
  else
  (sn_gd (sn_b01 (1 : Int32)) (some (1 : Int32))))))
theorem wX8_isPolicy_in (C : sn_C p s m args meth c RX8 cX8_isPolicy 2 (some .boolean) D ct ad layC A) {σ : sn_S} {x1 : Int32}  {o : Int32} (hf : fX8_isPolicy σ x1 = some o) (kr : sn_Kr p l e rmX8_isPolicy s m args below meth c Q D ct ad layC A cX8_isPolicy .ireturn (sn_b01 o) σ [.int o]) : sn_At p l e rmX8_isPolicy s m args below meth c Q D ct ad layC A 2 σ 0 [(0, .ref (ad 0)), (1, .int x1)] [] := by
  intro H locs ls hw hl
  have hx := C.1
  have hb := C.2.1
  unfold fX8_isPolicy at hf
  refine lv_iload_n hx hb dX8_isPolicy_0 rfl (lv_at hl 1 rfl) ?_
  refine lv_if_lt (tgt := 22) hx hb dX8_isPolicy_1 (by decide) (fun c_1 => ?_) (fun c_1 => ?_)
  · have hf := sn_if c_1 hf
    refine lv_iconst (v := 0) hx hb dX8_isPolicy_22 rfl ?_
    obtain ⟨g_2, hf⟩ := sn_gdE hf
    cases hf
    exact kr _ _ _ _ hw g_2 dX8_isPolicy_23
  · have hf := sn_el c_1 hf
    refine lv_iload_n hx hb dX8_isPolicy_4 rfl (lv_at hl 1 rfl) ?_
    refine lv_aload_n hx hb dX8_isPolicy_5 rfl (lv_at hl 0 rfl) ?_
    refine sn_getC (r := 1) C hw fd_RX8_10 layC_0 rfl dX8_isPolicy_6 ?_
    refine sn_getC (r := (1 + 1)) C hw fd_RX8_100 (sn_look sn_isX2_1 (k := 0) rfl) rfl dX8_isPolicy_9 ?_
    refine lv_bipush (v := 8) hx hb dX8_isPolicy_12 (by decide) ?_
    obtain ⟨g_3, hf⟩ := sn_gdE hf
    refine sn_iald C hw (sn_look sn_isX2_1 (k := 1) rfl) g_3 dX8_isPolicy_14 ?_
    refine lv_icmp_ge (tgt := 22) hx hb dX8_isPolicy_15 (by decide) (fun c_4 => ?_) (fun c_4 => ?_)
    · have hf := sn_if c_4 hf
      refine lv_iconst (v := 0) hx hb dX8_isPolicy_22 rfl ?_
      obtain ⟨g_5, hf⟩ := sn_gdE hf
      cases hf
      exact kr _ _ _ _ hw g_5 dX8_isPolicy_23
    · have hf := sn_el c_4 hf
      refine lv_iconst (v := 1) hx hb dX8_isPolicy_18 rfl ?_
      refine lv_goto (tgt := 23) hx hb dX8_isPolicy_19 (by decide) ?_
      obtain ⟨g_6, hf⟩ := sn_gdE hf
      cases hf
      exact kr _ _ _ _ hw g_6 dX8_isPolicy_23
theorem ctX8_isPolicy (l : Launch) {σ : sn_S} {x1 : Int32}  {o : Int32} (hf : fX8_isPolicy σ x1 = some o) : sn_M l yX8_isPolicy cX8_isPolicy 2 (some .boolean) rmX8_isPolicy layC (fun ad => [.ref (ad 0), .int x1]) σ (some (fun _ => .int o)) σ :=
  sn_met (by decide) (fun _ => Nat.le_of_ble_eq_true rfl) (fun p e s m args below meth c ls D ct ad A C hw hl => wX8_isPolicy_in C  hf (fun H locs ls pc hw ok hd => sn_zret C hw ok hd) _ _ _ hw hl)
-- X8_policy
abbrev rmX8_policy : Room := { frames := 1, cells := 0, slots := 0, locals := 22 }
def fX8_policy (σ : sn_S) (x1 : Int32) (x2 : Int32) : Option Int32 :=
  ((fX8_isPolicy σ x1).bind fun t_1 => (if t_1 = 0 then
  (some (-2 : Int32))
  else
  (if x2 < 0 then
  (some (-2 : Int32))
  else
  (if x2 < (5 : Int32) then
  ((fX2_ofPolicy σ 1 x1 x2).bind fun t_6 => (some t_6))
  else
  (some (-2 : Int32))))))
theorem wX8_policy_in (C : sn_C p s m args meth c RX8 cX8_policy 3 (some .int) D ct ad layC A) {σ : sn_S} {x1 : Int32} {x2 : Int32}  {o : Int32} (hf : fX8_policy σ x1 x2 = some o) (kr : sn_Kr p l e rmX8_policy s m args below meth c Q D ct ad layC A cX8_policy .ireturn (true) σ [.int o]) : sn_At p l e rmX8_policy s m args below meth c Q D ct ad layC A 3 σ 0 [(0, .ref (ad 0)), (1, .int x1), (2, .int x2)] [] := by
  intro H locs ls hw hl
  have hx := C.1
  have hb := C.2.1
  unfold fX8_policy at hf
  refine lv_aload_n hx hb dX8_policy_0 rfl (lv_at hl 0 rfl) ?_
  refine lv_iload_n hx hb dX8_policy_1 rfl (lv_at hl 1 rfl) ?_
  obtain ⟨t_1, h_2, hf⟩ := sn_bd hf
  refine sn_callVi (rest := []) C hw (ctX8_isPolicy l  h_2) kl_RX8_114 layC_0 rfl rfl rfl rfl (Nat.le_of_ble_eq_true rfl) dX8_policy_2 hl.1 (fun H locs hw => ?_)
  refine lv_if_eq (tgt := 17) hx hb dX8_policy_5 (by decide) (fun c_3 => ?_) (fun c_3 => ?_)
  · have hf := sn_if c_3 hf
    refine lv_bipush (v := (-2)) hx hb dX8_policy_17 (by decide) ?_
    cases hf
    exact kr _ _ _ _ hw rfl dX8_policy_19
  · have hf := sn_el c_3 hf
    refine lv_iload_n hx hb dX8_policy_8 rfl (lv_at hl 2 rfl) ?_
    refine lv_if_lt (tgt := 17) hx hb dX8_policy_9 (by decide) (fun c_4 => ?_) (fun c_4 => ?_)
    · have hf := sn_if c_4 hf
      refine lv_bipush (v := (-2)) hx hb dX8_policy_17 (by decide) ?_
      cases hf
      exact kr _ _ _ _ hw rfl dX8_policy_19
    · have hf := sn_el c_4 hf
      refine lv_iload_n hx hb dX8_policy_12 rfl (lv_at hl 2 rfl) ?_
      refine lv_iconst (v := 5) hx hb dX8_policy_13 rfl ?_
      refine lv_icmp_lt (tgt := 20) hx hb dX8_policy_14 (by decide) (fun c_5 => ?_) (fun c_5 => ?_)
      · have hf := sn_if c_5 hf
        refine lv_aload_n hx hb dX8_policy_20 rfl (lv_at hl 0 rfl) ?_
        refine sn_getC (r := 1) C hw fd_RX8_10 layC_0 rfl dX8_policy_21 ?_
        refine lv_iload_n hx hb dX8_policy_24 rfl (lv_at hl 1 rfl) ?_
        refine lv_iload_n hx hb dX8_policy_25 rfl (lv_at hl 2 rfl) ?_
        obtain ⟨t_6, h_7, hf⟩ := sn_bd hf
        refine sn_callVi (rest := []) C hw (ctX2_ofPolicy l sn_isX2_1 h_7) kl_RX8_117 (sn_look sn_isX2_1 (k := 0) rfl) rfl rfl rfl rfl (Nat.le_of_ble_eq_true rfl) dX8_policy_26 hl.1 (fun H locs hw => ?_)
        cases hf
        exact kr _ _ _ _ hw rfl dX8_policy_29
      · have hf := sn_el c_5 hf
        refine lv_bipush (v := (-2)) hx hb dX8_policy_17 (by decide) ?_
        cases hf
        exact kr _ _ _ _ hw rfl dX8_policy_19
theorem ctX8_policy (l : Launch) {σ : sn_S} {x1 : Int32} {x2 : Int32}  {o : Int32} (hf : fX8_policy σ x1 x2 = some o) : sn_M l yX8_policy cX8_policy 3 (some .int) rmX8_policy layC (fun ad => [.ref (ad 0), .int x1, .int x2]) σ (some (fun _ => .int o)) σ :=
  sn_met (by decide) (fun _ => Nat.le_of_ble_eq_true rfl) (fun p e s m args below meth c ls D ct ad A C hw hl => wX8_policy_in C  hf (fun H locs ls pc hw ok hd => sn_iret C hw hd) _ _ _ hw hl)
-- X8_beside
abbrev rmX8_beside : Room := { frames := 1, cells := 0, slots := 0, locals := 23 }
def fX8_beside (σ : sn_S) (x1 : Int32) : Option Int32 :=
  ((fX8_isPerson σ x1).bind fun t_1 => (if t_1 = 0 then
  (some (-2 : Int32))
  else
  ((fX2_neighbours σ 1 x1).bind fun t_4 => (some t_4))))
theorem wX8_beside_in (C : sn_C p s m args meth c RX8 cX8_beside 2 (some .int) D ct ad layC A) {σ : sn_S} {x1 : Int32}  {o : Int32} (hf : fX8_beside σ x1 = some o) (kr : sn_Kr p l e rmX8_beside s m args below meth c Q D ct ad layC A cX8_beside .ireturn (true) σ [.int o]) : sn_At p l e rmX8_beside s m args below meth c Q D ct ad layC A 2 σ 0 [(0, .ref (ad 0)), (1, .int x1)] [] := by
  intro H locs ls hw hl
  have hx := C.1
  have hb := C.2.1
  unfold fX8_beside at hf
  refine lv_aload_n hx hb dX8_beside_0 rfl (lv_at hl 0 rfl) ?_
  refine lv_iload_n hx hb dX8_beside_1 rfl (lv_at hl 1 rfl) ?_
  obtain ⟨t_1, h_2, hf⟩ := sn_bd hf
  refine sn_callVi (rest := []) C hw (ctX8_isPerson l  h_2) kl_RX8_107 layC_0 rfl rfl rfl rfl (Nat.le_of_ble_eq_true rfl) dX8_beside_2 hl.1 (fun H locs hw => ?_)
  refine lv_if_eq (tgt := 19) hx hb dX8_beside_5 (by decide) (fun c_3 => ?_) (fun c_3 => ?_)
  · have hf := sn_if c_3 hf
    refine lv_bipush (v := (-2)) hx hb dX8_beside_19 (by decide) ?_
    cases hf
    exact kr _ _ _ _ hw rfl dX8_beside_21
  · have hf := sn_el c_3 hf
    refine lv_aload_n hx hb dX8_beside_8 rfl (lv_at hl 0 rfl) ?_
    refine sn_getC (r := 1) C hw fd_RX8_10 layC_0 rfl dX8_beside_9 ?_
    refine lv_iload_n hx hb dX8_beside_12 rfl (lv_at hl 1 rfl) ?_
    obtain ⟨t_4, h_5, hf⟩ := sn_bd hf
    refine sn_callVi (rest := []) C hw (ctX2_neighbours l sn_isX2_1 h_5) kl_RX8_121 (sn_look sn_isX2_1 (k := 0) rfl) rfl rfl rfl rfl (Nat.le_of_ble_eq_true rfl) dX8_beside_13 hl.1 (fun H locs hw => ?_)
    refine lv_goto (tgt := 21) hx hb dX8_beside_16 (by decide) ?_
    cases hf
    exact kr _ _ _ _ hw rfl dX8_beside_21
theorem ctX8_beside (l : Launch) {σ : sn_S} {x1 : Int32}  {o : Int32} (hf : fX8_beside σ x1 = some o) : sn_M l yX8_beside cX8_beside 2 (some .int) rmX8_beside layC (fun ad => [.ref (ad 0), .int x1]) σ (some (fun _ => .int o)) σ :=
  sn_met (by decide) (fun _ => Nat.le_of_ble_eq_true rfl) (fun p e s m args below meth c ls D ct ad A C hw hl => wX8_beside_in C  hf (fun H locs ls pc hw ok hd => sn_iret C hw hd) _ _ _ hw hl)
-- X8_isMinute
abbrev rmX8_isMinute : Room := { frames := 0, cells := 0, slots := 0, locals := 0 }
def fX8_isMinute (σ : sn_S) (x1 : Int32) : Option Int32 :=
  (if x1 < 0 then
  (sn_gd (sn_b01 (0 : Int32)) (some (0 : Int32)))
  else
  (sn_gd (sn_in (0 : Int32) 11) (if (sn_I σ (1 + 1) (0 : Int32).toNatClampNeg) ≤ x1 then
  (sn_gd (sn_b01 (0 : Int32)) (some (0 : Int32)))
  else
  (sn_gd (sn_b01 (1 : Int32)) (some (1 : Int32))))))
theorem wX8_isMinute_in (C : sn_C p s m args meth c RX8 cX8_isMinute 2 (some .boolean) D ct ad layC A) {σ : sn_S} {x1 : Int32}  {o : Int32} (hf : fX8_isMinute σ x1 = some o) (kr : sn_Kr p l e rmX8_isMinute s m args below meth c Q D ct ad layC A cX8_isMinute .ireturn (sn_b01 o) σ [.int o]) : sn_At p l e rmX8_isMinute s m args below meth c Q D ct ad layC A 2 σ 0 [(0, .ref (ad 0)), (1, .int x1)] [] := by
  intro H locs ls hw hl
  have hx := C.1
  have hb := C.2.1
  unfold fX8_isMinute at hf
  refine lv_iload_n hx hb dX8_isMinute_0 rfl (lv_at hl 1 rfl) ?_
  refine lv_if_lt (tgt := 21) hx hb dX8_isMinute_1 (by decide) (fun c_1 => ?_) (fun c_1 => ?_)
  · have hf := sn_if c_1 hf
    refine lv_iconst (v := 0) hx hb dX8_isMinute_21 rfl ?_
    obtain ⟨g_2, hf⟩ := sn_gdE hf
    cases hf
    exact kr _ _ _ _ hw g_2 dX8_isMinute_22
  · have hf := sn_el c_1 hf
    refine lv_iload_n hx hb dX8_isMinute_4 rfl (lv_at hl 1 rfl) ?_
    refine lv_aload_n hx hb dX8_isMinute_5 rfl (lv_at hl 0 rfl) ?_
    refine sn_getC (r := 1) C hw fd_RX8_10 layC_0 rfl dX8_isMinute_6 ?_
    refine sn_getC (r := (1 + 1)) C hw fd_RX8_100 (sn_look sn_isX2_1 (k := 0) rfl) rfl dX8_isMinute_9 ?_
    refine lv_iconst (v := 0) hx hb dX8_isMinute_12 rfl ?_
    obtain ⟨g_3, hf⟩ := sn_gdE hf
    refine sn_iald C hw (sn_look sn_isX2_1 (k := 1) rfl) g_3 dX8_isMinute_13 ?_
    refine lv_icmp_ge (tgt := 21) hx hb dX8_isMinute_14 (by decide) (fun c_4 => ?_) (fun c_4 => ?_)
    · have hf := sn_if c_4 hf
      refine lv_iconst (v := 0) hx hb dX8_isMinute_21 rfl ?_
      obtain ⟨g_5, hf⟩ := sn_gdE hf
      cases hf
      exact kr _ _ _ _ hw g_5 dX8_isMinute_22
    · have hf := sn_el c_4 hf
      refine lv_iconst (v := 1) hx hb dX8_isMinute_17 rfl ?_
      refine lv_goto (tgt := 22) hx hb dX8_isMinute_18 (by decide) ?_
      obtain ⟨g_6, hf⟩ := sn_gdE hf
      cases hf
      exact kr _ _ _ _ hw g_6 dX8_isMinute_22
theorem ctX8_isMinute (l : Launch) {σ : sn_S} {x1 : Int32}  {o : Int32} (hf : fX8_isMinute σ x1 = some o) : sn_M l yX8_isMinute cX8_isMinute 2 (some .boolean) rmX8_isMinute layC (fun ad => [.ref (ad 0), .int x1]) σ (some (fun _ => .int o)) σ :=
  sn_met (by decide) (fun _ => Nat.le_of_ble_eq_true rfl) (fun p e s m args below meth c ls D ct ad A C hw hl => wX8_isMinute_in C  hf (fun H locs ls pc hw ok hd => sn_zret C hw ok hd) _ _ _ hw hl)
-- X8_dust
abbrev rmX8_dust : Room := { frames := 1, cells := 0, slots := 0, locals := 21 }
def fX8_dust (σ : sn_S) (x1 : Int32) : Option Int32 :=
  ((fX8_isMinute σ x1).bind fun t_1 => (if t_1 = 0 then
  (some (-2 : Int32))
  else
  (sn_gd (sn_in x1 30) (some (sn_I σ (27 + 1) x1.toNatClampNeg)))))
theorem wX8_dust_in (C : sn_C p s m args meth c RX8 cX8_dust 2 (some .int) D ct ad layC A) {σ : sn_S} {x1 : Int32}  {o : Int32} (hf : fX8_dust σ x1 = some o) (kr : sn_Kr p l e rmX8_dust s m args below meth c Q D ct ad layC A cX8_dust .ireturn (true) σ [.int o]) : sn_At p l e rmX8_dust s m args below meth c Q D ct ad layC A 2 σ 0 [(0, .ref (ad 0)), (1, .int x1)] [] := by
  intro H locs ls hw hl
  have hx := C.1
  have hb := C.2.1
  unfold fX8_dust at hf
  refine lv_aload_n hx hb dX8_dust_0 rfl (lv_at hl 0 rfl) ?_
  refine lv_iload_n hx hb dX8_dust_1 rfl (lv_at hl 1 rfl) ?_
  obtain ⟨t_1, h_2, hf⟩ := sn_bd hf
  refine sn_callVi (rest := []) C hw (ctX8_isMinute l  h_2) kl_RX8_125 layC_0 rfl rfl rfl rfl (Nat.le_of_ble_eq_true rfl) dX8_dust_2 hl.1 (fun H locs hw => ?_)
  refine lv_if_eq (tgt := 20) hx hb dX8_dust_5 (by decide) (fun c_3 => ?_) (fun c_3 => ?_)
  · have hf := sn_if c_3 hf
    refine lv_bipush (v := (-2)) hx hb dX8_dust_20 (by decide) ?_
    cases hf
    exact kr _ _ _ _ hw rfl dX8_dust_22
  · have hf := sn_el c_3 hf
    refine lv_aload_n hx hb dX8_dust_8 rfl (lv_at hl 0 rfl) ?_
    refine sn_getC (r := 27) C hw fd_RX8_44 layC_0 rfl dX8_dust_9 ?_
    refine sn_getC (r := (27 + 1)) C hw fd_RX8_128 (sn_look sn_isX0_27 (k := 0) rfl) rfl dX8_dust_12 ?_
    refine lv_iload_n hx hb dX8_dust_15 rfl (lv_at hl 1 rfl) ?_
    obtain ⟨g_4, hf⟩ := sn_gdE hf
    refine sn_iald C hw (sn_look sn_isX0_27 (k := 1) rfl) g_4 dX8_dust_16 ?_
    refine lv_goto (tgt := 22) hx hb dX8_dust_17 (by decide) ?_
    cases hf
    exact kr _ _ _ _ hw rfl dX8_dust_22
theorem ctX8_dust (l : Launch) {σ : sn_S} {x1 : Int32}  {o : Int32} (hf : fX8_dust σ x1 = some o) : sn_M l yX8_dust cX8_dust 2 (some .int) rmX8_dust layC (fun ad => [.ref (ad 0), .int x1]) σ (some (fun _ => .int o)) σ :=
  sn_met (by decide) (fun _ => Nat.le_of_ble_eq_true rfl) (fun p e s m args below meth c ls D ct ad A C hw hl => wX8_dust_in C  hf (fun H locs ls pc hw ok hd => sn_iret C hw hd) _ _ _ hw hl)
-- X8_sneezes
abbrev rmX8_sneezes : Room := { frames := 1, cells := 0, slots := 0, locals := 21 }
def fX8_sneezes (σ : sn_S) (x1 : Int32) : Option Int32 :=
  ((fX8_isPerson σ x1).bind fun t_1 => (if t_1 = 0 then
  (some (-2 : Int32))
  else
  (sn_gd (sn_in x1 6) (some (sn_I σ (27 + 10) x1.toNatClampNeg)))))
theorem wX8_sneezes_in (C : sn_C p s m args meth c RX8 cX8_sneezes 2 (some .int) D ct ad layC A) {σ : sn_S} {x1 : Int32}  {o : Int32} (hf : fX8_sneezes σ x1 = some o) (kr : sn_Kr p l e rmX8_sneezes s m args below meth c Q D ct ad layC A cX8_sneezes .ireturn (true) σ [.int o]) : sn_At p l e rmX8_sneezes s m args below meth c Q D ct ad layC A 2 σ 0 [(0, .ref (ad 0)), (1, .int x1)] [] := by
  intro H locs ls hw hl
  have hx := C.1
  have hb := C.2.1
  unfold fX8_sneezes at hf
  refine lv_aload_n hx hb dX8_sneezes_0 rfl (lv_at hl 0 rfl) ?_
  refine lv_iload_n hx hb dX8_sneezes_1 rfl (lv_at hl 1 rfl) ?_
  obtain ⟨t_1, h_2, hf⟩ := sn_bd hf
  refine sn_callVi (rest := []) C hw (ctX8_isPerson l  h_2) kl_RX8_107 layC_0 rfl rfl rfl rfl (Nat.le_of_ble_eq_true rfl) dX8_sneezes_2 hl.1 (fun H locs hw => ?_)
  refine lv_if_eq (tgt := 20) hx hb dX8_sneezes_5 (by decide) (fun c_3 => ?_) (fun c_3 => ?_)
  · have hf := sn_if c_3 hf
    refine lv_bipush (v := (-2)) hx hb dX8_sneezes_20 (by decide) ?_
    cases hf
    exact kr _ _ _ _ hw rfl dX8_sneezes_22
  · have hf := sn_el c_3 hf
    refine lv_aload_n hx hb dX8_sneezes_8 rfl (lv_at hl 0 rfl) ?_
    refine sn_getC (r := 27) C hw fd_RX8_44 layC_0 rfl dX8_sneezes_9 ?_
    refine sn_getC (r := (27 + 10)) C hw fd_RX8_131 (sn_look sn_isX0_27 (k := 0) rfl) rfl dX8_sneezes_12 ?_
    refine lv_iload_n hx hb dX8_sneezes_15 rfl (lv_at hl 1 rfl) ?_
    obtain ⟨g_4, hf⟩ := sn_gdE hf
    refine sn_iald C hw (sn_look sn_isX0_27 (k := 10) rfl) g_4 dX8_sneezes_16 ?_
    refine lv_goto (tgt := 22) hx hb dX8_sneezes_17 (by decide) ?_
    cases hf
    exact kr _ _ _ _ hw rfl dX8_sneezes_22
theorem ctX8_sneezes (l : Launch) {σ : sn_S} {x1 : Int32}  {o : Int32} (hf : fX8_sneezes σ x1 = some o) : sn_M l yX8_sneezes cX8_sneezes 2 (some .int) rmX8_sneezes layC (fun ad => [.ref (ad 0), .int x1]) σ (some (fun _ => .int o)) σ :=
  sn_met (by decide) (fun _ => Nat.le_of_ble_eq_true rfl) (fun p e s m args below meth c ls D ct ad A C hw hl => wX8_sneezes_in C  hf (fun H locs ls pc hw ok hd => sn_iret C hw hd) _ _ _ hw hl)
-- X8_first
abbrev rmX8_first : Room := { frames := 2, cells := 0, slots := 0, locals := 40 }
def fX8_first (σ : sn_S) (x1 : Int32) : Option Int32 :=
  ((fX8_isPerson σ x1).bind fun t_1 => (if t_1 = 0 then
  (some (-2 : Int32))
  else
  (sn_gd (sn_in x1 6) ((fX8_lowestBit (sn_I σ (27 + 10) x1.toNatClampNeg)).bind fun t_5 => (some t_5)))))
theorem wX8_first_in (C : sn_C p s m args meth c RX8 cX8_first 2 (some .int) D ct ad layC A) {σ : sn_S} {x1 : Int32}  {o : Int32} (hf : fX8_first σ x1 = some o) (kr : sn_Kr p l e rmX8_first s m args below meth c Q D ct ad layC A cX8_first .ireturn (true) σ [.int o]) : sn_At p l e rmX8_first s m args below meth c Q D ct ad layC A 2 σ 0 [(0, .ref (ad 0)), (1, .int x1)] [] := by
  intro H locs ls hw hl
  have hx := C.1
  have hb := C.2.1
  unfold fX8_first at hf
  refine lv_aload_n hx hb dX8_first_0 rfl (lv_at hl 0 rfl) ?_
  refine lv_iload_n hx hb dX8_first_1 rfl (lv_at hl 1 rfl) ?_
  obtain ⟨t_1, h_2, hf⟩ := sn_bd hf
  refine sn_callVi (rest := []) C hw (ctX8_isPerson l  h_2) kl_RX8_107 layC_0 rfl rfl rfl rfl (Nat.le_of_ble_eq_true rfl) dX8_first_2 hl.1 (fun H locs hw => ?_)
  refine lv_if_eq (tgt := 23) hx hb dX8_first_5 (by decide) (fun c_3 => ?_) (fun c_3 => ?_)
  · have hf := sn_if c_3 hf
    refine lv_bipush (v := (-2)) hx hb dX8_first_23 (by decide) ?_
    cases hf
    exact kr _ _ _ _ hw rfl dX8_first_25
  · have hf := sn_el c_3 hf
    refine lv_aload_n hx hb dX8_first_8 rfl (lv_at hl 0 rfl) ?_
    refine sn_getC (r := 27) C hw fd_RX8_44 layC_0 rfl dX8_first_9 ?_
    refine sn_getC (r := (27 + 10)) C hw fd_RX8_131 (sn_look sn_isX0_27 (k := 0) rfl) rfl dX8_first_12 ?_
    refine lv_iload_n hx hb dX8_first_15 rfl (lv_at hl 1 rfl) ?_
    obtain ⟨g_4, hf⟩ := sn_gdE hf
    refine sn_iald C hw (sn_look sn_isX0_27 (k := 10) rfl) g_4 dX8_first_16 ?_
    obtain ⟨t_5, h_6, hf⟩ := sn_bd hf
    refine sn_callSi (rest := []) C hw (ctX8_lowestBit l  h_6) kl_RX8_134 rfl rfl rfl (Nat.le_of_ble_eq_true rfl) dX8_first_17 hl.1 (fun H locs hw => ?_)
    refine lv_goto (tgt := 25) hx hb dX8_first_20 (by decide) ?_
    cases hf
    exact kr _ _ _ _ hw rfl dX8_first_25
theorem ctX8_first (l : Launch) {σ : sn_S} {x1 : Int32}  {o : Int32} (hf : fX8_first σ x1 = some o) : sn_M l yX8_first cX8_first 2 (some .int) rmX8_first layC (fun ad => [.ref (ad 0), .int x1]) σ (some (fun _ => .int o)) σ :=
  sn_met (by decide) (fun _ => Nat.le_of_ble_eq_true rfl) (fun p e s m args below meth c ls D ct ad A C hw hl => wX8_first_in C  hf (fun H locs ls pc hw ok hd => sn_iret C hw hd) _ _ _ hw hl)
-- X8_isHouse
abbrev rmX8_isHouse : Room := { frames := 0, cells := 0, slots := 0, locals := 0 }
def fX8_isHouse (σ : sn_S) : Option Int32 :=
  (sn_gd (sn_in (10 : Int32) 11) (if (sn_I σ (1 + 1) (10 : Int32).toNatClampNeg) ≤ 0 then
  (sn_gd (sn_b01 (0 : Int32)) (some (0 : Int32)))
  else
  (sn_gd (sn_b01 (1 : Int32)) (some (1 : Int32)))))
theorem wX8_isHouse_in (C : sn_C p s m args meth c RX8 cX8_isHouse 1 (some .boolean) D ct ad layC A) {σ : sn_S}  {o : Int32} (hf : fX8_isHouse σ = some o) (kr : sn_Kr p l e rmX8_isHouse s m args below meth c Q D ct ad layC A cX8_isHouse .ireturn (sn_b01 o) σ [.int o]) : sn_At p l e rmX8_isHouse s m args below meth c Q D ct ad layC A 1 σ 0 [(0, .ref (ad 0))] [] := by
  intro H locs ls hw hl
  have hx := C.1
  have hb := C.2.1
  unfold fX8_isHouse at hf
  refine lv_aload_n hx hb dX8_isHouse_0 rfl (lv_at hl 0 rfl) ?_
  refine sn_getC (r := 1) C hw fd_RX8_10 layC_0 rfl dX8_isHouse_1 ?_
  refine sn_getC (r := (1 + 1)) C hw fd_RX8_100 (sn_look sn_isX2_1 (k := 0) rfl) rfl dX8_isHouse_4 ?_
  refine lv_bipush (v := 10) hx hb dX8_isHouse_7 (by decide) ?_
  obtain ⟨g_1, hf⟩ := sn_gdE hf
  refine sn_iald C hw (sn_look sn_isX2_1 (k := 1) rfl) g_1 dX8_isHouse_9 ?_
  refine lv_if_le (tgt := 17) hx hb dX8_isHouse_10 (by decide) (fun c_2 => ?_) (fun c_2 => ?_)
  · have hf := sn_if c_2 hf
    refine lv_iconst (v := 0) hx hb dX8_isHouse_17 rfl ?_
    obtain ⟨g_3, hf⟩ := sn_gdE hf
    cases hf
    exact kr _ _ _ _ hw g_3 dX8_isHouse_18
  · have hf := sn_el c_2 hf
    refine lv_iconst (v := 1) hx hb dX8_isHouse_13 rfl ?_
    refine lv_goto (tgt := 18) hx hb dX8_isHouse_14 (by decide) ?_
    obtain ⟨g_4, hf⟩ := sn_gdE hf
    cases hf
    exact kr _ _ _ _ hw g_4 dX8_isHouse_18
theorem ctX8_isHouse (l : Launch) {σ : sn_S}  {o : Int32} (hf : fX8_isHouse σ = some o) : sn_M l yX8_isHouse cX8_isHouse 1 (some .boolean) rmX8_isHouse layC (fun ad => [.ref (ad 0)]) σ (some (fun _ => .int o)) σ :=
  sn_met (by decide) (fun _ => Nat.le_of_ble_eq_true rfl) (fun p e s m args below meth c ls D ct ad A C hw hl => wX8_isHouse_in C  hf (fun H locs ls pc hw ok hd => sn_zret C hw ok hd) _ _ _ hw hl)
-- X8_all
abbrev rmX8_all : Room := { frames := 2, cells := 0, slots := 0, locals := 42 }
def fX8_all (σ : sn_S) : Option Int32 :=
  ((fX8_isHouse σ).bind fun t_1 => (if t_1 = 0 then
  (some (-2 : Int32))
  else
  ((fX0_total σ 27).bind fun t_4 => (some t_4))))
theorem wX8_all_in (C : sn_C p s m args meth c RX8 cX8_all 1 (some .int) D ct ad layC A) {σ : sn_S}  {o : Int32} (hf : fX8_all σ = some o) (kr : sn_Kr p l e rmX8_all s m args below meth c Q D ct ad layC A cX8_all .ireturn (true) σ [.int o]) : sn_At p l e rmX8_all s m args below meth c Q D ct ad layC A 1 σ 0 [(0, .ref (ad 0))] [] := by
  intro H locs ls hw hl
  have hx := C.1
  have hb := C.2.1
  unfold fX8_all at hf
  refine lv_aload_n hx hb dX8_all_0 rfl (lv_at hl 0 rfl) ?_
  obtain ⟨t_1, h_2, hf⟩ := sn_bd hf
  refine sn_callVi (rest := []) C hw (ctX8_isHouse l  h_2) kl_RX8_137 layC_0 rfl rfl rfl rfl (Nat.le_of_ble_eq_true rfl) dX8_all_1 hl.1 (fun H locs hw => ?_)
  refine lv_if_eq (tgt := 17) hx hb dX8_all_4 (by decide) (fun c_3 => ?_) (fun c_3 => ?_)
  · have hf := sn_if c_3 hf
    refine lv_bipush (v := (-2)) hx hb dX8_all_17 (by decide) ?_
    cases hf
    exact kr _ _ _ _ hw rfl dX8_all_19
  · have hf := sn_el c_3 hf
    refine lv_aload_n hx hb dX8_all_7 rfl (lv_at hl 0 rfl) ?_
    refine sn_getC (r := 27) C hw fd_RX8_44 layC_0 rfl dX8_all_8 ?_
    obtain ⟨t_4, h_5, hf⟩ := sn_bd hf
    refine sn_callVi (rest := []) C hw (ctX0_total l sn_isX0_27 h_5) kl_RX8_141 (sn_look sn_isX0_27 (k := 0) rfl) rfl rfl rfl rfl (Nat.le_of_ble_eq_true rfl) dX8_all_11 hl.1 (fun H locs hw => ?_)
    refine lv_goto (tgt := 19) hx hb dX8_all_14 (by decide) ?_
    cases hf
    exact kr _ _ _ _ hw rfl dX8_all_19
theorem ctX8_all (l : Launch) {σ : sn_S}  {o : Int32} (hf : fX8_all σ = some o) : sn_M l yX8_all cX8_all 1 (some .int) rmX8_all layC (fun ad => [.ref (ad 0)]) σ (some (fun _ => .int o)) σ :=
  sn_met (by decide) (fun _ => Nat.le_of_ble_eq_true rfl) (fun p e s m args below meth c ls D ct ad A C hw hl => wX8_all_in C  hf (fun H locs ls pc hw ok hd => sn_iret C hw hd) _ _ _ hw hl)
end
end
section
section
variable {p : Program} {l : Launch} {e : Env} {s : State} {m : MethodId} {args : Array Value} {below : List Frame} {meth : Method} {c : Code} {Q : State → Prop} {D : va_G} {ct : Nat → ClassId} {ad : Nat → Nat} {A : Nat → Prop} {lay : List sn_E}
-- X8_who
abbrev rmX8_who : Room := { frames := 1, cells := 0, slots := 0, locals := 21 }
def fX8_who (σ : sn_S) (x1 : Int32) : Option Int32 :=
  ((fX8_isMinute σ x1).bind fun t_1 => (if t_1 = 0 then
  (some (-2 : Int32))
  else
  (sn_gd (sn_in x1 30) (some (sn_I σ (27 + 9) x1.toNatClampNeg)))))
theorem wX8_who_in (C : sn_C p s m args meth c RX8 cX8_who 2 (some .int) D ct ad layC A) {σ : sn_S} {x1 : Int32}  {o : Int32} (hf : fX8_who σ x1 = some o) (kr : sn_Kr p l e rmX8_who s m args below meth c Q D ct ad layC A cX8_who .ireturn (true) σ [.int o]) : sn_At p l e rmX8_who s m args below meth c Q D ct ad layC A 2 σ 0 [(0, .ref (ad 0)), (1, .int x1)] [] := by
  intro H locs ls hw hl
  have hx := C.1
  have hb := C.2.1
  unfold fX8_who at hf
  refine lv_aload_n hx hb dX8_who_0 rfl (lv_at hl 0 rfl) ?_
  refine lv_iload_n hx hb dX8_who_1 rfl (lv_at hl 1 rfl) ?_
  obtain ⟨t_1, h_2, hf⟩ := sn_bd hf
  refine sn_callVi (rest := []) C hw (ctX8_isMinute l  h_2) kl_RX8_125 layC_0 rfl rfl rfl rfl (Nat.le_of_ble_eq_true rfl) dX8_who_2 hl.1 (fun H locs hw => ?_)
  refine lv_if_eq (tgt := 20) hx hb dX8_who_5 (by decide) (fun c_3 => ?_) (fun c_3 => ?_)
  · have hf := sn_if c_3 hf
    refine lv_bipush (v := (-2)) hx hb dX8_who_20 (by decide) ?_
    cases hf
    exact kr _ _ _ _ hw rfl dX8_who_22
  · have hf := sn_el c_3 hf
    refine lv_aload_n hx hb dX8_who_8 rfl (lv_at hl 0 rfl) ?_
    refine sn_getC (r := 27) C hw fd_RX8_44 layC_0 rfl dX8_who_9 ?_
    refine sn_getC (r := (27 + 9)) C hw fd_RX8_145 (sn_look sn_isX0_27 (k := 0) rfl) rfl dX8_who_12 ?_
    refine lv_iload_n hx hb dX8_who_15 rfl (lv_at hl 1 rfl) ?_
    obtain ⟨g_4, hf⟩ := sn_gdE hf
    refine sn_iald C hw (sn_look sn_isX0_27 (k := 9) rfl) g_4 dX8_who_16 ?_
    refine lv_goto (tgt := 22) hx hb dX8_who_17 (by decide) ?_
    cases hf
    exact kr _ _ _ _ hw rfl dX8_who_22
theorem ctX8_who (l : Launch) {σ : sn_S} {x1 : Int32}  {o : Int32} (hf : fX8_who σ x1 = some o) : sn_M l yX8_who cX8_who 2 (some .int) rmX8_who layC (fun ad => [.ref (ad 0), .int x1]) σ (some (fun _ => .int o)) σ :=
  sn_met (by decide) (fun _ => Nat.le_of_ble_eq_true rfl) (fun p e s m args below meth c ls D ct ad A C hw hl => wX8_who_in C  hf (fun H locs ls pc hw ok hd => sn_iret C hw hd) _ _ _ hw hl)
-- X8_tickle
abbrev rmX8_tickle : Room := { frames := 1, cells := 0, slots := 0, locals := 22 }
def fX8_tickle (σ : sn_S) (x1 : Int32) (x2 : Int32) : Option Int32 :=
  ((fX8_isPerson σ x1).bind fun t_1 => (if t_1 = 0 then
  (some (-2 : Int32))
  else
  ((fX8_isMinute σ x2).bind fun t_4 => (if t_4 = 0 then
  (some (-2 : Int32))
  else
  ((fX0_tickleAt σ 27 x1 x2).bind fun t_7 => (some t_7))))))
theorem wX8_tickle_in (C : sn_C p s m args meth c RX8 cX8_tickle 3 (some .int) D ct ad layC A) {σ : sn_S} {x1 : Int32} {x2 : Int32}  {o : Int32} (hf : fX8_tickle σ x1 x2 = some o) (kr : sn_Kr p l e rmX8_tickle s m args below meth c Q D ct ad layC A cX8_tickle .ireturn (true) σ [.int o]) : sn_At p l e rmX8_tickle s m args below meth c Q D ct ad layC A 3 σ 0 [(0, .ref (ad 0)), (1, .int x1), (2, .int x2)] [] := by
  intro H locs ls hw hl
  have hx := C.1
  have hb := C.2.1
  unfold fX8_tickle at hf
  refine lv_aload_n hx hb dX8_tickle_0 rfl (lv_at hl 0 rfl) ?_
  refine lv_iload_n hx hb dX8_tickle_1 rfl (lv_at hl 1 rfl) ?_
  obtain ⟨t_1, h_2, hf⟩ := sn_bd hf
  refine sn_callVi (rest := []) C hw (ctX8_isPerson l  h_2) kl_RX8_107 layC_0 rfl rfl rfl rfl (Nat.le_of_ble_eq_true rfl) dX8_tickle_2 hl.1 (fun H locs hw => ?_)
  refine lv_if_eq (tgt := 16) hx hb dX8_tickle_5 (by decide) (fun c_3 => ?_) (fun c_3 => ?_)
  · have hf := sn_if c_3 hf
    refine lv_bipush (v := (-2)) hx hb dX8_tickle_16 (by decide) ?_
    cases hf
    exact kr _ _ _ _ hw rfl dX8_tickle_18
  · have hf := sn_el c_3 hf
    refine lv_aload_n hx hb dX8_tickle_8 rfl (lv_at hl 0 rfl) ?_
    refine lv_iload_n hx hb dX8_tickle_9 rfl (lv_at hl 2 rfl) ?_
    obtain ⟨t_4, h_5, hf⟩ := sn_bd hf
    refine sn_callVi (rest := []) C hw (ctX8_isMinute l  h_5) kl_RX8_125 layC_0 rfl rfl rfl rfl (Nat.le_of_ble_eq_true rfl) dX8_tickle_10 hl.1 (fun H locs hw => ?_)
    refine lv_if_ne (tgt := 19) hx hb dX8_tickle_13 (by decide) (fun c_6 => ?_) (fun c_6 => ?_)
    · have hf := sn_el c_6 hf
      refine lv_aload_n hx hb dX8_tickle_19 rfl (lv_at hl 0 rfl) ?_
      refine sn_getC (r := 27) C hw fd_RX8_44 layC_0 rfl dX8_tickle_20 ?_
      refine lv_iload_n hx hb dX8_tickle_23 rfl (lv_at hl 1 rfl) ?_
      refine lv_iload_n hx hb dX8_tickle_24 rfl (lv_at hl 2 rfl) ?_
      obtain ⟨t_7, h_8, hf⟩ := sn_bd hf
      refine sn_callVi (rest := []) C hw (ctX0_tickleAt l sn_isX0_27 h_8) kl_RX8_148 (sn_look sn_isX0_27 (k := 0) rfl) rfl rfl rfl rfl (Nat.le_of_ble_eq_true rfl) dX8_tickle_25 hl.1 (fun H locs hw => ?_)
      cases hf
      exact kr _ _ _ _ hw rfl dX8_tickle_28
    · have hf := sn_if c_6 hf
      refine lv_bipush (v := (-2)) hx hb dX8_tickle_16 (by decide) ?_
      cases hf
      exact kr _ _ _ _ hw rfl dX8_tickle_18
theorem ctX8_tickle (l : Launch) {σ : sn_S} {x1 : Int32} {x2 : Int32}  {o : Int32} (hf : fX8_tickle σ x1 x2 = some o) : sn_M l yX8_tickle cX8_tickle 3 (some .int) rmX8_tickle layC (fun ad => [.ref (ad 0), .int x1, .int x2]) σ (some (fun _ => .int o)) σ :=
  sn_met (by decide) (fun _ => Nat.le_of_ble_eq_true rfl) (fun p e s m args below meth c ls D ct ad A C hw hl => wX8_tickle_in C  hf (fun H locs ls pc hw ok hd => sn_iret C hw hd) _ _ _ hw hl)
-- X8_itch
abbrev rmX8_itch : Room := { frames := 1, cells := 0, slots := 0, locals := 32 }
def BX8_itch_46 (σ : sn_S) (x2 : Int32) : Option (Int32) :=
  (some x2)
def BX8_itch_15 (σ : sn_S) (x1 : Int32) (x2 : Int32) (x3 : Int32) : Option ((Int32 × Int32) ⊕ (Int32)) :=
  (if (sn_I σ 27 0) ≤ x3 then
  (some (.inr (x2)))
  else
  ((fX0_tickleAt σ 27 x1 x3).bind fun t_2 => (sn_lt (if x2 < t_2 then t_2 else x2) fun y_4 => (sn_lt (x3 + 1) fun y_6 => (some (.inl (y_4, y_6)))))))
def LX8_itch_15 (σ : sn_S) (x1 : Int32) (s : Int32 × Int32) : Option ((Int32 × Int32) ⊕ (Int32)) := BX8_itch_15 σ x1 s.1 s.2
def fX8_itch (σ : sn_S) (x1 : Int32) : Option Int32 :=
  ((fX8_isPerson σ x1).bind fun t_1 => (if t_1 = 0 then
  (some (-2 : Int32))
  else
  ((sn_it (LX8_itch_15 σ x1) 5000 ((0 : Int32), (0 : Int32))).bind fun t_4 => (BX8_itch_46 σ t_4))))
theorem wX8_itch_46 (C : sn_C p s m args meth c RX8 cX8_itch 4 (some .int) D ct ad layC A) {σ : sn_S} {x2 : Int32}  {o : Int32} (hf : BX8_itch_46 σ x2 = some o) (kr : sn_Kr p l e rmX8_itch s m args below meth c Q D ct ad layC A cX8_itch .ireturn (true) σ [.int o]) : sn_At p l e rmX8_itch s m args below meth c Q D ct ad layC A 4 σ 46 [(2, .int x2)] [] := by
  intro H locs ls hw hl
  have hx := C.1
  have hb := C.2.1
  unfold BX8_itch_46 at hf
  refine lv_iload_n hx hb dX8_itch_46 rfl (lv_at hl 0 rfl) ?_
  cases hf
  exact kr _ _ _ _ hw rfl dX8_itch_47
theorem wX8_itch_15 (C : sn_C p s m args meth c RX8 cX8_itch 4 (some .int) D ct ad layC A) {σ : sn_S} {x1 : Int32} {x2 : Int32} {x3 : Int32}  {o : (Int32 × Int32) ⊕ (Int32)} (hf : BX8_itch_15 σ x1 x2 x3 = some o) (kc : ∀ v, o = .inl v → sn_At p l e rmX8_itch s m args below meth c Q D ct ad layC A 4 σ 15 [(0, .ref (ad 0)), (1, .int x1), (2, .int v.1), (3, .int v.2)] []) (kx : ∀ v, o = .inr v → sn_At p l e rmX8_itch s m args below meth c Q D ct ad layC A 4 σ 46 [(2, .int v)] []) : sn_At p l e rmX8_itch s m args below meth c Q D ct ad layC A 4 σ 15 [(0, .ref (ad 0)), (1, .int x1), (2, .int x2), (3, .int x3)] [] := by
  intro H locs ls hw hl
  have hx := C.1
  have hb := C.2.1
  unfold BX8_itch_15 at hf
  refine lv_iload_n hx hb dX8_itch_15 rfl (lv_at hl 3 rfl) ?_
  refine lv_aload_n hx hb dX8_itch_16 rfl (lv_at hl 0 rfl) ?_
  refine sn_getC (r := 27) C hw fd_RX8_44 layC_0 rfl dX8_itch_17 ?_
  refine sn_getI C hw fd_RX8_151 (sn_look sn_isX0_27 (k := 0) rfl) rfl dX8_itch_20 ?_
  refine lv_icmp_ge (tgt := 46) hx hb dX8_itch_23 (by decide) (fun c_1 => ?_) (fun c_1 => ?_)
  · have hf := sn_if c_1 hf
    cases hf
    exact kx _ rfl _ _ _ hw (lv_sub hl [2] rfl)
  · have hf := sn_el c_1 hf
    refine lv_iload_n hx hb dX8_itch_26 rfl (lv_at hl 2 rfl) ?_
    refine lv_aload_n hx hb dX8_itch_27 rfl (lv_at hl 0 rfl) ?_
    refine sn_getC (r := 27) C hw fd_RX8_44 layC_0 rfl dX8_itch_28 ?_
    refine lv_iload_n hx hb dX8_itch_31 rfl (lv_at hl 1 rfl) ?_
    refine lv_iload_n hx hb dX8_itch_32 rfl (lv_at hl 3 rfl) ?_
    obtain ⟨t_2, h_3, hf⟩ := sn_bd hf
    refine sn_callVi (rest := [.int x2]) C hw (ctX0_tickleAt l sn_isX0_27 h_3) kl_RX8_148 (sn_look sn_isX0_27 (k := 0) rfl) rfl rfl rfl rfl (Nat.le_of_ble_eq_true rfl) dX8_itch_33 hl.1 (fun H locs hw => ?_)
    refine va_mmax hx hb (C.2.2.1.trans hl.1.symm) C.2.2.2.1 (C.2.2.2.2.1 _ km_RX8_154) (C.2.2.2.2.1 _ kst_maxI) (C.2.2.2.2.1 _ ki_Math) (C.2.2.2.2.1 _ kc_maxI) (Nat.le_of_ble_eq_true rfl) (Nat.le_of_ble_eq_true rfl) (Nat.zero_le _) (Nat.zero_le _) dX8_itch_36 ?_
    obtain ⟨y_4, e_5, hf⟩ := sn_ltE hf
    refine lv_topi (fun y_4_ e_5_ => ?_)
    obtain rfl : y_4 = y_4_ := e_5.trans e_5_.symm
    refine lv_istore_n (lv' := [(2, .int y_4), (0, .ref (ad 0)), (1, .int x1), (3, .int x3)]) hx hb dX8_itch_39 rfl hl (by decide) rfl (fun ls hl => ?_)
    obtain ⟨y_6, e_7, hf⟩ := sn_ltE hf
    refine lv_iinc (v := y_6) (lv' := [(3, .int y_6), (2, .int y_4), (0, .ref (ad 0)), (1, .int x1)]) hx hb dX8_itch_40 hl (k := 3) rfl (by rw [e_7]; rfl) (by decide) rfl (fun ls hl => ?_)
    refine lv_goto (tgt := 15) hx hb dX8_itch_43 (by decide) ?_
    cases hf
    exact kc _ rfl _ _ _ hw (lv_sub hl [2, 3, 1, 0] rfl)
theorem wX8_itch_L15 (C : sn_C p s m args meth c RX8 cX8_itch 4 (some .int) D ct ad layC A) {σ : sn_S} {x1 : Int32}   {z : Int32 × Int32} {t : Int32} (h : sn_it (LX8_itch_15 σ x1) 5000 z = some t) (kx : ∀ v, t = v → sn_At p l e rmX8_itch s m args below meth c Q D ct ad layC A 4 σ 46 [(2, .int v)] []) : sn_At p l e rmX8_itch s m args below meth c Q D ct ad layC A 4 σ 15 [(0, .ref (ad 0)), (1, .int x1), (2, .int z.1), (3, .int z.2)] [] :=
  sn_loop (f := LX8_itch_15 σ x1) (G := fun z => sn_At p l e rmX8_itch s m args below meth c Q D ct ad layC A 4 σ 15 [(0, .ref (ad 0)), (1, .int x1), (2, .int z.1), (3, .int z.2)] []) (E := fun t => (∀ v, t = v → sn_At p l e rmX8_itch s m args below meth c Q D ct ad layC A 4 σ 46 [(2, .int v)] []) ∧ True) (fun z o hf k1 k2 => wX8_itch_15 C  hf (fun v e => k1 v e) (fun v e => (k2 _ e).1 v rfl)) 5000 z t h ⟨kx, trivial⟩
theorem wX8_itch_in (C : sn_C p s m args meth c RX8 cX8_itch 4 (some .int) D ct ad layC A) {σ : sn_S} {x1 : Int32}  {o : Int32} (hf : fX8_itch σ x1 = some o) (kr : sn_Kr p l e rmX8_itch s m args below meth c Q D ct ad layC A cX8_itch .ireturn (true) σ [.int o]) : sn_At p l e rmX8_itch s m args below meth c Q D ct ad layC A 4 σ 0 [(0, .ref (ad 0)), (1, .int x1)] [] := by
  intro H locs ls hw hl
  have hx := C.1
  have hb := C.2.1
  unfold fX8_itch at hf
  refine lv_aload_n hx hb dX8_itch_0 rfl (lv_at hl 0 rfl) ?_
  refine lv_iload_n hx hb dX8_itch_1 rfl (lv_at hl 1 rfl) ?_
  obtain ⟨t_1, h_2, hf⟩ := sn_bd hf
  refine sn_callVi (rest := []) C hw (ctX8_isPerson l  h_2) kl_RX8_107 layC_0 rfl rfl rfl rfl (Nat.le_of_ble_eq_true rfl) dX8_itch_2 hl.1 (fun H locs hw => ?_)
  refine lv_if_ne (tgt := 11) hx hb dX8_itch_5 (by decide) (fun c_3 => ?_) (fun c_3 => ?_)
  · have hf := sn_el c_3 hf
    refine lv_iconst (v := 0) hx hb dX8_itch_11 rfl ?_
    refine lv_istore_n (lv' := [(2, .int (0 : Int32)), (0, .ref (ad 0)), (1, .int x1)]) hx hb dX8_itch_12 rfl hl (by decide) rfl (fun ls hl => ?_)
    refine lv_iconst (v := 0) hx hb dX8_itch_13 rfl ?_
    refine lv_istore_n (lv' := [(3, .int (0 : Int32)), (2, .int (0 : Int32)), (0, .ref (ad 0)), (1, .int x1)]) hx hb dX8_itch_14 rfl hl (by decide) rfl (fun ls hl => ?_)
    obtain ⟨t_4, h_5, hf⟩ := sn_bd hf
    exact wX8_itch_L15 C  h_5 (fun v e => by cases e; exact wX8_itch_46 C  hf kr) _ _ _ hw (lv_sub hl [2, 3, 1, 0] rfl)
  · have hf := sn_if c_3 hf
    refine lv_bipush (v := (-2)) hx hb dX8_itch_8 (by decide) ?_
    cases hf
    exact kr _ _ _ _ hw rfl dX8_itch_10
theorem ctX8_itch (l : Launch) {σ : sn_S} {x1 : Int32}  {o : Int32} (hf : fX8_itch σ x1 = some o) : sn_M l yX8_itch cX8_itch 4 (some .int) rmX8_itch layC (fun ad => [.ref (ad 0), .int x1]) σ (some (fun _ => .int o)) σ :=
  sn_met (by decide) (fun _ => Nat.le_of_ble_eq_true rfl) (fun p e s m args below meth c ls D ct ad A C hw hl => wX8_itch_in C  hf (fun H locs ls pc hw ok hd => sn_iret C hw hd) _ _ _ hw hl)
-- X8_caught
abbrev rmX8_caught : Room := { frames := 1, cells := 0, slots := 0, locals := 22 }
def BX8_caught_44 (σ : sn_S) (x2 : Int32) : Option (Int32) :=
  (some x2)
def BX8_caught_15 (σ : sn_S) (x1 : Int32) (x2 : Int32) (x3 : Int32) : Option ((Int32 × Int32) ⊕ (Int32)) :=
  (if (sn_I σ 27 0) ≤ x3 then
  (some (.inr (x2)))
  else
  ((fX0_cameAt σ 27 x1 x3).bind fun t_2 => (sn_lt (x2 + t_2) fun y_4 => (sn_lt (x3 + 1) fun y_6 => (some (.inl (y_4, y_6)))))))
def LX8_caught_15 (σ : sn_S) (x1 : Int32) (s : Int32 × Int32) : Option ((Int32 × Int32) ⊕ (Int32)) := BX8_caught_15 σ x1 s.1 s.2
def fX8_caught (σ : sn_S) (x1 : Int32) : Option Int32 :=
  ((fX8_isPerson σ x1).bind fun t_1 => (if t_1 = 0 then
  (some (-2 : Int32))
  else
  ((sn_it (LX8_caught_15 σ x1) 5000 ((0 : Int32), (0 : Int32))).bind fun t_4 => (BX8_caught_44 σ t_4))))
theorem wX8_caught_44 (C : sn_C p s m args meth c RX8 cX8_caught 4 (some .int) D ct ad layC A) {σ : sn_S} {x2 : Int32}  {o : Int32} (hf : BX8_caught_44 σ x2 = some o) (kr : sn_Kr p l e rmX8_caught s m args below meth c Q D ct ad layC A cX8_caught .ireturn (true) σ [.int o]) : sn_At p l e rmX8_caught s m args below meth c Q D ct ad layC A 4 σ 44 [(2, .int x2)] [] := by
  intro H locs ls hw hl
  have hx := C.1
  have hb := C.2.1
  unfold BX8_caught_44 at hf
  refine lv_iload_n hx hb dX8_caught_44 rfl (lv_at hl 0 rfl) ?_
  cases hf
  exact kr _ _ _ _ hw rfl dX8_caught_45
theorem wX8_caught_15 (C : sn_C p s m args meth c RX8 cX8_caught 4 (some .int) D ct ad layC A) {σ : sn_S} {x1 : Int32} {x2 : Int32} {x3 : Int32}  {o : (Int32 × Int32) ⊕ (Int32)} (hf : BX8_caught_15 σ x1 x2 x3 = some o) (kc : ∀ v, o = .inl v → sn_At p l e rmX8_caught s m args below meth c Q D ct ad layC A 4 σ 15 [(0, .ref (ad 0)), (1, .int x1), (2, .int v.1), (3, .int v.2)] []) (kx : ∀ v, o = .inr v → sn_At p l e rmX8_caught s m args below meth c Q D ct ad layC A 4 σ 44 [(2, .int v)] []) : sn_At p l e rmX8_caught s m args below meth c Q D ct ad layC A 4 σ 15 [(0, .ref (ad 0)), (1, .int x1), (2, .int x2), (3, .int x3)] [] := by
  intro H locs ls hw hl
  have hx := C.1
  have hb := C.2.1
  unfold BX8_caught_15 at hf
  refine lv_iload_n hx hb dX8_caught_15 rfl (lv_at hl 3 rfl) ?_
  refine lv_aload_n hx hb dX8_caught_16 rfl (lv_at hl 0 rfl) ?_
  refine sn_getC (r := 27) C hw fd_RX8_44 layC_0 rfl dX8_caught_17 ?_
  refine sn_getI C hw fd_RX8_151 (sn_look sn_isX0_27 (k := 0) rfl) rfl dX8_caught_20 ?_
  refine lv_icmp_ge (tgt := 44) hx hb dX8_caught_23 (by decide) (fun c_1 => ?_) (fun c_1 => ?_)
  · have hf := sn_if c_1 hf
    cases hf
    exact kx _ rfl _ _ _ hw (lv_sub hl [2] rfl)
  · have hf := sn_el c_1 hf
    refine lv_iload_n hx hb dX8_caught_26 rfl (lv_at hl 2 rfl) ?_
    refine lv_aload_n hx hb dX8_caught_27 rfl (lv_at hl 0 rfl) ?_
    refine sn_getC (r := 27) C hw fd_RX8_44 layC_0 rfl dX8_caught_28 ?_
    refine lv_iload_n hx hb dX8_caught_31 rfl (lv_at hl 1 rfl) ?_
    refine lv_iload_n hx hb dX8_caught_32 rfl (lv_at hl 3 rfl) ?_
    obtain ⟨t_2, h_3, hf⟩ := sn_bd hf
    refine sn_callVi (rest := [.int x2]) C hw (ctX0_cameAt l sn_isX0_27 h_3) kl_RX8_159 (sn_look sn_isX0_27 (k := 0) rfl) rfl rfl rfl rfl (Nat.le_of_ble_eq_true rfl) dX8_caught_33 hl.1 (fun H locs hw => ?_)
    refine lv_iadd hx hb dX8_caught_36 ?_
    obtain ⟨y_4, e_5, hf⟩ := sn_ltE hf
    refine lv_topi (fun y_4_ e_5_ => ?_)
    obtain rfl : y_4 = y_4_ := e_5.trans e_5_.symm
    refine lv_istore_n (lv' := [(2, .int y_4), (0, .ref (ad 0)), (1, .int x1), (3, .int x3)]) hx hb dX8_caught_37 rfl hl (by decide) rfl (fun ls hl => ?_)
    obtain ⟨y_6, e_7, hf⟩ := sn_ltE hf
    refine lv_iinc (v := y_6) (lv' := [(3, .int y_6), (2, .int y_4), (0, .ref (ad 0)), (1, .int x1)]) hx hb dX8_caught_38 hl (k := 3) rfl (by rw [e_7]; rfl) (by decide) rfl (fun ls hl => ?_)
    refine lv_goto (tgt := 15) hx hb dX8_caught_41 (by decide) ?_
    cases hf
    exact kc _ rfl _ _ _ hw (lv_sub hl [2, 3, 1, 0] rfl)
theorem wX8_caught_L15 (C : sn_C p s m args meth c RX8 cX8_caught 4 (some .int) D ct ad layC A) {σ : sn_S} {x1 : Int32}   {z : Int32 × Int32} {t : Int32} (h : sn_it (LX8_caught_15 σ x1) 5000 z = some t) (kx : ∀ v, t = v → sn_At p l e rmX8_caught s m args below meth c Q D ct ad layC A 4 σ 44 [(2, .int v)] []) : sn_At p l e rmX8_caught s m args below meth c Q D ct ad layC A 4 σ 15 [(0, .ref (ad 0)), (1, .int x1), (2, .int z.1), (3, .int z.2)] [] :=
  sn_loop (f := LX8_caught_15 σ x1) (G := fun z => sn_At p l e rmX8_caught s m args below meth c Q D ct ad layC A 4 σ 15 [(0, .ref (ad 0)), (1, .int x1), (2, .int z.1), (3, .int z.2)] []) (E := fun t => (∀ v, t = v → sn_At p l e rmX8_caught s m args below meth c Q D ct ad layC A 4 σ 44 [(2, .int v)] []) ∧ True) (fun z o hf k1 k2 => wX8_caught_15 C  hf (fun v e => k1 v e) (fun v e => (k2 _ e).1 v rfl)) 5000 z t h ⟨kx, trivial⟩
theorem wX8_caught_in (C : sn_C p s m args meth c RX8 cX8_caught 4 (some .int) D ct ad layC A) {σ : sn_S} {x1 : Int32}  {o : Int32} (hf : fX8_caught σ x1 = some o) (kr : sn_Kr p l e rmX8_caught s m args below meth c Q D ct ad layC A cX8_caught .ireturn (true) σ [.int o]) : sn_At p l e rmX8_caught s m args below meth c Q D ct ad layC A 4 σ 0 [(0, .ref (ad 0)), (1, .int x1)] [] := by
  intro H locs ls hw hl
  have hx := C.1
  have hb := C.2.1
  unfold fX8_caught at hf
  refine lv_aload_n hx hb dX8_caught_0 rfl (lv_at hl 0 rfl) ?_
  refine lv_iload_n hx hb dX8_caught_1 rfl (lv_at hl 1 rfl) ?_
  obtain ⟨t_1, h_2, hf⟩ := sn_bd hf
  refine sn_callVi (rest := []) C hw (ctX8_isPerson l  h_2) kl_RX8_107 layC_0 rfl rfl rfl rfl (Nat.le_of_ble_eq_true rfl) dX8_caught_2 hl.1 (fun H locs hw => ?_)
  refine lv_if_ne (tgt := 11) hx hb dX8_caught_5 (by decide) (fun c_3 => ?_) (fun c_3 => ?_)
  · have hf := sn_el c_3 hf
    refine lv_iconst (v := 0) hx hb dX8_caught_11 rfl ?_
    refine lv_istore_n (lv' := [(2, .int (0 : Int32)), (0, .ref (ad 0)), (1, .int x1)]) hx hb dX8_caught_12 rfl hl (by decide) rfl (fun ls hl => ?_)
    refine lv_iconst (v := 0) hx hb dX8_caught_13 rfl ?_
    refine lv_istore_n (lv' := [(3, .int (0 : Int32)), (2, .int (0 : Int32)), (0, .ref (ad 0)), (1, .int x1)]) hx hb dX8_caught_14 rfl hl (by decide) rfl (fun ls hl => ?_)
    obtain ⟨t_4, h_5, hf⟩ := sn_bd hf
    exact wX8_caught_L15 C  h_5 (fun v e => by cases e; exact wX8_caught_44 C  hf kr) _ _ _ hw (lv_sub hl [2, 3, 1, 0] rfl)
  · have hf := sn_if c_3 hf
    refine lv_bipush (v := (-2)) hx hb dX8_caught_8 (by decide) ?_
    cases hf
    exact kr _ _ _ _ hw rfl dX8_caught_10
theorem ctX8_caught (l : Launch) {σ : sn_S} {x1 : Int32}  {o : Int32} (hf : fX8_caught σ x1 = some o) : sn_M l yX8_caught cX8_caught 4 (some .int) rmX8_caught layC (fun ad => [.ref (ad 0), .int x1]) σ (some (fun _ => .int o)) σ :=
  sn_met (by decide) (fun _ => Nat.le_of_ble_eq_true rfl) (fun p e s m args below meth c ls D ct ad A C hw hl => wX8_caught_in C  hf (fun H locs ls pc hw ok hd => sn_iret C hw hd) _ _ _ hw hl)
-- X8_gave
abbrev rmX8_gave : Room := { frames := 2, cells := 0, slots := 0, locals := 40 }
def fX8_gave (σ : sn_S) (x1 : Int32) : Option Int32 :=
  ((fX8_isPerson σ x1).bind fun t_1 => (if t_1 = 0 then
  (some (-2 : Int32))
  else
  (sn_gd (sn_in x1 6) ((fX8_lowestBit (sn_I σ (27 + 10) x1.toNatClampNeg)).bind fun t_5 => (if (1 : Int32) ≤ t_5 then
  (sn_gd (sn_in (t_5 - (1 : Int32)) 30) ((fX2_neighbours σ 1 x1).bind fun t_9 => (some ((sn_I σ (27 + 9) (t_5 - (1 : Int32)).toNatClampNeg) &&& t_9))))
  else
  (some (0 : Int32)))))))
theorem wX8_gave_in (C : sn_C p s m args meth c RX8 cX8_gave 3 (some .int) D ct ad layC A) {σ : sn_S} {x1 : Int32}  {o : Int32} (hf : fX8_gave σ x1 = some o) (kr : sn_Kr p l e rmX8_gave s m args below meth c Q D ct ad layC A cX8_gave .ireturn (true) σ [.int o]) : sn_At p l e rmX8_gave s m args below meth c Q D ct ad layC A 3 σ 0 [(0, .ref (ad 0)), (1, .int x1)] [] := by
  intro H locs ls hw hl
  have hx := C.1
  have hb := C.2.1
  unfold fX8_gave at hf
  refine lv_aload_n hx hb dX8_gave_0 rfl (lv_at hl 0 rfl) ?_
  refine lv_iload_n hx hb dX8_gave_1 rfl (lv_at hl 1 rfl) ?_
  obtain ⟨t_1, h_2, hf⟩ := sn_bd hf
  refine sn_callVi (rest := []) C hw (ctX8_isPerson l  h_2) kl_RX8_107 layC_0 rfl rfl rfl rfl (Nat.le_of_ble_eq_true rfl) dX8_gave_2 hl.1 (fun H locs hw => ?_)
  refine lv_if_ne (tgt := 11) hx hb dX8_gave_5 (by decide) (fun c_3 => ?_) (fun c_3 => ?_)
  · have hf := sn_el c_3 hf
    refine lv_aload_n hx hb dX8_gave_11 rfl (lv_at hl 0 rfl) ?_
    refine sn_getC (r := 27) C hw fd_RX8_44 layC_0 rfl dX8_gave_12 ?_
    refine sn_getC (r := (27 + 10)) C hw fd_RX8_131 (sn_look sn_isX0_27 (k := 0) rfl) rfl dX8_gave_15 ?_
    refine lv_iload_n hx hb dX8_gave_18 rfl (lv_at hl 1 rfl) ?_
    obtain ⟨g_4, hf⟩ := sn_gdE hf
    refine sn_iald C hw (sn_look sn_isX0_27 (k := 10) rfl) g_4 dX8_gave_19 ?_
    obtain ⟨t_5, h_6, hf⟩ := sn_bd hf
    refine sn_callSi (rest := []) C hw (ctX8_lowestBit l  h_6) kl_RX8_134 rfl rfl rfl (Nat.le_of_ble_eq_true rfl) dX8_gave_20 hl.1 (fun H locs hw => ?_)
    refine lv_istore_n (lv' := [(2, .int t_5), (0, .ref (ad 0)), (1, .int x1)]) hx hb dX8_gave_23 rfl hl (by decide) rfl (fun ls hl => ?_)
    refine lv_iload_n hx hb dX8_gave_24 rfl (lv_at hl 0 rfl) ?_
    refine lv_iconst (v := 1) hx hb dX8_gave_25 rfl ?_
    refine lv_icmp_ge (tgt := 31) hx hb dX8_gave_26 (by decide) (fun c_7 => ?_) (fun c_7 => ?_)
    · have hf := sn_if c_7 hf
      refine lv_aload_n hx hb dX8_gave_31 rfl (lv_at hl 1 rfl) ?_
      refine sn_getC (r := 27) C hw fd_RX8_44 layC_0 rfl dX8_gave_32 ?_
      refine sn_getC (r := (27 + 9)) C hw fd_RX8_145 (sn_look sn_isX0_27 (k := 0) rfl) rfl dX8_gave_35 ?_
      refine lv_iload_n hx hb dX8_gave_38 rfl (lv_at hl 0 rfl) ?_
      refine lv_iconst (v := 1) hx hb dX8_gave_39 rfl ?_
      refine lv_isub hx hb dX8_gave_40 ?_
      obtain ⟨g_8, hf⟩ := sn_gdE hf
      refine sn_iald C hw (sn_look sn_isX0_27 (k := 9) rfl) g_8 dX8_gave_41 ?_
      refine lv_aload_n hx hb dX8_gave_42 rfl (lv_at hl 1 rfl) ?_
      refine sn_getC (r := 1) C hw fd_RX8_10 layC_0 rfl dX8_gave_43 ?_
      refine lv_iload_n hx hb dX8_gave_46 rfl (lv_at hl 2 rfl) ?_
      obtain ⟨t_9, h_10, hf⟩ := sn_bd hf
      refine sn_callVi (rest := [.int (sn_I σ (27 + 9) (t_5 - (1 : Int32)).toNatClampNeg)]) C hw (ctX2_neighbours l sn_isX2_1 h_10) kl_RX8_121 (sn_look sn_isX2_1 (k := 0) rfl) rfl rfl rfl rfl (Nat.le_of_ble_eq_true rfl) dX8_gave_47 hl.1 (fun H locs hw => ?_)
      refine lv_iand hx hb dX8_gave_50 ?_
      cases hf
      exact kr _ _ _ _ hw rfl dX8_gave_51
    · have hf := sn_el c_7 hf
      refine lv_iconst (v := 0) hx hb dX8_gave_29 rfl ?_
      cases hf
      exact kr _ _ _ _ hw rfl dX8_gave_30
  · have hf := sn_if c_3 hf
    refine lv_bipush (v := (-2)) hx hb dX8_gave_8 (by decide) ?_
    cases hf
    exact kr _ _ _ _ hw rfl dX8_gave_10
theorem ctX8_gave (l : Launch) {σ : sn_S} {x1 : Int32}  {o : Int32} (hf : fX8_gave σ x1 = some o) : sn_M l yX8_gave cX8_gave 3 (some .int) rmX8_gave layC (fun ad => [.ref (ad 0), .int x1]) σ (some (fun _ => .int o)) σ :=
  sn_met (by decide) (fun _ => Nat.le_of_ble_eq_true rfl) (fun p e s m args below meth c ls D ct ad A C hw hl => wX8_gave_in C  hf (fun H locs ls pc hw ok hd => sn_iret C hw hd) _ _ _ hw hl)
-- X8_worst
abbrev rmX8_worst : Room := { frames := 1, cells := 0, slots := 0, locals := 20 }
def BX8_worst_58 (σ : sn_S) (x1 : Int32) : Option (Int32) :=
  (some x1)
def BX8_worst_52 (σ : sn_S) (x1 : Int32) (x2 : Int32) (x3 : Int32) : Option ((Int32 × Int32 × Int32) ⊕ (Int32)) :=
  (sn_lt (x3 + 1) fun y_1 => (some (.inl (x1, x2, y_1))))
def BX8_worst_16 (σ : sn_S) (x1 : Int32) (x2 : Int32) (x3 : Int32) : Option ((Int32 × Int32 × Int32) ⊕ (Int32)) :=
  (if (sn_I σ 27 1) ≤ x3 then
  (some (.inr (x1)))
  else
  (sn_gd (sn_in x3 6) ((fJ6_bitCount_0f7a4 (sn_I σ (27 + 10) x3.toNatClampNeg)).bind fun t_3 => (if t_3 ≤ x2 then
  (BX8_worst_52 σ x1 x2 x3)
  else
  (BX8_worst_52 σ x3 t_3 x3)))))
def LX8_worst_16 (σ : sn_S) (s : Int32 × Int32 × Int32) : Option ((Int32 × Int32 × Int32) ⊕ (Int32)) := BX8_worst_16 σ s.1 s.2.1 s.2.2
def fX8_worst (σ : sn_S) : Option Int32 :=
  ((fX8_isHouse σ).bind fun t_1 => (if t_1 = 0 then
  (some (-2 : Int32))
  else
  ((sn_it (LX8_worst_16 σ) 5000 ((-1 : Int32), (0 : Int32), (0 : Int32))).bind fun t_4 => (BX8_worst_58 σ t_4))))
theorem wX8_worst_58 (C : sn_C p s m args meth c RX8 cX8_worst 5 (some .int) D ct ad layC A) {σ : sn_S} {x1 : Int32}  {o : Int32} (hf : BX8_worst_58 σ x1 = some o) (kr : sn_Kr p l e rmX8_worst s m args below meth c Q D ct ad layC A cX8_worst .ireturn (true) σ [.int o]) : sn_At p l e rmX8_worst s m args below meth c Q D ct ad layC A 5 σ 58 [(1, .int x1)] [] := by
  intro H locs ls hw hl
  have hx := C.1
  have hb := C.2.1
  unfold BX8_worst_58 at hf
  refine lv_iload_n hx hb dX8_worst_58 rfl (lv_at hl 0 rfl) ?_
  cases hf
  exact kr _ _ _ _ hw rfl dX8_worst_59
theorem wX8_worst_52 (C : sn_C p s m args meth c RX8 cX8_worst 5 (some .int) D ct ad layC A) {σ : sn_S} {x1 : Int32} {x2 : Int32} {x3 : Int32}  {o : (Int32 × Int32 × Int32) ⊕ (Int32)} (hf : BX8_worst_52 σ x1 x2 x3 = some o) (kc : ∀ v, o = .inl v → sn_At p l e rmX8_worst s m args below meth c Q D ct ad layC A 5 σ 16 [(0, .ref (ad 0)), (1, .int v.1), (2, .int v.2.1), (3, .int v.2.2)] []) (kx : ∀ v, o = .inr v → sn_At p l e rmX8_worst s m args below meth c Q D ct ad layC A 5 σ 58 [(1, .int v)] []) : sn_At p l e rmX8_worst s m args below meth c Q D ct ad layC A 5 σ 52 [(0, .ref (ad 0)), (1, .int x1), (2, .int x2), (3, .int x3)] [] := by
  intro H locs ls hw hl
  have hx := C.1
  have hb := C.2.1
  unfold BX8_worst_52 at hf
  obtain ⟨y_1, e_2, hf⟩ := sn_ltE hf
  refine lv_iinc (v := y_1) (lv' := [(3, .int y_1), (0, .ref (ad 0)), (1, .int x1), (2, .int x2)]) hx hb dX8_worst_52 hl (k := 3) rfl (by rw [e_2]; rfl) (by decide) rfl (fun ls hl => ?_)
  refine lv_goto (tgt := 16) hx hb dX8_worst_55 (by decide) ?_
  cases hf
  exact kc _ rfl _ _ _ hw (lv_sub hl [1, 2, 3, 0] rfl)
theorem wX8_worst_16 (C : sn_C p s m args meth c RX8 cX8_worst 5 (some .int) D ct ad layC A) {σ : sn_S} {x1 : Int32} {x2 : Int32} {x3 : Int32}  {o : (Int32 × Int32 × Int32) ⊕ (Int32)} (hf : BX8_worst_16 σ x1 x2 x3 = some o) (kc : ∀ v, o = .inl v → sn_At p l e rmX8_worst s m args below meth c Q D ct ad layC A 5 σ 16 [(0, .ref (ad 0)), (1, .int v.1), (2, .int v.2.1), (3, .int v.2.2)] []) (kx : ∀ v, o = .inr v → sn_At p l e rmX8_worst s m args below meth c Q D ct ad layC A 5 σ 58 [(1, .int v)] []) : sn_At p l e rmX8_worst s m args below meth c Q D ct ad layC A 5 σ 16 [(0, .ref (ad 0)), (1, .int x1), (2, .int x2), (3, .int x3)] [] := by
  intro H locs ls hw hl
  have hx := C.1
  have hb := C.2.1
  unfold BX8_worst_16 at hf
  refine lv_iload_n hx hb dX8_worst_16 rfl (lv_at hl 3 rfl) ?_
  refine lv_aload_n hx hb dX8_worst_17 rfl (lv_at hl 0 rfl) ?_
  refine sn_getC (r := 27) C hw fd_RX8_44 layC_0 rfl dX8_worst_18 ?_
  refine sn_getI C hw fd_RX8_162 (sn_look sn_isX0_27 (k := 0) rfl) rfl dX8_worst_21 ?_
  refine lv_icmp_ge (tgt := 58) hx hb dX8_worst_24 (by decide) (fun c_1 => ?_) (fun c_1 => ?_)
  · have hf := sn_if c_1 hf
    cases hf
    exact kx _ rfl _ _ _ hw (lv_sub hl [1] rfl)
  · have hf := sn_el c_1 hf
    refine lv_aload_n hx hb dX8_worst_27 rfl (lv_at hl 0 rfl) ?_
    refine sn_getC (r := 27) C hw fd_RX8_44 layC_0 rfl dX8_worst_28 ?_
    refine sn_getC (r := (27 + 10)) C hw fd_RX8_131 (sn_look sn_isX0_27 (k := 0) rfl) rfl dX8_worst_31 ?_
    refine lv_iload_n hx hb dX8_worst_34 rfl (lv_at hl 3 rfl) ?_
    obtain ⟨g_2, hf⟩ := sn_gdE hf
    refine sn_iald C hw (sn_look sn_isX0_27 (k := 10) rfl) g_2 dX8_worst_35 ?_
    obtain ⟨t_3, h_4, hf⟩ := sn_bd hf
    refine sn_callSi (rest := []) C hw (ctJ6_bitCount_0f7a4 l  h_4) kl_RX8_165 rfl rfl rfl (Nat.le_of_ble_eq_true rfl) dX8_worst_36 hl.1 (fun H locs hw => ?_)
    refine lv_istore (lv' := [(4, .int t_3), (0, .ref (ad 0)), (1, .int x1), (2, .int x2), (3, .int x3)]) hx hb dX8_worst_39 hl (by decide) rfl (fun ls hl => ?_)
    refine lv_iload hx hb dX8_worst_41 (lv_at hl 0 rfl) ?_
    refine lv_iload_n hx hb dX8_worst_43 rfl (lv_at hl 3 rfl) ?_
    refine lv_icmp_le (tgt := 52) hx hb dX8_worst_44 (by decide) (fun c_5 => ?_) (fun c_5 => ?_)
    · have hf := sn_if c_5 hf
      exact wX8_worst_52 C  hf kc kx _ _ _ hw (lv_sub hl [1, 2, 3, 4] rfl)
    · have hf := sn_el c_5 hf
      refine lv_iload hx hb dX8_worst_47 (lv_at hl 0 rfl) ?_
      refine lv_istore_n (lv' := [(2, .int t_3), (4, .int t_3), (0, .ref (ad 0)), (1, .int x1), (3, .int x3)]) hx hb dX8_worst_49 rfl hl (by decide) rfl (fun ls hl => ?_)
      refine lv_iload_n hx hb dX8_worst_50 rfl (lv_at hl 4 rfl) ?_
      refine lv_istore_n (lv' := [(1, .int x3), (2, .int t_3), (4, .int t_3), (0, .ref (ad 0)), (3, .int x3)]) hx hb dX8_worst_51 rfl hl (by decide) rfl (fun ls hl => ?_)
      exact wX8_worst_52 C  hf kc kx _ _ _ hw (lv_sub hl [3, 0, 1, 4] rfl)
theorem wX8_worst_L16 (C : sn_C p s m args meth c RX8 cX8_worst 5 (some .int) D ct ad layC A) {σ : sn_S}   {z : Int32 × Int32 × Int32} {t : Int32} (h : sn_it (LX8_worst_16 σ) 5000 z = some t) (kx : ∀ v, t = v → sn_At p l e rmX8_worst s m args below meth c Q D ct ad layC A 5 σ 58 [(1, .int v)] []) : sn_At p l e rmX8_worst s m args below meth c Q D ct ad layC A 5 σ 16 [(0, .ref (ad 0)), (1, .int z.1), (2, .int z.2.1), (3, .int z.2.2)] [] :=
  sn_loop (f := LX8_worst_16 σ) (G := fun z => sn_At p l e rmX8_worst s m args below meth c Q D ct ad layC A 5 σ 16 [(0, .ref (ad 0)), (1, .int z.1), (2, .int z.2.1), (3, .int z.2.2)] []) (E := fun t => (∀ v, t = v → sn_At p l e rmX8_worst s m args below meth c Q D ct ad layC A 5 σ 58 [(1, .int v)] []) ∧ True) (fun z o hf k1 k2 => wX8_worst_16 C  hf (fun v e => k1 v e) (fun v e => (k2 _ e).1 v rfl)) 5000 z t h ⟨kx, trivial⟩
theorem wX8_worst_in (C : sn_C p s m args meth c RX8 cX8_worst 5 (some .int) D ct ad layC A) {σ : sn_S}  {o : Int32} (hf : fX8_worst σ = some o) (kr : sn_Kr p l e rmX8_worst s m args below meth c Q D ct ad layC A cX8_worst .ireturn (true) σ [.int o]) : sn_At p l e rmX8_worst s m args below meth c Q D ct ad layC A 5 σ 0 [(0, .ref (ad 0))] [] := by
  intro H locs ls hw hl
  have hx := C.1
  have hb := C.2.1
  unfold fX8_worst at hf
  refine lv_aload_n hx hb dX8_worst_0 rfl (lv_at hl 0 rfl) ?_
  obtain ⟨t_1, h_2, hf⟩ := sn_bd hf
  refine sn_callVi (rest := []) C hw (ctX8_isHouse l  h_2) kl_RX8_137 layC_0 rfl rfl rfl rfl (Nat.le_of_ble_eq_true rfl) dX8_worst_1 hl.1 (fun H locs hw => ?_)
  refine lv_if_ne (tgt := 10) hx hb dX8_worst_4 (by decide) (fun c_3 => ?_) (fun c_3 => ?_)
  · have hf := sn_el c_3 hf
    refine lv_iconst (v := (-1)) hx hb dX8_worst_10 rfl ?_
    refine lv_istore_n (lv' := [(1, .int (-1 : Int32)), (0, .ref (ad 0))]) hx hb dX8_worst_11 rfl hl (by decide) rfl (fun ls hl => ?_)
    refine lv_iconst (v := 0) hx hb dX8_worst_12 rfl ?_
    refine lv_istore_n (lv' := [(2, .int (0 : Int32)), (1, .int (-1 : Int32)), (0, .ref (ad 0))]) hx hb dX8_worst_13 rfl hl (by decide) rfl (fun ls hl => ?_)
    refine lv_iconst (v := 0) hx hb dX8_worst_14 rfl ?_
    refine lv_istore_n (lv' := [(3, .int (0 : Int32)), (2, .int (0 : Int32)), (1, .int (-1 : Int32)), (0, .ref (ad 0))]) hx hb dX8_worst_15 rfl hl (by decide) rfl (fun ls hl => ?_)
    obtain ⟨t_4, h_5, hf⟩ := sn_bd hf
    exact wX8_worst_L16 C  h_5 (fun v e => by cases e; exact wX8_worst_58 C  hf kr) _ _ _ hw (lv_sub hl [3, 2, 1, 0] rfl)
  · have hf := sn_if c_3 hf
    refine lv_bipush (v := (-2)) hx hb dX8_worst_7 (by decide) ?_
    cases hf
    exact kr _ _ _ _ hw rfl dX8_worst_9
theorem ctX8_worst (l : Launch) {σ : sn_S}  {o : Int32} (hf : fX8_worst σ = some o) : sn_M l yX8_worst cX8_worst 5 (some .int) rmX8_worst layC (fun ad => [.ref (ad 0)]) σ (some (fun _ => .int o)) σ :=
  sn_met (by decide) (fun _ => Nat.le_of_ble_eq_true rfl) (fun p e s m args below meth c ls D ct ad A C hw hl => wX8_worst_in C  hf (fun H locs ls pc hw ok hd => sn_iret C hw hd) _ _ _ hw hl)
-- X8_chorus
abbrev rmX8_chorus : Room := { frames := 1, cells := 0, slots := 0, locals := 32 }
def BX8_chorus_48 (σ : sn_S) (x1 : Int32) : Option (Int32) :=
  (some x1)
def BX8_chorus_14 (σ : sn_S) (x1 : Int32) (x2 : Int32) : Option ((Int32 × Int32) ⊕ (Int32)) :=
  (if (sn_I σ 27 0) ≤ x2 then
  (some (.inr (x1)))
  else
  (sn_gd (sn_in x2 30) ((fJ6_bitCount_0f7a4 (sn_I σ (27 + 9) x2.toNatClampNeg)).bind fun t_3 => (sn_lt (if x1 < t_3 then t_3 else x1) fun y_5 => (sn_lt (x2 + 1) fun y_7 => (some (.inl (y_5, y_7))))))))
def LX8_chorus_14 (σ : sn_S) (s : Int32 × Int32) : Option ((Int32 × Int32) ⊕ (Int32)) := BX8_chorus_14 σ s.1 s.2
def fX8_chorus (σ : sn_S) : Option Int32 :=
  ((fX8_isHouse σ).bind fun t_1 => (if t_1 = 0 then
  (some (-2 : Int32))
  else
  ((sn_it (LX8_chorus_14 σ) 5000 ((0 : Int32), (0 : Int32))).bind fun t_4 => (BX8_chorus_48 σ t_4))))
theorem wX8_chorus_48 (C : sn_C p s m args meth c RX8 cX8_chorus 3 (some .int) D ct ad layC A) {σ : sn_S} {x1 : Int32}  {o : Int32} (hf : BX8_chorus_48 σ x1 = some o) (kr : sn_Kr p l e rmX8_chorus s m args below meth c Q D ct ad layC A cX8_chorus .ireturn (true) σ [.int o]) : sn_At p l e rmX8_chorus s m args below meth c Q D ct ad layC A 3 σ 48 [(1, .int x1)] [] := by
  intro H locs ls hw hl
  have hx := C.1
  have hb := C.2.1
  unfold BX8_chorus_48 at hf
  refine lv_iload_n hx hb dX8_chorus_48 rfl (lv_at hl 0 rfl) ?_
  cases hf
  exact kr _ _ _ _ hw rfl dX8_chorus_49
theorem wX8_chorus_14 (C : sn_C p s m args meth c RX8 cX8_chorus 3 (some .int) D ct ad layC A) {σ : sn_S} {x1 : Int32} {x2 : Int32}  {o : (Int32 × Int32) ⊕ (Int32)} (hf : BX8_chorus_14 σ x1 x2 = some o) (kc : ∀ v, o = .inl v → sn_At p l e rmX8_chorus s m args below meth c Q D ct ad layC A 3 σ 14 [(0, .ref (ad 0)), (1, .int v.1), (2, .int v.2)] []) (kx : ∀ v, o = .inr v → sn_At p l e rmX8_chorus s m args below meth c Q D ct ad layC A 3 σ 48 [(1, .int v)] []) : sn_At p l e rmX8_chorus s m args below meth c Q D ct ad layC A 3 σ 14 [(0, .ref (ad 0)), (1, .int x1), (2, .int x2)] [] := by
  intro H locs ls hw hl
  have hx := C.1
  have hb := C.2.1
  unfold BX8_chorus_14 at hf
  refine lv_iload_n hx hb dX8_chorus_14 rfl (lv_at hl 2 rfl) ?_
  refine lv_aload_n hx hb dX8_chorus_15 rfl (lv_at hl 0 rfl) ?_
  refine sn_getC (r := 27) C hw fd_RX8_44 layC_0 rfl dX8_chorus_16 ?_
  refine sn_getI C hw fd_RX8_151 (sn_look sn_isX0_27 (k := 0) rfl) rfl dX8_chorus_19 ?_
  refine lv_icmp_ge (tgt := 48) hx hb dX8_chorus_22 (by decide) (fun c_1 => ?_) (fun c_1 => ?_)
  · have hf := sn_if c_1 hf
    cases hf
    exact kx _ rfl _ _ _ hw (lv_sub hl [1] rfl)
  · have hf := sn_el c_1 hf
    refine lv_iload_n hx hb dX8_chorus_25 rfl (lv_at hl 1 rfl) ?_
    refine lv_aload_n hx hb dX8_chorus_26 rfl (lv_at hl 0 rfl) ?_
    refine sn_getC (r := 27) C hw fd_RX8_44 layC_0 rfl dX8_chorus_27 ?_
    refine sn_getC (r := (27 + 9)) C hw fd_RX8_145 (sn_look sn_isX0_27 (k := 0) rfl) rfl dX8_chorus_30 ?_
    refine lv_iload_n hx hb dX8_chorus_33 rfl (lv_at hl 2 rfl) ?_
    obtain ⟨g_2, hf⟩ := sn_gdE hf
    refine sn_iald C hw (sn_look sn_isX0_27 (k := 9) rfl) g_2 dX8_chorus_34 ?_
    obtain ⟨t_3, h_4, hf⟩ := sn_bd hf
    refine sn_callSi (rest := [.int x1]) C hw (ctJ6_bitCount_0f7a4 l  h_4) kl_RX8_165 rfl rfl rfl (Nat.le_of_ble_eq_true rfl) dX8_chorus_35 hl.1 (fun H locs hw => ?_)
    refine va_mmax hx hb (C.2.2.1.trans hl.1.symm) C.2.2.2.1 (C.2.2.2.2.1 _ km_RX8_154) (C.2.2.2.2.1 _ kst_maxI) (C.2.2.2.2.1 _ ki_Math) (C.2.2.2.2.1 _ kc_maxI) (Nat.le_of_ble_eq_true rfl) (Nat.le_of_ble_eq_true rfl) (Nat.zero_le _) (Nat.zero_le _) dX8_chorus_38 ?_
    obtain ⟨y_5, e_6, hf⟩ := sn_ltE hf
    refine lv_topi (fun y_5_ e_6_ => ?_)
    obtain rfl : y_5 = y_5_ := e_6.trans e_6_.symm
    refine lv_istore_n (lv' := [(1, .int y_5), (0, .ref (ad 0)), (2, .int x2)]) hx hb dX8_chorus_41 rfl hl (by decide) rfl (fun ls hl => ?_)
    obtain ⟨y_7, e_8, hf⟩ := sn_ltE hf
    refine lv_iinc (v := y_7) (lv' := [(2, .int y_7), (1, .int y_5), (0, .ref (ad 0))]) hx hb dX8_chorus_42 hl (k := 2) rfl (by rw [e_8]; rfl) (by decide) rfl (fun ls hl => ?_)
    refine lv_goto (tgt := 14) hx hb dX8_chorus_45 (by decide) ?_
    cases hf
    exact kc _ rfl _ _ _ hw (lv_sub hl [2, 1, 0] rfl)
theorem wX8_chorus_L14 (C : sn_C p s m args meth c RX8 cX8_chorus 3 (some .int) D ct ad layC A) {σ : sn_S}   {z : Int32 × Int32} {t : Int32} (h : sn_it (LX8_chorus_14 σ) 5000 z = some t) (kx : ∀ v, t = v → sn_At p l e rmX8_chorus s m args below meth c Q D ct ad layC A 3 σ 48 [(1, .int v)] []) : sn_At p l e rmX8_chorus s m args below meth c Q D ct ad layC A 3 σ 14 [(0, .ref (ad 0)), (1, .int z.1), (2, .int z.2)] [] :=
  sn_loop (f := LX8_chorus_14 σ) (G := fun z => sn_At p l e rmX8_chorus s m args below meth c Q D ct ad layC A 3 σ 14 [(0, .ref (ad 0)), (1, .int z.1), (2, .int z.2)] []) (E := fun t => (∀ v, t = v → sn_At p l e rmX8_chorus s m args below meth c Q D ct ad layC A 3 σ 48 [(1, .int v)] []) ∧ True) (fun z o hf k1 k2 => wX8_chorus_14 C  hf (fun v e => k1 v e) (fun v e => (k2 _ e).1 v rfl)) 5000 z t h ⟨kx, trivial⟩
theorem wX8_chorus_in (C : sn_C p s m args meth c RX8 cX8_chorus 3 (some .int) D ct ad layC A) {σ : sn_S}  {o : Int32} (hf : fX8_chorus σ = some o) (kr : sn_Kr p l e rmX8_chorus s m args below meth c Q D ct ad layC A cX8_chorus .ireturn (true) σ [.int o]) : sn_At p l e rmX8_chorus s m args below meth c Q D ct ad layC A 3 σ 0 [(0, .ref (ad 0))] [] := by
  intro H locs ls hw hl
  have hx := C.1
  have hb := C.2.1
  unfold fX8_chorus at hf
  refine lv_aload_n hx hb dX8_chorus_0 rfl (lv_at hl 0 rfl) ?_
  obtain ⟨t_1, h_2, hf⟩ := sn_bd hf
  refine sn_callVi (rest := []) C hw (ctX8_isHouse l  h_2) kl_RX8_137 layC_0 rfl rfl rfl rfl (Nat.le_of_ble_eq_true rfl) dX8_chorus_1 hl.1 (fun H locs hw => ?_)
  refine lv_if_ne (tgt := 10) hx hb dX8_chorus_4 (by decide) (fun c_3 => ?_) (fun c_3 => ?_)
  · have hf := sn_el c_3 hf
    refine lv_iconst (v := 0) hx hb dX8_chorus_10 rfl ?_
    refine lv_istore_n (lv' := [(1, .int (0 : Int32)), (0, .ref (ad 0))]) hx hb dX8_chorus_11 rfl hl (by decide) rfl (fun ls hl => ?_)
    refine lv_iconst (v := 0) hx hb dX8_chorus_12 rfl ?_
    refine lv_istore_n (lv' := [(2, .int (0 : Int32)), (1, .int (0 : Int32)), (0, .ref (ad 0))]) hx hb dX8_chorus_13 rfl hl (by decide) rfl (fun ls hl => ?_)
    obtain ⟨t_4, h_5, hf⟩ := sn_bd hf
    exact wX8_chorus_L14 C  h_5 (fun v e => by cases e; exact wX8_chorus_48 C  hf kr) _ _ _ hw (lv_sub hl [2, 1, 0] rfl)
  · have hf := sn_if c_3 hf
    refine lv_bipush (v := (-2)) hx hb dX8_chorus_7 (by decide) ?_
    cases hf
    exact kr _ _ _ _ hw rfl dX8_chorus_9
theorem ctX8_chorus (l : Launch) {σ : sn_S}  {o : Int32} (hf : fX8_chorus σ = some o) : sn_M l yX8_chorus cX8_chorus 3 (some .int) rmX8_chorus layC (fun ad => [.ref (ad 0)]) σ (some (fun _ => .int o)) σ :=
  sn_met (by decide) (fun _ => Nat.le_of_ble_eq_true rfl) (fun p e s m args below meth c ls D ct ad A C hw hl => wX8_chorus_in C  hf (fun H locs ls pc hw ok hd => sn_iret C hw hd) _ _ _ hw hl)
-- X8_calm
abbrev rmX8_calm : Room := { frames := 1, cells := 0, slots := 0, locals := 32 }
def BX8_calm_59 (σ : sn_S) (x1 : Int32) : Option (Int32) :=
  (some x1)
def BX8_calm_46 (σ : sn_S) (x1 : Int32) (x2 : Int32) (x3 : Int32) (t0 : Int32) : Option ((Int32 × Int32 × Int32) ⊕ (Int32)) :=
  (sn_lt (if x1 < t0 then t0 else x1) fun y_1 => (sn_lt (x3 + 1) fun y_3 => (some (.inl (y_1, t0, y_3)))))
def BX8_calm_16 (σ : sn_S) (x1 : Int32) (x2 : Int32) (x3 : Int32) : Option ((Int32 × Int32 × Int32) ⊕ (Int32)) :=
  (if (sn_I σ 27 0) ≤ x3 then
  (some (.inr (x1)))
  else
  (sn_gd (sn_in x3 30) (if (sn_I σ (27 + 9) x3.toNatClampNeg) = 0 then
  (BX8_calm_46 σ x1 x2 x3 (x2 + (1 : Int32)))
  else
  (BX8_calm_46 σ x1 x2 x3 (0 : Int32)))))
def LX8_calm_16 (σ : sn_S) (s : Int32 × Int32 × Int32) : Option ((Int32 × Int32 × Int32) ⊕ (Int32)) := BX8_calm_16 σ s.1 s.2.1 s.2.2
def fX8_calm (σ : sn_S) : Option Int32 :=
  ((fX8_isHouse σ).bind fun t_1 => (if t_1 = 0 then
  (some (-2 : Int32))
  else
  ((sn_it (LX8_calm_16 σ) 5000 ((0 : Int32), (0 : Int32), (0 : Int32))).bind fun t_4 => (BX8_calm_59 σ t_4))))
theorem wX8_calm_59 (C : sn_C p s m args meth c RX8 cX8_calm 4 (some .int) D ct ad layC A) {σ : sn_S} {x1 : Int32}  {o : Int32} (hf : BX8_calm_59 σ x1 = some o) (kr : sn_Kr p l e rmX8_calm s m args below meth c Q D ct ad layC A cX8_calm .ireturn (true) σ [.int o]) : sn_At p l e rmX8_calm s m args below meth c Q D ct ad layC A 4 σ 59 [(1, .int x1)] [] := by
  intro H locs ls hw hl
  have hx := C.1
  have hb := C.2.1
  unfold BX8_calm_59 at hf
  refine lv_iload_n hx hb dX8_calm_59 rfl (lv_at hl 0 rfl) ?_
  cases hf
  exact kr _ _ _ _ hw rfl dX8_calm_60
theorem wX8_calm_46 (C : sn_C p s m args meth c RX8 cX8_calm 4 (some .int) D ct ad layC A) {σ : sn_S} {x1 : Int32} {x2 : Int32} {x3 : Int32} {t0 : Int32}  {o : (Int32 × Int32 × Int32) ⊕ (Int32)} (hf : BX8_calm_46 σ x1 x2 x3 t0 = some o) (kc : ∀ v, o = .inl v → sn_At p l e rmX8_calm s m args below meth c Q D ct ad layC A 4 σ 16 [(0, .ref (ad 0)), (1, .int v.1), (2, .int v.2.1), (3, .int v.2.2)] []) (kx : ∀ v, o = .inr v → sn_At p l e rmX8_calm s m args below meth c Q D ct ad layC A 4 σ 59 [(1, .int v)] []) : sn_At p l e rmX8_calm s m args below meth c Q D ct ad layC A 4 σ 46 [(0, .ref (ad 0)), (1, .int x1), (2, .int x2), (3, .int x3)] [.int t0] := by
  intro H locs ls hw hl
  have hx := C.1
  have hb := C.2.1
  unfold BX8_calm_46 at hf
  refine lv_istore_n (lv' := [(2, .int t0), (0, .ref (ad 0)), (1, .int x1), (3, .int x3)]) hx hb dX8_calm_46 rfl hl (by decide) rfl (fun ls hl => ?_)
  refine lv_iload_n hx hb dX8_calm_47 rfl (lv_at hl 2 rfl) ?_
  refine lv_iload_n hx hb dX8_calm_48 rfl (lv_at hl 0 rfl) ?_
  refine va_mmax hx hb (C.2.2.1.trans hl.1.symm) C.2.2.2.1 (C.2.2.2.2.1 _ km_RX8_154) (C.2.2.2.2.1 _ kst_maxI) (C.2.2.2.2.1 _ ki_Math) (C.2.2.2.2.1 _ kc_maxI) (Nat.le_of_ble_eq_true rfl) (Nat.le_of_ble_eq_true rfl) (Nat.zero_le _) (Nat.zero_le _) dX8_calm_49 ?_
  obtain ⟨y_1, e_2, hf⟩ := sn_ltE hf
  refine lv_topi (fun y_1_ e_2_ => ?_)
  obtain rfl : y_1 = y_1_ := e_2.trans e_2_.symm
  refine lv_istore_n (lv' := [(1, .int y_1), (2, .int t0), (0, .ref (ad 0)), (3, .int x3)]) hx hb dX8_calm_52 rfl hl (by decide) rfl (fun ls hl => ?_)
  obtain ⟨y_3, e_4, hf⟩ := sn_ltE hf
  refine lv_iinc (v := y_3) (lv' := [(3, .int y_3), (1, .int y_1), (2, .int t0), (0, .ref (ad 0))]) hx hb dX8_calm_53 hl (k := 3) rfl (by rw [e_4]; rfl) (by decide) rfl (fun ls hl => ?_)
  refine lv_goto (tgt := 16) hx hb dX8_calm_56 (by decide) ?_
  cases hf
  exact kc _ rfl _ _ _ hw (lv_sub hl [3, 1, 2, 0] rfl)
theorem wX8_calm_16 (C : sn_C p s m args meth c RX8 cX8_calm 4 (some .int) D ct ad layC A) {σ : sn_S} {x1 : Int32} {x2 : Int32} {x3 : Int32}  {o : (Int32 × Int32 × Int32) ⊕ (Int32)} (hf : BX8_calm_16 σ x1 x2 x3 = some o) (kc : ∀ v, o = .inl v → sn_At p l e rmX8_calm s m args below meth c Q D ct ad layC A 4 σ 16 [(0, .ref (ad 0)), (1, .int v.1), (2, .int v.2.1), (3, .int v.2.2)] []) (kx : ∀ v, o = .inr v → sn_At p l e rmX8_calm s m args below meth c Q D ct ad layC A 4 σ 59 [(1, .int v)] []) : sn_At p l e rmX8_calm s m args below meth c Q D ct ad layC A 4 σ 16 [(0, .ref (ad 0)), (1, .int x1), (2, .int x2), (3, .int x3)] [] := by
  intro H locs ls hw hl
  have hx := C.1
  have hb := C.2.1
  unfold BX8_calm_16 at hf
  refine lv_iload_n hx hb dX8_calm_16 rfl (lv_at hl 3 rfl) ?_
  refine lv_aload_n hx hb dX8_calm_17 rfl (lv_at hl 0 rfl) ?_
  refine sn_getC (r := 27) C hw fd_RX8_44 layC_0 rfl dX8_calm_18 ?_
  refine sn_getI C hw fd_RX8_151 (sn_look sn_isX0_27 (k := 0) rfl) rfl dX8_calm_21 ?_
  refine lv_icmp_ge (tgt := 59) hx hb dX8_calm_24 (by decide) (fun c_1 => ?_) (fun c_1 => ?_)
  · have hf := sn_if c_1 hf
    cases hf
    exact kx _ rfl _ _ _ hw (lv_sub hl [1] rfl)
  · have hf := sn_el c_1 hf
    refine lv_aload_n hx hb dX8_calm_27 rfl (lv_at hl 0 rfl) ?_
    refine sn_getC (r := 27) C hw fd_RX8_44 layC_0 rfl dX8_calm_28 ?_
    refine sn_getC (r := (27 + 9)) C hw fd_RX8_145 (sn_look sn_isX0_27 (k := 0) rfl) rfl dX8_calm_31 ?_
    refine lv_iload_n hx hb dX8_calm_34 rfl (lv_at hl 3 rfl) ?_
    obtain ⟨g_2, hf⟩ := sn_gdE hf
    refine sn_iald C hw (sn_look sn_isX0_27 (k := 9) rfl) g_2 dX8_calm_35 ?_
    refine lv_if_ne (tgt := 45) hx hb dX8_calm_36 (by decide) (fun c_3 => ?_) (fun c_3 => ?_)
    · have hf := sn_el c_3 hf
      refine lv_iconst (v := 0) hx hb dX8_calm_45 rfl ?_
      exact wX8_calm_46 C  hf kc kx _ _ _ hw (lv_sub hl [0, 1, 2, 3] rfl)
    · have hf := sn_if c_3 hf
      refine lv_iload_n hx hb dX8_calm_39 rfl (lv_at hl 2 rfl) ?_
      refine lv_iconst (v := 1) hx hb dX8_calm_40 rfl ?_
      refine lv_iadd hx hb dX8_calm_41 ?_
      refine lv_goto (tgt := 46) hx hb dX8_calm_42 (by decide) ?_
      exact wX8_calm_46 C  hf kc kx _ _ _ hw (lv_sub hl [0, 1, 2, 3] rfl)
theorem wX8_calm_L16 (C : sn_C p s m args meth c RX8 cX8_calm 4 (some .int) D ct ad layC A) {σ : sn_S}   {z : Int32 × Int32 × Int32} {t : Int32} (h : sn_it (LX8_calm_16 σ) 5000 z = some t) (kx : ∀ v, t = v → sn_At p l e rmX8_calm s m args below meth c Q D ct ad layC A 4 σ 59 [(1, .int v)] []) : sn_At p l e rmX8_calm s m args below meth c Q D ct ad layC A 4 σ 16 [(0, .ref (ad 0)), (1, .int z.1), (2, .int z.2.1), (3, .int z.2.2)] [] :=
  sn_loop (f := LX8_calm_16 σ) (G := fun z => sn_At p l e rmX8_calm s m args below meth c Q D ct ad layC A 4 σ 16 [(0, .ref (ad 0)), (1, .int z.1), (2, .int z.2.1), (3, .int z.2.2)] []) (E := fun t => (∀ v, t = v → sn_At p l e rmX8_calm s m args below meth c Q D ct ad layC A 4 σ 59 [(1, .int v)] []) ∧ True) (fun z o hf k1 k2 => wX8_calm_16 C  hf (fun v e => k1 v e) (fun v e => (k2 _ e).1 v rfl)) 5000 z t h ⟨kx, trivial⟩
theorem wX8_calm_in (C : sn_C p s m args meth c RX8 cX8_calm 4 (some .int) D ct ad layC A) {σ : sn_S}  {o : Int32} (hf : fX8_calm σ = some o) (kr : sn_Kr p l e rmX8_calm s m args below meth c Q D ct ad layC A cX8_calm .ireturn (true) σ [.int o]) : sn_At p l e rmX8_calm s m args below meth c Q D ct ad layC A 4 σ 0 [(0, .ref (ad 0))] [] := by
  intro H locs ls hw hl
  have hx := C.1
  have hb := C.2.1
  unfold fX8_calm at hf
  refine lv_aload_n hx hb dX8_calm_0 rfl (lv_at hl 0 rfl) ?_
  obtain ⟨t_1, h_2, hf⟩ := sn_bd hf
  refine sn_callVi (rest := []) C hw (ctX8_isHouse l  h_2) kl_RX8_137 layC_0 rfl rfl rfl rfl (Nat.le_of_ble_eq_true rfl) dX8_calm_1 hl.1 (fun H locs hw => ?_)
  refine lv_if_ne (tgt := 10) hx hb dX8_calm_4 (by decide) (fun c_3 => ?_) (fun c_3 => ?_)
  · have hf := sn_el c_3 hf
    refine lv_iconst (v := 0) hx hb dX8_calm_10 rfl ?_
    refine lv_istore_n (lv' := [(1, .int (0 : Int32)), (0, .ref (ad 0))]) hx hb dX8_calm_11 rfl hl (by decide) rfl (fun ls hl => ?_)
    refine lv_iconst (v := 0) hx hb dX8_calm_12 rfl ?_
    refine lv_istore_n (lv' := [(2, .int (0 : Int32)), (1, .int (0 : Int32)), (0, .ref (ad 0))]) hx hb dX8_calm_13 rfl hl (by decide) rfl (fun ls hl => ?_)
    refine lv_iconst (v := 0) hx hb dX8_calm_14 rfl ?_
    refine lv_istore_n (lv' := [(3, .int (0 : Int32)), (2, .int (0 : Int32)), (1, .int (0 : Int32)), (0, .ref (ad 0))]) hx hb dX8_calm_15 rfl hl (by decide) rfl (fun ls hl => ?_)
    obtain ⟨t_4, h_5, hf⟩ := sn_bd hf
    exact wX8_calm_L16 C  h_5 (fun v e => by cases e; exact wX8_calm_59 C  hf kr) _ _ _ hw (lv_sub hl [3, 2, 1, 0] rfl)
  · have hf := sn_if c_3 hf
    refine lv_bipush (v := (-2)) hx hb dX8_calm_7 (by decide) ?_
    cases hf
    exact kr _ _ _ _ hw rfl dX8_calm_9
theorem ctX8_calm (l : Launch) {σ : sn_S}  {o : Int32} (hf : fX8_calm σ = some o) : sn_M l yX8_calm cX8_calm 4 (some .int) rmX8_calm layC (fun ad => [.ref (ad 0)]) σ (some (fun _ => .int o)) σ :=
  sn_met (by decide) (fun _ => Nat.le_of_ble_eq_true rfl) (fun p e s m args below meth c ls D ct ad A C hw hl => wX8_calm_in C  hf (fun H locs ls pc hw ok hd => sn_iret C hw hd) _ _ _ hw hl)
-- X8_pause
abbrev rmX8_pause : Room := { frames := 1, cells := 0, slots := 0, locals := 21 }
def BX8_pause_79 (σ : sn_S) (x2 : Int32) : Option (Int32) :=
  (some x2)
def BX8_pause_73 (σ : sn_S) (x1 : Int32) (x2 : Int32) (x3 : Int32) (x4 : Int32) : Option ((Int32 × Int32 × Int32) ⊕ (Int32)) :=
  (sn_lt (x4 + 1) fun y_1 => (some (.inl (x2, x3, y_1))))
def BX8_pause_70 (σ : sn_S) (x1 : Int32) (x2 : Int32) (x3 : Int32) (x4 : Int32) : Option ((Int32 × Int32 × Int32) ⊕ (Int32)) :=
  (BX8_pause_73 σ x1 x2 x4 x4)
def BX8_pause_65 (σ : sn_S) (x1 : Int32) (x2 : Int32) (x3 : Int32) (x4 : Int32) : Option ((Int32 × Int32 × Int32) ⊕ (Int32)) :=
  (sn_lt (x4 - x3) fun y_1 => (BX8_pause_70 σ x1 y_1 x3 x4))
def BX8_pause_18 (σ : sn_S) (x1 : Int32) (x2 : Int32) (x3 : Int32) (x4 : Int32) : Option ((Int32 × Int32 × Int32) ⊕ (Int32)) :=
  (if (sn_I σ 27 0) ≤ x4 then
  (some (.inr (x2)))
  else
  (sn_gd (sn_in x1 6) ((fX8_hasBit (sn_I σ (27 + 10) x1.toNatClampNeg) x4).bind fun t_3 => (if t_3 = 0 then
  (BX8_pause_73 σ x1 x2 x3 x4)
  else
  (if x3 = (-1 : Int32) then
  (BX8_pause_70 σ x1 x2 x3 x4)
  else
  (if x2 = (-1 : Int32) then
  (BX8_pause_65 σ x1 x2 x3 x4)
  else
  (if x2 ≤ (x4 - x3) then
  (BX8_pause_70 σ x1 x2 x3 x4)
  else
  (BX8_pause_65 σ x1 x2 x3 x4))))))))
def LX8_pause_18 (σ : sn_S) (x1 : Int32) (s : Int32 × Int32 × Int32) : Option ((Int32 × Int32 × Int32) ⊕ (Int32)) := BX8_pause_18 σ x1 s.1 s.2.1 s.2.2
def fX8_pause (σ : sn_S) (x1 : Int32) : Option Int32 :=
  ((fX8_isPerson σ x1).bind fun t_1 => (if t_1 = 0 then
  (some (-2 : Int32))
  else
  ((sn_it (LX8_pause_18 σ x1) 5000 ((-1 : Int32), (-1 : Int32), (0 : Int32))).bind fun t_4 => (BX8_pause_79 σ t_4))))
theorem wX8_pause_79 (C : sn_C p s m args meth c RX8 cX8_pause 5 (some .int) D ct ad layC A) {σ : sn_S} {x2 : Int32}  {o : Int32} (hf : BX8_pause_79 σ x2 = some o) (kr : sn_Kr p l e rmX8_pause s m args below meth c Q D ct ad layC A cX8_pause .ireturn (true) σ [.int o]) : sn_At p l e rmX8_pause s m args below meth c Q D ct ad layC A 5 σ 79 [(2, .int x2)] [] := by
  intro H locs ls hw hl
  have hx := C.1
  have hb := C.2.1
  unfold BX8_pause_79 at hf
  refine lv_iload_n hx hb dX8_pause_79 rfl (lv_at hl 0 rfl) ?_
  cases hf
  exact kr _ _ _ _ hw rfl dX8_pause_80
theorem wX8_pause_73 (C : sn_C p s m args meth c RX8 cX8_pause 5 (some .int) D ct ad layC A) {σ : sn_S} {x1 : Int32} {x2 : Int32} {x3 : Int32} {x4 : Int32}  {o : (Int32 × Int32 × Int32) ⊕ (Int32)} (hf : BX8_pause_73 σ x1 x2 x3 x4 = some o) (kc : ∀ v, o = .inl v → sn_At p l e rmX8_pause s m args below meth c Q D ct ad layC A 5 σ 18 [(0, .ref (ad 0)), (1, .int x1), (2, .int v.1), (3, .int v.2.1), (4, .int v.2.2)] []) (kx : ∀ v, o = .inr v → sn_At p l e rmX8_pause s m args below meth c Q D ct ad layC A 5 σ 79 [(2, .int v)] []) : sn_At p l e rmX8_pause s m args below meth c Q D ct ad layC A 5 σ 73 [(0, .ref (ad 0)), (1, .int x1), (2, .int x2), (3, .int x3), (4, .int x4)] [] := by
  intro H locs ls hw hl
  have hx := C.1
  have hb := C.2.1
  unfold BX8_pause_73 at hf
  obtain ⟨y_1, e_2, hf⟩ := sn_ltE hf
  refine lv_iinc (v := y_1) (lv' := [(4, .int y_1), (0, .ref (ad 0)), (1, .int x1), (2, .int x2), (3, .int x3)]) hx hb dX8_pause_73 hl (k := 4) rfl (by rw [e_2]; rfl) (by decide) rfl (fun ls hl => ?_)
  refine lv_goto (tgt := 18) hx hb dX8_pause_76 (by decide) ?_
  cases hf
  exact kc _ rfl _ _ _ hw (lv_sub hl [1, 2, 3, 4, 0] rfl)
theorem wX8_pause_70 (C : sn_C p s m args meth c RX8 cX8_pause 5 (some .int) D ct ad layC A) {σ : sn_S} {x1 : Int32} {x2 : Int32} {x3 : Int32} {x4 : Int32}  {o : (Int32 × Int32 × Int32) ⊕ (Int32)} (hf : BX8_pause_70 σ x1 x2 x3 x4 = some o) (kc : ∀ v, o = .inl v → sn_At p l e rmX8_pause s m args below meth c Q D ct ad layC A 5 σ 18 [(0, .ref (ad 0)), (1, .int x1), (2, .int v.1), (3, .int v.2.1), (4, .int v.2.2)] []) (kx : ∀ v, o = .inr v → sn_At p l e rmX8_pause s m args below meth c Q D ct ad layC A 5 σ 79 [(2, .int v)] []) : sn_At p l e rmX8_pause s m args below meth c Q D ct ad layC A 5 σ 70 [(0, .ref (ad 0)), (1, .int x1), (2, .int x2), (3, .int x3), (4, .int x4)] [] := by
  intro H locs ls hw hl
  have hx := C.1
  have hb := C.2.1
  unfold BX8_pause_70 at hf
  refine lv_iload hx hb dX8_pause_70 (lv_at hl 4 rfl) ?_
  refine lv_istore_n (lv' := [(3, .int x4), (0, .ref (ad 0)), (1, .int x1), (2, .int x2), (4, .int x4)]) hx hb dX8_pause_72 rfl hl (by decide) rfl (fun ls hl => ?_)
  exact wX8_pause_73 C  hf kc kx _ _ _ hw (lv_sub hl [1, 2, 3, 0, 4] rfl)
theorem wX8_pause_65 (C : sn_C p s m args meth c RX8 cX8_pause 5 (some .int) D ct ad layC A) {σ : sn_S} {x1 : Int32} {x2 : Int32} {x3 : Int32} {x4 : Int32}  {o : (Int32 × Int32 × Int32) ⊕ (Int32)} (hf : BX8_pause_65 σ x1 x2 x3 x4 = some o) (kc : ∀ v, o = .inl v → sn_At p l e rmX8_pause s m args below meth c Q D ct ad layC A 5 σ 18 [(0, .ref (ad 0)), (1, .int x1), (2, .int v.1), (3, .int v.2.1), (4, .int v.2.2)] []) (kx : ∀ v, o = .inr v → sn_At p l e rmX8_pause s m args below meth c Q D ct ad layC A 5 σ 79 [(2, .int v)] []) : sn_At p l e rmX8_pause s m args below meth c Q D ct ad layC A 5 σ 65 [(0, .ref (ad 0)), (1, .int x1), (2, .int x2), (3, .int x3), (4, .int x4)] [] := by
  intro H locs ls hw hl
  have hx := C.1
  have hb := C.2.1
  unfold BX8_pause_65 at hf
  refine lv_iload hx hb dX8_pause_65 (lv_at hl 4 rfl) ?_
  refine lv_iload_n hx hb dX8_pause_67 rfl (lv_at hl 3 rfl) ?_
  refine lv_isub hx hb dX8_pause_68 ?_
  obtain ⟨y_1, e_2, hf⟩ := sn_ltE hf
  refine lv_topi (fun y_1_ e_2_ => ?_)
  obtain rfl : y_1 = y_1_ := e_2.trans e_2_.symm
  refine lv_istore_n (lv' := [(2, .int y_1), (0, .ref (ad 0)), (1, .int x1), (3, .int x3), (4, .int x4)]) hx hb dX8_pause_69 rfl hl (by decide) rfl (fun ls hl => ?_)
  exact wX8_pause_70 C  hf kc kx _ _ _ hw (lv_sub hl [1, 2, 0, 3, 4] rfl)
theorem wX8_pause_18 (C : sn_C p s m args meth c RX8 cX8_pause 5 (some .int) D ct ad layC A) {σ : sn_S} {x1 : Int32} {x2 : Int32} {x3 : Int32} {x4 : Int32}  {o : (Int32 × Int32 × Int32) ⊕ (Int32)} (hf : BX8_pause_18 σ x1 x2 x3 x4 = some o) (kc : ∀ v, o = .inl v → sn_At p l e rmX8_pause s m args below meth c Q D ct ad layC A 5 σ 18 [(0, .ref (ad 0)), (1, .int x1), (2, .int v.1), (3, .int v.2.1), (4, .int v.2.2)] []) (kx : ∀ v, o = .inr v → sn_At p l e rmX8_pause s m args below meth c Q D ct ad layC A 5 σ 79 [(2, .int v)] []) : sn_At p l e rmX8_pause s m args below meth c Q D ct ad layC A 5 σ 18 [(0, .ref (ad 0)), (1, .int x1), (2, .int x2), (3, .int x3), (4, .int x4)] [] := by
  intro H locs ls hw hl
  have hx := C.1
  have hb := C.2.1
  unfold BX8_pause_18 at hf
  refine lv_iload hx hb dX8_pause_18 (lv_at hl 4 rfl) ?_
  refine lv_aload_n hx hb dX8_pause_20 rfl (lv_at hl 0 rfl) ?_
  refine sn_getC (r := 27) C hw fd_RX8_44 layC_0 rfl dX8_pause_21 ?_
  refine sn_getI C hw fd_RX8_151 (sn_look sn_isX0_27 (k := 0) rfl) rfl dX8_pause_24 ?_
  refine lv_icmp_ge (tgt := 79) hx hb dX8_pause_27 (by decide) (fun c_1 => ?_) (fun c_1 => ?_)
  · have hf := sn_if c_1 hf
    cases hf
    exact kx _ rfl _ _ _ hw (lv_sub hl [2] rfl)
  · have hf := sn_el c_1 hf
    refine lv_aload_n hx hb dX8_pause_30 rfl (lv_at hl 0 rfl) ?_
    refine sn_getC (r := 27) C hw fd_RX8_44 layC_0 rfl dX8_pause_31 ?_
    refine sn_getC (r := (27 + 10)) C hw fd_RX8_131 (sn_look sn_isX0_27 (k := 0) rfl) rfl dX8_pause_34 ?_
    refine lv_iload_n hx hb dX8_pause_37 rfl (lv_at hl 1 rfl) ?_
    obtain ⟨g_2, hf⟩ := sn_gdE hf
    refine sn_iald C hw (sn_look sn_isX0_27 (k := 10) rfl) g_2 dX8_pause_38 ?_
    refine lv_iload hx hb dX8_pause_39 (lv_at hl 4 rfl) ?_
    obtain ⟨t_3, h_4, hf⟩ := sn_bd hf
    refine sn_callSi (rest := []) C hw (ctX8_hasBit l  h_4) kl_RX8_170 rfl rfl rfl (Nat.le_of_ble_eq_true rfl) dX8_pause_41 hl.1 (fun H locs hw => ?_)
    refine lv_if_eq (tgt := 73) hx hb dX8_pause_44 (by decide) (fun c_5 => ?_) (fun c_5 => ?_)
    · have hf := sn_if c_5 hf
      exact wX8_pause_73 C  hf kc kx _ _ _ hw (lv_sub hl [0, 1, 2, 3, 4] rfl)
    · have hf := sn_el c_5 hf
      refine lv_iload_n hx hb dX8_pause_47 rfl (lv_at hl 3 rfl) ?_
      refine lv_iconst (v := (-1)) hx hb dX8_pause_48 rfl ?_
      refine lv_icmp_eq (tgt := 70) hx hb dX8_pause_49 (by decide) (fun c_6 => ?_) (fun c_6 => ?_)
      · have hf := sn_if c_6 hf
        exact wX8_pause_70 C  hf kc kx _ _ _ hw (lv_sub hl [0, 1, 2, 3, 4] rfl)
      · have hf := sn_el c_6 hf
        refine lv_iload_n hx hb dX8_pause_52 rfl (lv_at hl 2 rfl) ?_
        refine lv_iconst (v := (-1)) hx hb dX8_pause_53 rfl ?_
        refine lv_icmp_eq (tgt := 65) hx hb dX8_pause_54 (by decide) (fun c_7 => ?_) (fun c_7 => ?_)
        · have hf := sn_if c_7 hf
          exact wX8_pause_65 C  hf kc kx _ _ _ hw (lv_sub hl [0, 1, 2, 3, 4] rfl)
        · have hf := sn_el c_7 hf
          refine lv_iload hx hb dX8_pause_57 (lv_at hl 4 rfl) ?_
          refine lv_iload_n hx hb dX8_pause_59 rfl (lv_at hl 3 rfl) ?_
          refine lv_isub hx hb dX8_pause_60 ?_
          refine lv_iload_n hx hb dX8_pause_61 rfl (lv_at hl 2 rfl) ?_
          refine lv_icmp_ge (tgt := 70) hx hb dX8_pause_62 (by decide) (fun c_8 => ?_) (fun c_8 => ?_)
          · have hf := sn_if c_8 hf
            exact wX8_pause_70 C  hf kc kx _ _ _ hw (lv_sub hl [0, 1, 2, 3, 4] rfl)
          · have hf := sn_el c_8 hf
            exact wX8_pause_65 C  hf kc kx _ _ _ hw (lv_sub hl [0, 1, 2, 3, 4] rfl)
theorem wX8_pause_L18 (C : sn_C p s m args meth c RX8 cX8_pause 5 (some .int) D ct ad layC A) {σ : sn_S} {x1 : Int32}   {z : Int32 × Int32 × Int32} {t : Int32} (h : sn_it (LX8_pause_18 σ x1) 5000 z = some t) (kx : ∀ v, t = v → sn_At p l e rmX8_pause s m args below meth c Q D ct ad layC A 5 σ 79 [(2, .int v)] []) : sn_At p l e rmX8_pause s m args below meth c Q D ct ad layC A 5 σ 18 [(0, .ref (ad 0)), (1, .int x1), (2, .int z.1), (3, .int z.2.1), (4, .int z.2.2)] [] :=
  sn_loop (f := LX8_pause_18 σ x1) (G := fun z => sn_At p l e rmX8_pause s m args below meth c Q D ct ad layC A 5 σ 18 [(0, .ref (ad 0)), (1, .int x1), (2, .int z.1), (3, .int z.2.1), (4, .int z.2.2)] []) (E := fun t => (∀ v, t = v → sn_At p l e rmX8_pause s m args below meth c Q D ct ad layC A 5 σ 79 [(2, .int v)] []) ∧ True) (fun z o hf k1 k2 => wX8_pause_18 C  hf (fun v e => k1 v e) (fun v e => (k2 _ e).1 v rfl)) 5000 z t h ⟨kx, trivial⟩
theorem wX8_pause_in (C : sn_C p s m args meth c RX8 cX8_pause 5 (some .int) D ct ad layC A) {σ : sn_S} {x1 : Int32}  {o : Int32} (hf : fX8_pause σ x1 = some o) (kr : sn_Kr p l e rmX8_pause s m args below meth c Q D ct ad layC A cX8_pause .ireturn (true) σ [.int o]) : sn_At p l e rmX8_pause s m args below meth c Q D ct ad layC A 5 σ 0 [(0, .ref (ad 0)), (1, .int x1)] [] := by
  intro H locs ls hw hl
  have hx := C.1
  have hb := C.2.1
  unfold fX8_pause at hf
  refine lv_aload_n hx hb dX8_pause_0 rfl (lv_at hl 0 rfl) ?_
  refine lv_iload_n hx hb dX8_pause_1 rfl (lv_at hl 1 rfl) ?_
  obtain ⟨t_1, h_2, hf⟩ := sn_bd hf
  refine sn_callVi (rest := []) C hw (ctX8_isPerson l  h_2) kl_RX8_107 layC_0 rfl rfl rfl rfl (Nat.le_of_ble_eq_true rfl) dX8_pause_2 hl.1 (fun H locs hw => ?_)
  refine lv_if_ne (tgt := 11) hx hb dX8_pause_5 (by decide) (fun c_3 => ?_) (fun c_3 => ?_)
  · have hf := sn_el c_3 hf
    refine lv_iconst (v := (-1)) hx hb dX8_pause_11 rfl ?_
    refine lv_istore_n (lv' := [(2, .int (-1 : Int32)), (0, .ref (ad 0)), (1, .int x1)]) hx hb dX8_pause_12 rfl hl (by decide) rfl (fun ls hl => ?_)
    refine lv_iconst (v := (-1)) hx hb dX8_pause_13 rfl ?_
    refine lv_istore_n (lv' := [(3, .int (-1 : Int32)), (2, .int (-1 : Int32)), (0, .ref (ad 0)), (1, .int x1)]) hx hb dX8_pause_14 rfl hl (by decide) rfl (fun ls hl => ?_)
    refine lv_iconst (v := 0) hx hb dX8_pause_15 rfl ?_
    refine lv_istore (lv' := [(4, .int (0 : Int32)), (3, .int (-1 : Int32)), (2, .int (-1 : Int32)), (0, .ref (ad 0)), (1, .int x1)]) hx hb dX8_pause_16 hl (by decide) rfl (fun ls hl => ?_)
    obtain ⟨t_4, h_5, hf⟩ := sn_bd hf
    exact wX8_pause_L18 C  h_5 (fun v e => by cases e; exact wX8_pause_79 C  hf kr) _ _ _ hw (lv_sub hl [3, 4, 2, 1, 0] rfl)
  · have hf := sn_if c_3 hf
    refine lv_bipush (v := (-2)) hx hb dX8_pause_8 (by decide) ?_
    cases hf
    exact kr _ _ _ _ hw rfl dX8_pause_10
theorem ctX8_pause (l : Launch) {σ : sn_S} {x1 : Int32}  {o : Int32} (hf : fX8_pause σ x1 = some o) : sn_M l yX8_pause cX8_pause 5 (some .int) rmX8_pause layC (fun ad => [.ref (ad 0), .int x1]) σ (some (fun _ => .int o)) σ :=
  sn_met (by decide) (fun _ => Nat.le_of_ble_eq_true rfl) (fun p e s m args below meth c ls D ct ad A C hw hl => wX8_pause_in C  hf (fun H locs ls pc hw ok hd => sn_iret C hw hd) _ _ _ hw hl)
-- X8_later
abbrev rmX8_later : Room := { frames := 2, cells := 0, slots := 0, locals := 40 }
def fX8_later (σ : sn_S) (x1 : Int32) (x2 : Int32) : Option Int32 :=
  ((fX8_isPerson σ x1).bind fun t_1 => (if t_1 = 0 then
  (some (-2 : Int32))
  else
  ((fX8_isMinute σ x2).bind fun t_4 => (if t_4 = 0 then
  (some (-2 : Int32))
  else
  (sn_gd (sn_in x1 6) ((fX8_firstMinutes x2).bind fun t_8 => ((fX8_lowestBit ((sn_I σ (27 + 10) x1.toNatClampNeg) &&& (t_8 ^^^ (-1 : Int32)))).bind fun t_10 => (some t_10))))))))
theorem wX8_later_in (C : sn_C p s m args meth c RX8 cX8_later 3 (some .int) D ct ad layC A) {σ : sn_S} {x1 : Int32} {x2 : Int32}  {o : Int32} (hf : fX8_later σ x1 x2 = some o) (kr : sn_Kr p l e rmX8_later s m args below meth c Q D ct ad layC A cX8_later .ireturn (true) σ [.int o]) : sn_At p l e rmX8_later s m args below meth c Q D ct ad layC A 3 σ 0 [(0, .ref (ad 0)), (1, .int x1), (2, .int x2)] [] := by
  intro H locs ls hw hl
  have hx := C.1
  have hb := C.2.1
  unfold fX8_later at hf
  refine lv_aload_n hx hb dX8_later_0 rfl (lv_at hl 0 rfl) ?_
  refine lv_iload_n hx hb dX8_later_1 rfl (lv_at hl 1 rfl) ?_
  obtain ⟨t_1, h_2, hf⟩ := sn_bd hf
  refine sn_callVi (rest := []) C hw (ctX8_isPerson l  h_2) kl_RX8_107 layC_0 rfl rfl rfl rfl (Nat.le_of_ble_eq_true rfl) dX8_later_2 hl.1 (fun H locs hw => ?_)
  refine lv_if_eq (tgt := 16) hx hb dX8_later_5 (by decide) (fun c_3 => ?_) (fun c_3 => ?_)
  · have hf := sn_if c_3 hf
    refine lv_bipush (v := (-2)) hx hb dX8_later_16 (by decide) ?_
    cases hf
    exact kr _ _ _ _ hw rfl dX8_later_18
  · have hf := sn_el c_3 hf
    refine lv_aload_n hx hb dX8_later_8 rfl (lv_at hl 0 rfl) ?_
    refine lv_iload_n hx hb dX8_later_9 rfl (lv_at hl 2 rfl) ?_
    obtain ⟨t_4, h_5, hf⟩ := sn_bd hf
    refine sn_callVi (rest := []) C hw (ctX8_isMinute l  h_5) kl_RX8_125 layC_0 rfl rfl rfl rfl (Nat.le_of_ble_eq_true rfl) dX8_later_10 hl.1 (fun H locs hw => ?_)
    refine lv_if_ne (tgt := 19) hx hb dX8_later_13 (by decide) (fun c_6 => ?_) (fun c_6 => ?_)
    · have hf := sn_el c_6 hf
      refine lv_aload_n hx hb dX8_later_19 rfl (lv_at hl 0 rfl) ?_
      refine sn_getC (r := 27) C hw fd_RX8_44 layC_0 rfl dX8_later_20 ?_
      refine sn_getC (r := (27 + 10)) C hw fd_RX8_131 (sn_look sn_isX0_27 (k := 0) rfl) rfl dX8_later_23 ?_
      refine lv_iload_n hx hb dX8_later_26 rfl (lv_at hl 1 rfl) ?_
      obtain ⟨g_7, hf⟩ := sn_gdE hf
      refine sn_iald C hw (sn_look sn_isX0_27 (k := 10) rfl) g_7 dX8_later_27 ?_
      refine lv_iload_n hx hb dX8_later_28 rfl (lv_at hl 2 rfl) ?_
      obtain ⟨t_8, h_9, hf⟩ := sn_bd hf
      refine sn_callSi (rest := [.int (sn_I σ (27 + 10) x1.toNatClampNeg)]) C hw (ctX8_firstMinutes l  h_9) kl_RX8_174 rfl rfl rfl (Nat.le_of_ble_eq_true rfl) dX8_later_29 hl.1 (fun H locs hw => ?_)
      refine lv_iconst (v := (-1)) hx hb dX8_later_32 rfl ?_
      refine lv_ixor hx hb dX8_later_33 ?_
      refine lv_iand hx hb dX8_later_34 ?_
      obtain ⟨t_10, h_11, hf⟩ := sn_bd hf
      refine sn_callSi (rest := []) C hw (ctX8_lowestBit l  h_11) kl_RX8_134 rfl rfl rfl (Nat.le_of_ble_eq_true rfl) dX8_later_35 hl.1 (fun H locs hw => ?_)
      cases hf
      exact kr _ _ _ _ hw rfl dX8_later_38
    · have hf := sn_if c_6 hf
      refine lv_bipush (v := (-2)) hx hb dX8_later_16 (by decide) ?_
      cases hf
      exact kr _ _ _ _ hw rfl dX8_later_18
theorem ctX8_later (l : Launch) {σ : sn_S} {x1 : Int32} {x2 : Int32}  {o : Int32} (hf : fX8_later σ x1 x2 = some o) : sn_M l yX8_later cX8_later 3 (some .int) rmX8_later layC (fun ad => [.ref (ad 0), .int x1, .int x2]) σ (some (fun _ => .int o)) σ :=
  sn_met (by decide) (fun _ => Nat.le_of_ble_eq_true rfl) (fun p e s m args below meth c ls D ct ad A C hw hl => wX8_later_in C  hf (fun H locs ls pc hw ok hd => sn_iret C hw hd) _ _ _ hw hl)
-- X8_minutesCovered
abbrev rmX8_minutesCovered : Room := { frames := 1, cells := 0, slots := 0, locals := 22 }
def BX8_minutesCovered_48 (σ : sn_S) (x2 : Int32) : Option (Int32) :=
  (sn_gd (sn_in (0 : Int32) 11) ((fX8_firstMinutes (sn_I σ (1 + 1) (0 : Int32).toNatClampNeg)).bind fun t_2 => (some (x2 &&& t_2))))
def BX8_minutesCovered_42 (σ : sn_S) (x1 : Int32) (x2 : Int32) (x3 : Int32) : Option ((Int32 × Int32) ⊕ (Int32)) :=
  (sn_lt (x3 + 1) fun y_1 => (some (.inl (x2, y_1))))
def BX8_minutesCovered_4 (σ : sn_S) (x1 : Int32) (x2 : Int32) (x3 : Int32) : Option ((Int32 × Int32) ⊕ (Int32)) :=
  (sn_gd (sn_in (8 : Int32) 11) (if (sn_I σ (1 + 1) (8 : Int32).toNatClampNeg) ≤ x3 then
  (some (.inr (x2)))
  else
  ((fX2_ofPolicy σ 1 x3 (0 : Int32)).bind fun t_3 => (if t_3 = x1 then
  ((fX2_window σ 1 x3).bind fun t_6 => (sn_lt (x2 ||| t_6) fun y_8 => (BX8_minutesCovered_42 σ x1 y_8 x3)))
  else
  (BX8_minutesCovered_42 σ x1 x2 x3)))))
def LX8_minutesCovered_4 (σ : sn_S) (x1 : Int32) (s : Int32 × Int32) : Option ((Int32 × Int32) ⊕ (Int32)) := BX8_minutesCovered_4 σ x1 s.1 s.2
def fX8_minutesCovered (σ : sn_S) (x1 : Int32) : Option Int32 :=
  ((sn_it (LX8_minutesCovered_4 σ x1) 5000 ((0 : Int32), (0 : Int32))).bind fun t_1 => (BX8_minutesCovered_48 σ t_1))
theorem wX8_minutesCovered_48 (C : sn_C p s m args meth c RX8 cX8_minutesCovered 4 (some .int) D ct ad layC A) {σ : sn_S} {x2 : Int32}  {o : Int32} (hf : BX8_minutesCovered_48 σ x2 = some o) (kr : sn_Kr p l e rmX8_minutesCovered s m args below meth c Q D ct ad layC A cX8_minutesCovered .ireturn (true) σ [.int o]) : sn_At p l e rmX8_minutesCovered s m args below meth c Q D ct ad layC A 4 σ 48 [(0, .ref (ad 0)), (2, .int x2)] [] := by
  intro H locs ls hw hl
  have hx := C.1
  have hb := C.2.1
  unfold BX8_minutesCovered_48 at hf
  refine lv_iload_n hx hb dX8_minutesCovered_48 rfl (lv_at hl 1 rfl) ?_
  refine lv_aload_n hx hb dX8_minutesCovered_49 rfl (lv_at hl 0 rfl) ?_
  refine sn_getC (r := 1) C hw fd_RX8_10 layC_0 rfl dX8_minutesCovered_50 ?_
  refine sn_getC (r := (1 + 1)) C hw fd_RX8_100 (sn_look sn_isX2_1 (k := 0) rfl) rfl dX8_minutesCovered_53 ?_
  refine lv_iconst (v := 0) hx hb dX8_minutesCovered_56 rfl ?_
  obtain ⟨g_1, hf⟩ := sn_gdE hf
  refine sn_iald C hw (sn_look sn_isX2_1 (k := 1) rfl) g_1 dX8_minutesCovered_57 ?_
  obtain ⟨t_2, h_3, hf⟩ := sn_bd hf
  refine sn_callSi (rest := [.int x2]) C hw (ctX8_firstMinutes l  h_3) kl_RX8_174 rfl rfl rfl (Nat.le_of_ble_eq_true rfl) dX8_minutesCovered_58 hl.1 (fun H locs hw => ?_)
  refine lv_iand hx hb dX8_minutesCovered_61 ?_
  cases hf
  exact kr _ _ _ _ hw rfl dX8_minutesCovered_62
theorem wX8_minutesCovered_42 (C : sn_C p s m args meth c RX8 cX8_minutesCovered 4 (some .int) D ct ad layC A) {σ : sn_S} {x1 : Int32} {x2 : Int32} {x3 : Int32}  {o : (Int32 × Int32) ⊕ (Int32)} (hf : BX8_minutesCovered_42 σ x1 x2 x3 = some o) (kc : ∀ v, o = .inl v → sn_At p l e rmX8_minutesCovered s m args below meth c Q D ct ad layC A 4 σ 4 [(0, .ref (ad 0)), (1, .int x1), (2, .int v.1), (3, .int v.2)] []) (kx : ∀ v, o = .inr v → sn_At p l e rmX8_minutesCovered s m args below meth c Q D ct ad layC A 4 σ 48 [(0, .ref (ad 0)), (2, .int v)] []) : sn_At p l e rmX8_minutesCovered s m args below meth c Q D ct ad layC A 4 σ 42 [(0, .ref (ad 0)), (1, .int x1), (2, .int x2), (3, .int x3)] [] := by
  intro H locs ls hw hl
  have hx := C.1
  have hb := C.2.1
  unfold BX8_minutesCovered_42 at hf
  obtain ⟨y_1, e_2, hf⟩ := sn_ltE hf
  refine lv_iinc (v := y_1) (lv' := [(3, .int y_1), (0, .ref (ad 0)), (1, .int x1), (2, .int x2)]) hx hb dX8_minutesCovered_42 hl (k := 3) rfl (by rw [e_2]; rfl) (by decide) rfl (fun ls hl => ?_)
  refine lv_goto (tgt := 4) hx hb dX8_minutesCovered_45 (by decide) ?_
  cases hf
  exact kc _ rfl _ _ _ hw (lv_sub hl [1, 2, 3, 0] rfl)
theorem wX8_minutesCovered_4 (C : sn_C p s m args meth c RX8 cX8_minutesCovered 4 (some .int) D ct ad layC A) {σ : sn_S} {x1 : Int32} {x2 : Int32} {x3 : Int32}  {o : (Int32 × Int32) ⊕ (Int32)} (hf : BX8_minutesCovered_4 σ x1 x2 x3 = some o) (kc : ∀ v, o = .inl v → sn_At p l e rmX8_minutesCovered s m args below meth c Q D ct ad layC A 4 σ 4 [(0, .ref (ad 0)), (1, .int x1), (2, .int v.1), (3, .int v.2)] []) (kx : ∀ v, o = .inr v → sn_At p l e rmX8_minutesCovered s m args below meth c Q D ct ad layC A 4 σ 48 [(0, .ref (ad 0)), (2, .int v)] []) : sn_At p l e rmX8_minutesCovered s m args below meth c Q D ct ad layC A 4 σ 4 [(0, .ref (ad 0)), (1, .int x1), (2, .int x2), (3, .int x3)] [] := by
  intro H locs ls hw hl
  have hx := C.1
  have hb := C.2.1
  unfold BX8_minutesCovered_4 at hf
  refine lv_iload_n hx hb dX8_minutesCovered_4 rfl (lv_at hl 3 rfl) ?_
  refine lv_aload_n hx hb dX8_minutesCovered_5 rfl (lv_at hl 0 rfl) ?_
  refine sn_getC (r := 1) C hw fd_RX8_10 layC_0 rfl dX8_minutesCovered_6 ?_
  refine sn_getC (r := (1 + 1)) C hw fd_RX8_100 (sn_look sn_isX2_1 (k := 0) rfl) rfl dX8_minutesCovered_9 ?_
  refine lv_bipush (v := 8) hx hb dX8_minutesCovered_12 (by decide) ?_
  obtain ⟨g_1, hf⟩ := sn_gdE hf
  refine sn_iald C hw (sn_look sn_isX2_1 (k := 1) rfl) g_1 dX8_minutesCovered_14 ?_
  refine lv_icmp_ge (tgt := 48) hx hb dX8_minutesCovered_15 (by decide) (fun c_2 => ?_) (fun c_2 => ?_)
  · have hf := sn_if c_2 hf
    cases hf
    exact kx _ rfl _ _ _ hw (lv_sub hl [0, 2] rfl)
  · have hf := sn_el c_2 hf
    refine lv_aload_n hx hb dX8_minutesCovered_18 rfl (lv_at hl 0 rfl) ?_
    refine sn_getC (r := 1) C hw fd_RX8_10 layC_0 rfl dX8_minutesCovered_19 ?_
    refine lv_iload_n hx hb dX8_minutesCovered_22 rfl (lv_at hl 3 rfl) ?_
    refine lv_iconst (v := 0) hx hb dX8_minutesCovered_23 rfl ?_
    obtain ⟨t_3, h_4, hf⟩ := sn_bd hf
    refine sn_callVi (rest := []) C hw (ctX2_ofPolicy l sn_isX2_1 h_4) kl_RX8_117 (sn_look sn_isX2_1 (k := 0) rfl) rfl rfl rfl rfl (Nat.le_of_ble_eq_true rfl) dX8_minutesCovered_24 hl.1 (fun H locs hw => ?_)
    refine lv_iload_n hx hb dX8_minutesCovered_27 rfl (lv_at hl 1 rfl) ?_
    refine lv_icmp_ne (tgt := 42) hx hb dX8_minutesCovered_28 (by decide) (fun c_5 => ?_) (fun c_5 => ?_)
    · have hf := sn_el c_5 hf
      exact wX8_minutesCovered_42 C  hf kc kx _ _ _ hw (lv_sub hl [0, 1, 2, 3] rfl)
    · have hf := sn_if c_5 hf
      refine lv_iload_n hx hb dX8_minutesCovered_31 rfl (lv_at hl 2 rfl) ?_
      refine lv_aload_n hx hb dX8_minutesCovered_32 rfl (lv_at hl 0 rfl) ?_
      refine sn_getC (r := 1) C hw fd_RX8_10 layC_0 rfl dX8_minutesCovered_33 ?_
      refine lv_iload_n hx hb dX8_minutesCovered_36 rfl (lv_at hl 3 rfl) ?_
      obtain ⟨t_6, h_7, hf⟩ := sn_bd hf
      refine sn_callVi (rest := [.int x2]) C hw (ctX2_window l sn_isX2_1 h_7) kl_RX8_180 (sn_look sn_isX2_1 (k := 0) rfl) rfl rfl rfl rfl (Nat.le_of_ble_eq_true rfl) dX8_minutesCovered_37 hl.1 (fun H locs hw => ?_)
      refine lv_ior hx hb dX8_minutesCovered_40 ?_
      obtain ⟨y_8, e_9, hf⟩ := sn_ltE hf
      refine lv_topi (fun y_8_ e_9_ => ?_)
      obtain rfl : y_8 = y_8_ := e_9.trans e_9_.symm
      refine lv_istore_n (lv' := [(2, .int y_8), (0, .ref (ad 0)), (1, .int x1), (3, .int x3)]) hx hb dX8_minutesCovered_41 rfl hl (by decide) rfl (fun ls hl => ?_)
      exact wX8_minutesCovered_42 C  hf kc kx _ _ _ hw (lv_sub hl [1, 2, 0, 3] rfl)
theorem wX8_minutesCovered_L4 (C : sn_C p s m args meth c RX8 cX8_minutesCovered 4 (some .int) D ct ad layC A) {σ : sn_S} {x1 : Int32}   {z : Int32 × Int32} {t : Int32} (h : sn_it (LX8_minutesCovered_4 σ x1) 5000 z = some t) (kx : ∀ v, t = v → sn_At p l e rmX8_minutesCovered s m args below meth c Q D ct ad layC A 4 σ 48 [(0, .ref (ad 0)), (2, .int v)] []) : sn_At p l e rmX8_minutesCovered s m args below meth c Q D ct ad layC A 4 σ 4 [(0, .ref (ad 0)), (1, .int x1), (2, .int z.1), (3, .int z.2)] [] :=
  sn_loop (f := LX8_minutesCovered_4 σ x1) (G := fun z => sn_At p l e rmX8_minutesCovered s m args below meth c Q D ct ad layC A 4 σ 4 [(0, .ref (ad 0)), (1, .int x1), (2, .int z.1), (3, .int z.2)] []) (E := fun t => (∀ v, t = v → sn_At p l e rmX8_minutesCovered s m args below meth c Q D ct ad layC A 4 σ 48 [(0, .ref (ad 0)), (2, .int v)] []) ∧ True) (fun z o hf k1 k2 => wX8_minutesCovered_4 C  hf (fun v e => k1 v e) (fun v e => (k2 _ e).1 v rfl)) 5000 z t h ⟨kx, trivial⟩
theorem wX8_minutesCovered_in (C : sn_C p s m args meth c RX8 cX8_minutesCovered 4 (some .int) D ct ad layC A) {σ : sn_S} {x1 : Int32}  {o : Int32} (hf : fX8_minutesCovered σ x1 = some o) (kr : sn_Kr p l e rmX8_minutesCovered s m args below meth c Q D ct ad layC A cX8_minutesCovered .ireturn (true) σ [.int o]) : sn_At p l e rmX8_minutesCovered s m args below meth c Q D ct ad layC A 4 σ 0 [(0, .ref (ad 0)), (1, .int x1)] [] := by
  intro H locs ls hw hl
  have hx := C.1
  have hb := C.2.1
  unfold fX8_minutesCovered at hf
  refine lv_iconst (v := 0) hx hb dX8_minutesCovered_0 rfl ?_
  refine lv_istore_n (lv' := [(2, .int (0 : Int32)), (0, .ref (ad 0)), (1, .int x1)]) hx hb dX8_minutesCovered_1 rfl hl (by decide) rfl (fun ls hl => ?_)
  refine lv_iconst (v := 0) hx hb dX8_minutesCovered_2 rfl ?_
  refine lv_istore_n (lv' := [(3, .int (0 : Int32)), (2, .int (0 : Int32)), (0, .ref (ad 0)), (1, .int x1)]) hx hb dX8_minutesCovered_3 rfl hl (by decide) rfl (fun ls hl => ?_)
  obtain ⟨t_1, h_2, hf⟩ := sn_bd hf
  exact wX8_minutesCovered_L4 C  h_2 (fun v e => by cases e; exact wX8_minutesCovered_48 C  hf kr) _ _ _ hw (lv_sub hl [2, 3, 1, 0] rfl)
theorem ctX8_minutesCovered (l : Launch) {σ : sn_S} {x1 : Int32}  {o : Int32} (hf : fX8_minutesCovered σ x1 = some o) : sn_M l yX8_minutesCovered cX8_minutesCovered 4 (some .int) rmX8_minutesCovered layC (fun ad => [.ref (ad 0), .int x1]) σ (some (fun _ => .int o)) σ :=
  sn_met (by decide) (fun _ => Nat.le_of_ble_eq_true rfl) (fun p e s m args below meth c ls D ct ad A C hw hl => wX8_minutesCovered_in C  hf (fun H locs ls pc hw ok hd => sn_iret C hw hd) _ _ _ hw hl)
-- X8_covered
abbrev rmX8_covered : Room := { frames := 2, cells := 0, slots := 0, locals := 45 }
def fX8_covered (σ : sn_S) (x1 : Int32) : Option Int32 :=
  ((fX8_isPerson σ x1).bind fun t_1 => (if t_1 = 0 then
  (some (-2 : Int32))
  else
  ((fX8_minutesCovered σ x1).bind fun t_4 => (some t_4))))
theorem wX8_covered_in (C : sn_C p s m args meth c RX8 cX8_covered 2 (some .int) D ct ad layC A) {σ : sn_S} {x1 : Int32}  {o : Int32} (hf : fX8_covered σ x1 = some o) (kr : sn_Kr p l e rmX8_covered s m args below meth c Q D ct ad layC A cX8_covered .ireturn (true) σ [.int o]) : sn_At p l e rmX8_covered s m args below meth c Q D ct ad layC A 2 σ 0 [(0, .ref (ad 0)), (1, .int x1)] [] := by
  intro H locs ls hw hl
  have hx := C.1
  have hb := C.2.1
  unfold fX8_covered at hf
  refine lv_aload_n hx hb dX8_covered_0 rfl (lv_at hl 0 rfl) ?_
  refine lv_iload_n hx hb dX8_covered_1 rfl (lv_at hl 1 rfl) ?_
  obtain ⟨t_1, h_2, hf⟩ := sn_bd hf
  refine sn_callVi (rest := []) C hw (ctX8_isPerson l  h_2) kl_RX8_107 layC_0 rfl rfl rfl rfl (Nat.le_of_ble_eq_true rfl) dX8_covered_2 hl.1 (fun H locs hw => ?_)
  refine lv_if_eq (tgt := 16) hx hb dX8_covered_5 (by decide) (fun c_3 => ?_) (fun c_3 => ?_)
  · have hf := sn_if c_3 hf
    refine lv_bipush (v := (-2)) hx hb dX8_covered_16 (by decide) ?_
    cases hf
    exact kr _ _ _ _ hw rfl dX8_covered_18
  · have hf := sn_el c_3 hf
    refine lv_aload_n hx hb dX8_covered_8 rfl (lv_at hl 0 rfl) ?_
    refine lv_iload_n hx hb dX8_covered_9 rfl (lv_at hl 1 rfl) ?_
    obtain ⟨t_4, h_5, hf⟩ := sn_bd hf
    refine sn_callVi (rest := []) C hw (ctX8_minutesCovered l  h_5) kl_RX8_177 layC_0 rfl rfl rfl rfl (Nat.le_of_ble_eq_true rfl) dX8_covered_10 hl.1 (fun H locs hw => ?_)
    refine lv_goto (tgt := 18) hx hb dX8_covered_13 (by decide) ?_
    cases hf
    exact kr _ _ _ _ hw rfl dX8_covered_18
theorem ctX8_covered (l : Launch) {σ : sn_S} {x1 : Int32}  {o : Int32} (hf : fX8_covered σ x1 = some o) : sn_M l yX8_covered cX8_covered 2 (some .int) rmX8_covered layC (fun ad => [.ref (ad 0), .int x1]) σ (some (fun _ => .int o)) σ :=
  sn_met (by decide) (fun _ => Nat.le_of_ble_eq_true rfl) (fun p e s m args below meth c ls D ct ad A C hw hl => wX8_covered_in C  hf (fun H locs ls pc hw ok hd => sn_iret C hw hd) _ _ _ hw hl)
-- X8_naked
abbrev rmX8_naked : Room := { frames := 2, cells := 0, slots := 0, locals := 45 }
def BX8_naked_57 (σ : sn_S) (x1 : Int32) : Option (Int32) :=
  (some x1)
def BX8_naked_51 (σ : sn_S) (x1 : Int32) (x2 : Int32) : Option ((Int32 × Int32) ⊕ (Int32)) :=
  (sn_lt (x2 + 1) fun y_1 => (some (.inl (x1, y_1))))
def BX8_naked_14 (σ : sn_S) (x1 : Int32) (x2 : Int32) : Option ((Int32 × Int32) ⊕ (Int32)) :=
  (if (sn_I σ 27 1) ≤ x2 then
  (some (.inr (x1)))
  else
  (sn_gd (sn_in x2 6) ((fX8_minutesCovered σ x2).bind fun t_3 => (if ((sn_I σ (27 + 10) x2.toNatClampNeg) &&& (t_3 ^^^ (-1 : Int32))) = 0 then
  (BX8_naked_51 σ x1 x2)
  else
  (sn_lt (x1 ||| ((1 : Int32) <<< (x2 &&& 31))) fun y_6 => (BX8_naked_51 σ y_6 x2))))))
def LX8_naked_14 (σ : sn_S) (s : Int32 × Int32) : Option ((Int32 × Int32) ⊕ (Int32)) := BX8_naked_14 σ s.1 s.2
def fX8_naked (σ : sn_S) : Option Int32 :=
  ((fX8_isHouse σ).bind fun t_1 => (if t_1 = 0 then
  (some (-2 : Int32))
  else
  ((sn_it (LX8_naked_14 σ) 5000 ((0 : Int32), (0 : Int32))).bind fun t_4 => (BX8_naked_57 σ t_4))))
theorem wX8_naked_57 (C : sn_C p s m args meth c RX8 cX8_naked 3 (some .int) D ct ad layC A) {σ : sn_S} {x1 : Int32}  {o : Int32} (hf : BX8_naked_57 σ x1 = some o) (kr : sn_Kr p l e rmX8_naked s m args below meth c Q D ct ad layC A cX8_naked .ireturn (true) σ [.int o]) : sn_At p l e rmX8_naked s m args below meth c Q D ct ad layC A 3 σ 57 [(1, .int x1)] [] := by
  intro H locs ls hw hl
  have hx := C.1
  have hb := C.2.1
  unfold BX8_naked_57 at hf
  refine lv_iload_n hx hb dX8_naked_57 rfl (lv_at hl 0 rfl) ?_
  cases hf
  exact kr _ _ _ _ hw rfl dX8_naked_58
theorem wX8_naked_51 (C : sn_C p s m args meth c RX8 cX8_naked 3 (some .int) D ct ad layC A) {σ : sn_S} {x1 : Int32} {x2 : Int32}  {o : (Int32 × Int32) ⊕ (Int32)} (hf : BX8_naked_51 σ x1 x2 = some o) (kc : ∀ v, o = .inl v → sn_At p l e rmX8_naked s m args below meth c Q D ct ad layC A 3 σ 14 [(0, .ref (ad 0)), (1, .int v.1), (2, .int v.2)] []) (kx : ∀ v, o = .inr v → sn_At p l e rmX8_naked s m args below meth c Q D ct ad layC A 3 σ 57 [(1, .int v)] []) : sn_At p l e rmX8_naked s m args below meth c Q D ct ad layC A 3 σ 51 [(0, .ref (ad 0)), (1, .int x1), (2, .int x2)] [] := by
  intro H locs ls hw hl
  have hx := C.1
  have hb := C.2.1
  unfold BX8_naked_51 at hf
  obtain ⟨y_1, e_2, hf⟩ := sn_ltE hf
  refine lv_iinc (v := y_1) (lv' := [(2, .int y_1), (0, .ref (ad 0)), (1, .int x1)]) hx hb dX8_naked_51 hl (k := 2) rfl (by rw [e_2]; rfl) (by decide) rfl (fun ls hl => ?_)
  refine lv_goto (tgt := 14) hx hb dX8_naked_54 (by decide) ?_
  cases hf
  exact kc _ rfl _ _ _ hw (lv_sub hl [1, 2, 0] rfl)
theorem wX8_naked_14 (C : sn_C p s m args meth c RX8 cX8_naked 3 (some .int) D ct ad layC A) {σ : sn_S} {x1 : Int32} {x2 : Int32}  {o : (Int32 × Int32) ⊕ (Int32)} (hf : BX8_naked_14 σ x1 x2 = some o) (kc : ∀ v, o = .inl v → sn_At p l e rmX8_naked s m args below meth c Q D ct ad layC A 3 σ 14 [(0, .ref (ad 0)), (1, .int v.1), (2, .int v.2)] []) (kx : ∀ v, o = .inr v → sn_At p l e rmX8_naked s m args below meth c Q D ct ad layC A 3 σ 57 [(1, .int v)] []) : sn_At p l e rmX8_naked s m args below meth c Q D ct ad layC A 3 σ 14 [(0, .ref (ad 0)), (1, .int x1), (2, .int x2)] [] := by
  intro H locs ls hw hl
  have hx := C.1
  have hb := C.2.1
  unfold BX8_naked_14 at hf
  refine lv_iload_n hx hb dX8_naked_14 rfl (lv_at hl 2 rfl) ?_
  refine lv_aload_n hx hb dX8_naked_15 rfl (lv_at hl 0 rfl) ?_
  refine sn_getC (r := 27) C hw fd_RX8_44 layC_0 rfl dX8_naked_16 ?_
  refine sn_getI C hw fd_RX8_162 (sn_look sn_isX0_27 (k := 0) rfl) rfl dX8_naked_19 ?_
  refine lv_icmp_ge (tgt := 57) hx hb dX8_naked_22 (by decide) (fun c_1 => ?_) (fun c_1 => ?_)
  · have hf := sn_if c_1 hf
    cases hf
    exact kx _ rfl _ _ _ hw (lv_sub hl [1] rfl)
  · have hf := sn_el c_1 hf
    refine lv_aload_n hx hb dX8_naked_25 rfl (lv_at hl 0 rfl) ?_
    refine sn_getC (r := 27) C hw fd_RX8_44 layC_0 rfl dX8_naked_26 ?_
    refine sn_getC (r := (27 + 10)) C hw fd_RX8_131 (sn_look sn_isX0_27 (k := 0) rfl) rfl dX8_naked_29 ?_
    refine lv_iload_n hx hb dX8_naked_32 rfl (lv_at hl 2 rfl) ?_
    obtain ⟨g_2, hf⟩ := sn_gdE hf
    refine sn_iald C hw (sn_look sn_isX0_27 (k := 10) rfl) g_2 dX8_naked_33 ?_
    refine lv_aload_n hx hb dX8_naked_34 rfl (lv_at hl 0 rfl) ?_
    refine lv_iload_n hx hb dX8_naked_35 rfl (lv_at hl 2 rfl) ?_
    obtain ⟨t_3, h_4, hf⟩ := sn_bd hf
    refine sn_callVi (rest := [.int (sn_I σ (27 + 10) x2.toNatClampNeg)]) C hw (ctX8_minutesCovered l  h_4) kl_RX8_177 layC_0 rfl rfl rfl rfl (Nat.le_of_ble_eq_true rfl) dX8_naked_36 hl.1 (fun H locs hw => ?_)
    refine lv_iconst (v := (-1)) hx hb dX8_naked_39 rfl ?_
    refine lv_ixor hx hb dX8_naked_40 ?_
    refine lv_iand hx hb dX8_naked_41 ?_
    refine lv_if_eq (tgt := 51) hx hb dX8_naked_42 (by decide) (fun c_5 => ?_) (fun c_5 => ?_)
    · have hf := sn_if c_5 hf
      exact wX8_naked_51 C  hf kc kx _ _ _ hw (lv_sub hl [0, 1, 2] rfl)
    · have hf := sn_el c_5 hf
      refine lv_iload_n hx hb dX8_naked_45 rfl (lv_at hl 1 rfl) ?_
      refine lv_iconst (v := 1) hx hb dX8_naked_46 rfl ?_
      refine lv_iload_n hx hb dX8_naked_47 rfl (lv_at hl 2 rfl) ?_
      refine lv_ishl hx hb dX8_naked_48 ?_
      refine lv_ior hx hb dX8_naked_49 ?_
      obtain ⟨y_6, e_7, hf⟩ := sn_ltE hf
      refine lv_topi (fun y_6_ e_7_ => ?_)
      obtain rfl : y_6 = y_6_ := e_7.trans e_7_.symm
      refine lv_istore_n (lv' := [(1, .int y_6), (0, .ref (ad 0)), (2, .int x2)]) hx hb dX8_naked_50 rfl hl (by decide) rfl (fun ls hl => ?_)
      exact wX8_naked_51 C  hf kc kx _ _ _ hw (lv_sub hl [1, 0, 2] rfl)
theorem wX8_naked_L14 (C : sn_C p s m args meth c RX8 cX8_naked 3 (some .int) D ct ad layC A) {σ : sn_S}   {z : Int32 × Int32} {t : Int32} (h : sn_it (LX8_naked_14 σ) 5000 z = some t) (kx : ∀ v, t = v → sn_At p l e rmX8_naked s m args below meth c Q D ct ad layC A 3 σ 57 [(1, .int v)] []) : sn_At p l e rmX8_naked s m args below meth c Q D ct ad layC A 3 σ 14 [(0, .ref (ad 0)), (1, .int z.1), (2, .int z.2)] [] :=
  sn_loop (f := LX8_naked_14 σ) (G := fun z => sn_At p l e rmX8_naked s m args below meth c Q D ct ad layC A 3 σ 14 [(0, .ref (ad 0)), (1, .int z.1), (2, .int z.2)] []) (E := fun t => (∀ v, t = v → sn_At p l e rmX8_naked s m args below meth c Q D ct ad layC A 3 σ 57 [(1, .int v)] []) ∧ True) (fun z o hf k1 k2 => wX8_naked_14 C  hf (fun v e => k1 v e) (fun v e => (k2 _ e).1 v rfl)) 5000 z t h ⟨kx, trivial⟩
theorem wX8_naked_in (C : sn_C p s m args meth c RX8 cX8_naked 3 (some .int) D ct ad layC A) {σ : sn_S}  {o : Int32} (hf : fX8_naked σ = some o) (kr : sn_Kr p l e rmX8_naked s m args below meth c Q D ct ad layC A cX8_naked .ireturn (true) σ [.int o]) : sn_At p l e rmX8_naked s m args below meth c Q D ct ad layC A 3 σ 0 [(0, .ref (ad 0))] [] := by
  intro H locs ls hw hl
  have hx := C.1
  have hb := C.2.1
  unfold fX8_naked at hf
  refine lv_aload_n hx hb dX8_naked_0 rfl (lv_at hl 0 rfl) ?_
  obtain ⟨t_1, h_2, hf⟩ := sn_bd hf
  refine sn_callVi (rest := []) C hw (ctX8_isHouse l  h_2) kl_RX8_137 layC_0 rfl rfl rfl rfl (Nat.le_of_ble_eq_true rfl) dX8_naked_1 hl.1 (fun H locs hw => ?_)
  refine lv_if_ne (tgt := 10) hx hb dX8_naked_4 (by decide) (fun c_3 => ?_) (fun c_3 => ?_)
  · have hf := sn_el c_3 hf
    refine lv_iconst (v := 0) hx hb dX8_naked_10 rfl ?_
    refine lv_istore_n (lv' := [(1, .int (0 : Int32)), (0, .ref (ad 0))]) hx hb dX8_naked_11 rfl hl (by decide) rfl (fun ls hl => ?_)
    refine lv_iconst (v := 0) hx hb dX8_naked_12 rfl ?_
    refine lv_istore_n (lv' := [(2, .int (0 : Int32)), (1, .int (0 : Int32)), (0, .ref (ad 0))]) hx hb dX8_naked_13 rfl hl (by decide) rfl (fun ls hl => ?_)
    obtain ⟨t_4, h_5, hf⟩ := sn_bd hf
    exact wX8_naked_L14 C  h_5 (fun v e => by cases e; exact wX8_naked_57 C  hf kr) _ _ _ hw (lv_sub hl [2, 1, 0] rfl)
  · have hf := sn_if c_3 hf
    refine lv_bipush (v := (-2)) hx hb dX8_naked_7 (by decide) ?_
    cases hf
    exact kr _ _ _ _ hw rfl dX8_naked_9
theorem ctX8_naked (l : Launch) {σ : sn_S}  {o : Int32} (hf : fX8_naked σ = some o) : sn_M l yX8_naked cX8_naked 3 (some .int) rmX8_naked layC (fun ad => [.ref (ad 0)]) σ (some (fun _ => .int o)) σ :=
  sn_met (by decide) (fun _ => Nat.le_of_ble_eq_true rfl) (fun p e s m args below meth c ls D ct ad A C hw hl => wX8_naked_in C  hf (fun H locs ls pc hw ok hd => sn_iret C hw hd) _ _ _ hw hl)
-- X8_covers
abbrev rmX8_covers : Room := { frames := 1, cells := 0, slots := 0, locals := 22 }
def BX8_covers_56 (σ : sn_S) (x2 : Int32) : Option (Int32) :=
  (some x2)
def BX8_covers_50 (σ : sn_S) (x1 : Int32) (x2 : Int32) (x3 : Int32) : Option ((Int32 × Int32) ⊕ (Int32)) :=
  (sn_lt (x3 + 1) fun y_1 => (some (.inl (x2, y_1))))
def BX8_covers_15 (σ : sn_S) (x1 : Int32) (x2 : Int32) (x3 : Int32) : Option ((Int32 × Int32) ⊕ (Int32)) :=
  (sn_gd (sn_in (8 : Int32) 11) (if (sn_I σ (1 + 1) (8 : Int32).toNatClampNeg) ≤ x3 then
  (some (.inr (x2)))
  else
  ((fX2_window σ 1 x3).bind fun t_3 => ((fX8_hasBit t_3 x1).bind fun t_5 => (if t_5 = 0 then
  (BX8_covers_50 σ x1 x2 x3)
  else
  (sn_lt (x2 ||| ((1 : Int32) <<< (x3 &&& 31))) fun y_8 => (BX8_covers_50 σ x1 y_8 x3)))))))
def LX8_covers_15 (σ : sn_S) (x1 : Int32) (s : Int32 × Int32) : Option ((Int32 × Int32) ⊕ (Int32)) := BX8_covers_15 σ x1 s.1 s.2
def fX8_covers (σ : sn_S) (x1 : Int32) : Option Int32 :=
  ((fX8_isMinute σ x1).bind fun t_1 => (if t_1 = 0 then
  (some (-2 : Int32))
  else
  ((sn_it (LX8_covers_15 σ x1) 5000 ((0 : Int32), (0 : Int32))).bind fun t_4 => (BX8_covers_56 σ t_4))))
theorem wX8_covers_56 (C : sn_C p s m args meth c RX8 cX8_covers 4 (some .int) D ct ad layC A) {σ : sn_S} {x2 : Int32}  {o : Int32} (hf : BX8_covers_56 σ x2 = some o) (kr : sn_Kr p l e rmX8_covers s m args below meth c Q D ct ad layC A cX8_covers .ireturn (true) σ [.int o]) : sn_At p l e rmX8_covers s m args below meth c Q D ct ad layC A 4 σ 56 [(2, .int x2)] [] := by
  intro H locs ls hw hl
  have hx := C.1
  have hb := C.2.1
  unfold BX8_covers_56 at hf
  refine lv_iload_n hx hb dX8_covers_56 rfl (lv_at hl 0 rfl) ?_
  cases hf
  exact kr _ _ _ _ hw rfl dX8_covers_57
theorem wX8_covers_50 (C : sn_C p s m args meth c RX8 cX8_covers 4 (some .int) D ct ad layC A) {σ : sn_S} {x1 : Int32} {x2 : Int32} {x3 : Int32}  {o : (Int32 × Int32) ⊕ (Int32)} (hf : BX8_covers_50 σ x1 x2 x3 = some o) (kc : ∀ v, o = .inl v → sn_At p l e rmX8_covers s m args below meth c Q D ct ad layC A 4 σ 15 [(0, .ref (ad 0)), (1, .int x1), (2, .int v.1), (3, .int v.2)] []) (kx : ∀ v, o = .inr v → sn_At p l e rmX8_covers s m args below meth c Q D ct ad layC A 4 σ 56 [(2, .int v)] []) : sn_At p l e rmX8_covers s m args below meth c Q D ct ad layC A 4 σ 50 [(0, .ref (ad 0)), (1, .int x1), (2, .int x2), (3, .int x3)] [] := by
  intro H locs ls hw hl
  have hx := C.1
  have hb := C.2.1
  unfold BX8_covers_50 at hf
  obtain ⟨y_1, e_2, hf⟩ := sn_ltE hf
  refine lv_iinc (v := y_1) (lv' := [(3, .int y_1), (0, .ref (ad 0)), (1, .int x1), (2, .int x2)]) hx hb dX8_covers_50 hl (k := 3) rfl (by rw [e_2]; rfl) (by decide) rfl (fun ls hl => ?_)
  refine lv_goto (tgt := 15) hx hb dX8_covers_53 (by decide) ?_
  cases hf
  exact kc _ rfl _ _ _ hw (lv_sub hl [1, 2, 3, 0] rfl)
theorem wX8_covers_15 (C : sn_C p s m args meth c RX8 cX8_covers 4 (some .int) D ct ad layC A) {σ : sn_S} {x1 : Int32} {x2 : Int32} {x3 : Int32}  {o : (Int32 × Int32) ⊕ (Int32)} (hf : BX8_covers_15 σ x1 x2 x3 = some o) (kc : ∀ v, o = .inl v → sn_At p l e rmX8_covers s m args below meth c Q D ct ad layC A 4 σ 15 [(0, .ref (ad 0)), (1, .int x1), (2, .int v.1), (3, .int v.2)] []) (kx : ∀ v, o = .inr v → sn_At p l e rmX8_covers s m args below meth c Q D ct ad layC A 4 σ 56 [(2, .int v)] []) : sn_At p l e rmX8_covers s m args below meth c Q D ct ad layC A 4 σ 15 [(0, .ref (ad 0)), (1, .int x1), (2, .int x2), (3, .int x3)] [] := by
  intro H locs ls hw hl
  have hx := C.1
  have hb := C.2.1
  unfold BX8_covers_15 at hf
  refine lv_iload_n hx hb dX8_covers_15 rfl (lv_at hl 3 rfl) ?_
  refine lv_aload_n hx hb dX8_covers_16 rfl (lv_at hl 0 rfl) ?_
  refine sn_getC (r := 1) C hw fd_RX8_10 layC_0 rfl dX8_covers_17 ?_
  refine sn_getC (r := (1 + 1)) C hw fd_RX8_100 (sn_look sn_isX2_1 (k := 0) rfl) rfl dX8_covers_20 ?_
  refine lv_bipush (v := 8) hx hb dX8_covers_23 (by decide) ?_
  obtain ⟨g_1, hf⟩ := sn_gdE hf
  refine sn_iald C hw (sn_look sn_isX2_1 (k := 1) rfl) g_1 dX8_covers_25 ?_
  refine lv_icmp_ge (tgt := 56) hx hb dX8_covers_26 (by decide) (fun c_2 => ?_) (fun c_2 => ?_)
  · have hf := sn_if c_2 hf
    cases hf
    exact kx _ rfl _ _ _ hw (lv_sub hl [2] rfl)
  · have hf := sn_el c_2 hf
    refine lv_aload_n hx hb dX8_covers_29 rfl (lv_at hl 0 rfl) ?_
    refine sn_getC (r := 1) C hw fd_RX8_10 layC_0 rfl dX8_covers_30 ?_
    refine lv_iload_n hx hb dX8_covers_33 rfl (lv_at hl 3 rfl) ?_
    obtain ⟨t_3, h_4, hf⟩ := sn_bd hf
    refine sn_callVi (rest := []) C hw (ctX2_window l sn_isX2_1 h_4) kl_RX8_180 (sn_look sn_isX2_1 (k := 0) rfl) rfl rfl rfl rfl (Nat.le_of_ble_eq_true rfl) dX8_covers_34 hl.1 (fun H locs hw => ?_)
    refine lv_iload_n hx hb dX8_covers_37 rfl (lv_at hl 1 rfl) ?_
    obtain ⟨t_5, h_6, hf⟩ := sn_bd hf
    refine sn_callSi (rest := []) C hw (ctX8_hasBit l  h_6) kl_RX8_170 rfl rfl rfl (Nat.le_of_ble_eq_true rfl) dX8_covers_38 hl.1 (fun H locs hw => ?_)
    refine lv_if_eq (tgt := 50) hx hb dX8_covers_41 (by decide) (fun c_7 => ?_) (fun c_7 => ?_)
    · have hf := sn_if c_7 hf
      exact wX8_covers_50 C  hf kc kx _ _ _ hw (lv_sub hl [0, 1, 2, 3] rfl)
    · have hf := sn_el c_7 hf
      refine lv_iload_n hx hb dX8_covers_44 rfl (lv_at hl 2 rfl) ?_
      refine lv_iconst (v := 1) hx hb dX8_covers_45 rfl ?_
      refine lv_iload_n hx hb dX8_covers_46 rfl (lv_at hl 3 rfl) ?_
      refine lv_ishl hx hb dX8_covers_47 ?_
      refine lv_ior hx hb dX8_covers_48 ?_
      obtain ⟨y_8, e_9, hf⟩ := sn_ltE hf
      refine lv_topi (fun y_8_ e_9_ => ?_)
      obtain rfl : y_8 = y_8_ := e_9.trans e_9_.symm
      refine lv_istore_n (lv' := [(2, .int y_8), (0, .ref (ad 0)), (1, .int x1), (3, .int x3)]) hx hb dX8_covers_49 rfl hl (by decide) rfl (fun ls hl => ?_)
      exact wX8_covers_50 C  hf kc kx _ _ _ hw (lv_sub hl [1, 2, 0, 3] rfl)
theorem wX8_covers_L15 (C : sn_C p s m args meth c RX8 cX8_covers 4 (some .int) D ct ad layC A) {σ : sn_S} {x1 : Int32}   {z : Int32 × Int32} {t : Int32} (h : sn_it (LX8_covers_15 σ x1) 5000 z = some t) (kx : ∀ v, t = v → sn_At p l e rmX8_covers s m args below meth c Q D ct ad layC A 4 σ 56 [(2, .int v)] []) : sn_At p l e rmX8_covers s m args below meth c Q D ct ad layC A 4 σ 15 [(0, .ref (ad 0)), (1, .int x1), (2, .int z.1), (3, .int z.2)] [] :=
  sn_loop (f := LX8_covers_15 σ x1) (G := fun z => sn_At p l e rmX8_covers s m args below meth c Q D ct ad layC A 4 σ 15 [(0, .ref (ad 0)), (1, .int x1), (2, .int z.1), (3, .int z.2)] []) (E := fun t => (∀ v, t = v → sn_At p l e rmX8_covers s m args below meth c Q D ct ad layC A 4 σ 56 [(2, .int v)] []) ∧ True) (fun z o hf k1 k2 => wX8_covers_15 C  hf (fun v e => k1 v e) (fun v e => (k2 _ e).1 v rfl)) 5000 z t h ⟨kx, trivial⟩
theorem wX8_covers_in (C : sn_C p s m args meth c RX8 cX8_covers 4 (some .int) D ct ad layC A) {σ : sn_S} {x1 : Int32}  {o : Int32} (hf : fX8_covers σ x1 = some o) (kr : sn_Kr p l e rmX8_covers s m args below meth c Q D ct ad layC A cX8_covers .ireturn (true) σ [.int o]) : sn_At p l e rmX8_covers s m args below meth c Q D ct ad layC A 4 σ 0 [(0, .ref (ad 0)), (1, .int x1)] [] := by
  intro H locs ls hw hl
  have hx := C.1
  have hb := C.2.1
  unfold fX8_covers at hf
  refine lv_aload_n hx hb dX8_covers_0 rfl (lv_at hl 0 rfl) ?_
  refine lv_iload_n hx hb dX8_covers_1 rfl (lv_at hl 1 rfl) ?_
  obtain ⟨t_1, h_2, hf⟩ := sn_bd hf
  refine sn_callVi (rest := []) C hw (ctX8_isMinute l  h_2) kl_RX8_125 layC_0 rfl rfl rfl rfl (Nat.le_of_ble_eq_true rfl) dX8_covers_2 hl.1 (fun H locs hw => ?_)
  refine lv_if_ne (tgt := 11) hx hb dX8_covers_5 (by decide) (fun c_3 => ?_) (fun c_3 => ?_)
  · have hf := sn_el c_3 hf
    refine lv_iconst (v := 0) hx hb dX8_covers_11 rfl ?_
    refine lv_istore_n (lv' := [(2, .int (0 : Int32)), (0, .ref (ad 0)), (1, .int x1)]) hx hb dX8_covers_12 rfl hl (by decide) rfl (fun ls hl => ?_)
    refine lv_iconst (v := 0) hx hb dX8_covers_13 rfl ?_
    refine lv_istore_n (lv' := [(3, .int (0 : Int32)), (2, .int (0 : Int32)), (0, .ref (ad 0)), (1, .int x1)]) hx hb dX8_covers_14 rfl hl (by decide) rfl (fun ls hl => ?_)
    obtain ⟨t_4, h_5, hf⟩ := sn_bd hf
    exact wX8_covers_L15 C  h_5 (fun v e => by cases e; exact wX8_covers_56 C  hf kr) _ _ _ hw (lv_sub hl [2, 3, 1, 0] rfl)
  · have hf := sn_if c_3 hf
    refine lv_bipush (v := (-2)) hx hb dX8_covers_8 (by decide) ?_
    cases hf
    exact kr _ _ _ _ hw rfl dX8_covers_10
theorem ctX8_covers (l : Launch) {σ : sn_S} {x1 : Int32}  {o : Int32} (hf : fX8_covers σ x1 = some o) : sn_M l yX8_covers cX8_covers 4 (some .int) rmX8_covers layC (fun ad => [.ref (ad 0), .int x1]) σ (some (fun _ => .int o)) σ :=
  sn_met (by decide) (fun _ => Nat.le_of_ble_eq_true rfl) (fun p e s m args below meth c ls D ct ad A C hw hl => wX8_covers_in C  hf (fun H locs ls pc hw ok hd => sn_iret C hw hd) _ _ _ hw hl)
-- X8_dull
abbrev rmX8_dull : Room := { frames := 5, cells := 0, slots := 0, locals := 113 }
def BX8_dull_66 (σ : sn_S) : Option ((Int32 × sn_S)) :=
  (some ((-1 : Int32), σ))
def BX8_dull_25 (σ : sn_S) (x1 : Int32) (x2 : Int32) : Option ((sn_S × Int32) ⊕ ((sn_S) ⊕ (Int32 × sn_S))) :=
  (if x2 < 0 then
  (some (.inr (.inl (σ))))
  else
  (sn_gd (sn_in x1 6) (sn_lt (sn_pI σ (38 + 2) x1.toNatClampNeg x2) fun σ_3 => ((fX0_liveWhole σ_3 38).bind fun t_5 => (sn_gd (sn_in x1 6) (if (sn_I t_5 (38 + 10) x1.toNatClampNeg) = 0 then
  (some (.inr (.inr (x2, t_5))))
  else
  (sn_lt (x2 + (-1)) fun y_9 => (some (.inl (t_5, y_9))))))))))
def LX8_dull_25 (x1 : Int32) (s : sn_S × Int32) : Option ((sn_S × Int32) ⊕ ((sn_S) ⊕ (Int32 × sn_S))) := BX8_dull_25 s.1 x1 s.2
def fX8_dull (σ : sn_S) (x1 : Int32) : Option (Int32 × sn_S) :=
  ((fX8_isPerson σ x1).bind fun t_1 => (if t_1 = 0 then
  (some ((-2 : Int32), σ))
  else
  ((fX0_copyFrom σ 38 27).bind fun t_4 => ((sn_it (LX8_dull_25 x1) 5000 (t_4, (9 : Int32))).bind fun t_6 => Sum.elim (fun v_8 => (BX8_dull_66 v_8)) (fun r_9 => (some r_9)) t_6))))
theorem wX8_dull_66 (C : sn_C p s m args meth c RX8 cX8_dull 3 (some .int) D ct ad layC A) {σ : sn_S}  {o : (Int32 × sn_S)} (hf : BX8_dull_66 σ = some o) (kr : sn_Kr p l e rmX8_dull s m args below meth c Q D ct ad layC A cX8_dull .ireturn (true) o.2 [.int o.1]) : sn_At p l e rmX8_dull s m args below meth c Q D ct ad layC A 3 σ 66 [] [] := by
  intro H locs ls hw hl
  have hx := C.1
  have hb := C.2.1
  unfold BX8_dull_66 at hf
  refine lv_iconst (v := (-1)) hx hb dX8_dull_66 rfl ?_
  cases hf
  exact kr _ _ _ _ hw rfl dX8_dull_67
theorem wX8_dull_25 (C : sn_C p s m args meth c RX8 cX8_dull 3 (some .int) D ct ad layC A) {σ : sn_S} {x1 : Int32} {x2 : Int32}  {o : (sn_S × Int32) ⊕ ((sn_S) ⊕ (Int32 × sn_S))} (hf : BX8_dull_25 σ x1 x2 = some o) (kc : ∀ v, o = .inl v → sn_At p l e rmX8_dull s m args below meth c Q D ct ad layC A 3 v.1 25 [(0, .ref (ad 0)), (1, .int x1), (2, .int v.2)] []) (kx : ∀ v, o = .inr (.inl v) → sn_At p l e rmX8_dull s m args below meth c Q D ct ad layC A 3 v 66 [] []) (kr : ∀ r, o = .inr (.inr r) → sn_Kr p l e rmX8_dull s m args below meth c Q D ct ad layC A cX8_dull .ireturn (true) r.2 [.int r.1]) : sn_At p l e rmX8_dull s m args below meth c Q D ct ad layC A 3 σ 25 [(0, .ref (ad 0)), (1, .int x1), (2, .int x2)] [] := by
  intro H locs ls hw hl
  have hx := C.1
  have hb := C.2.1
  unfold BX8_dull_25 at hf
  refine lv_iload_n hx hb dX8_dull_25 rfl (lv_at hl 2 rfl) ?_
  refine lv_if_lt (tgt := 66) hx hb dX8_dull_26 (by decide) (fun c_1 => ?_) (fun c_1 => ?_)
  · have hf := sn_if c_1 hf
    cases hf
    exact kx _ rfl _ _ _ hw (lv_sub hl [] rfl)
  · have hf := sn_el c_1 hf
    refine lv_aload_n hx hb dX8_dull_29 rfl (lv_at hl 0 rfl) ?_
    refine sn_getC (r := 38) C hw fd_RX8_48 layC_0 rfl dX8_dull_30 ?_
    refine sn_getC (r := (38 + 2)) C hw fd_RX8_186 (sn_look sn_isX0_38 (k := 0) rfl) rfl dX8_dull_33 ?_
    refine lv_iload_n hx hb dX8_dull_36 rfl (lv_at hl 1 rfl) ?_
    refine lv_iload_n hx hb dX8_dull_37 rfl (lv_at hl 2 rfl) ?_
    obtain ⟨g_2, hf⟩ := sn_gdE hf
    refine sn_iast C hw (sn_look sn_isX0_38 (k := 2) rfl) g_2 dX8_dull_38 (fun H locs hw => ?_)
    obtain ⟨σ_3, e_4, hf⟩ := sn_ltE hf
    rw [← e_4] at hw
    refine lv_aload_n hx hb dX8_dull_39 rfl (lv_at hl 0 rfl) ?_
    refine sn_getC (r := 38) C hw fd_RX8_48 layC_0 rfl dX8_dull_40 ?_
    obtain ⟨t_5, h_6, hf⟩ := sn_bd hf
    refine sn_callVv (rest := []) C hw (ctX0_liveWhole l sn_isX0_38 h_6) kl_RX8_189 (sn_look sn_isX0_38 (k := 0) rfl) rfl rfl rfl rfl (Nat.le_of_ble_eq_true rfl) dX8_dull_43 hl.1 (fun H locs hw => ?_)
    refine lv_aload_n hx hb dX8_dull_46 rfl (lv_at hl 0 rfl) ?_
    refine sn_getC (r := 38) C hw fd_RX8_48 layC_0 rfl dX8_dull_47 ?_
    refine sn_getC (r := (38 + 10)) C hw fd_RX8_131 (sn_look sn_isX0_38 (k := 0) rfl) rfl dX8_dull_50 ?_
    refine lv_iload_n hx hb dX8_dull_53 rfl (lv_at hl 1 rfl) ?_
    obtain ⟨g_7, hf⟩ := sn_gdE hf
    refine sn_iald C hw (sn_look sn_isX0_38 (k := 10) rfl) g_7 dX8_dull_54 ?_
    refine lv_if_ne (tgt := 60) hx hb dX8_dull_55 (by decide) (fun c_8 => ?_) (fun c_8 => ?_)
    · have hf := sn_el c_8 hf
      obtain ⟨y_9, e_10, hf⟩ := sn_ltE hf
      refine lv_iinc (v := y_9) (lv' := [(2, .int y_9), (0, .ref (ad 0)), (1, .int x1)]) hx hb dX8_dull_60 hl (k := 2) rfl (by rw [e_10]; rfl) (by decide) rfl (fun ls hl => ?_)
      refine lv_goto (tgt := 25) hx hb dX8_dull_63 (by decide) ?_
      cases hf
      exact kc _ rfl _ _ _ hw (lv_sub hl [1, 2, 0] rfl)
    · have hf := sn_if c_8 hf
      refine lv_iload_n hx hb dX8_dull_58 rfl (lv_at hl 2 rfl) ?_
      cases hf
      exact kr _ rfl _ _ _ _ hw rfl dX8_dull_59
theorem wX8_dull_L25 (C : sn_C p s m args meth c RX8 cX8_dull 3 (some .int) D ct ad layC A) {x1 : Int32}   {z : sn_S × Int32} {t : (sn_S) ⊕ (Int32 × sn_S)} (h : sn_it (LX8_dull_25 x1) 5000 z = some t) (kx : ∀ v, t = .inl v → sn_At p l e rmX8_dull s m args below meth c Q D ct ad layC A 3 v 66 [] []) (kr : ∀ r, t = .inr r → sn_Kr p l e rmX8_dull s m args below meth c Q D ct ad layC A cX8_dull .ireturn (true) r.2 [.int r.1]) : sn_At p l e rmX8_dull s m args below meth c Q D ct ad layC A 3 z.1 25 [(0, .ref (ad 0)), (1, .int x1), (2, .int z.2)] [] :=
  sn_loop (f := LX8_dull_25 x1) (G := fun z => sn_At p l e rmX8_dull s m args below meth c Q D ct ad layC A 3 z.1 25 [(0, .ref (ad 0)), (1, .int x1), (2, .int z.2)] []) (E := fun t => (∀ v, t = .inl v → sn_At p l e rmX8_dull s m args below meth c Q D ct ad layC A 3 v 66 [] []) ∧ (∀ r, t = .inr r → sn_Kr p l e rmX8_dull s m args below meth c Q D ct ad layC A cX8_dull .ireturn (true) r.2 [.int r.1])) (fun z o hf k1 k2 => wX8_dull_25 C  hf (fun v e => k1 v e) (fun v e => (k2 _ e).1 v rfl) (fun r e => (k2 _ e).2 r rfl)) 5000 z t h ⟨kx, kr⟩
theorem wX8_dull_in (C : sn_C p s m args meth c RX8 cX8_dull 3 (some .int) D ct ad layC A) {σ : sn_S} {x1 : Int32}  {o : (Int32 × sn_S)} (hf : fX8_dull σ x1 = some o) (kr : sn_Kr p l e rmX8_dull s m args below meth c Q D ct ad layC A cX8_dull .ireturn (true) o.2 [.int o.1]) : sn_At p l e rmX8_dull s m args below meth c Q D ct ad layC A 3 σ 0 [(0, .ref (ad 0)), (1, .int x1)] [] := by
  intro H locs ls hw hl
  have hx := C.1
  have hb := C.2.1
  unfold fX8_dull at hf
  refine lv_aload_n hx hb dX8_dull_0 rfl (lv_at hl 0 rfl) ?_
  refine lv_iload_n hx hb dX8_dull_1 rfl (lv_at hl 1 rfl) ?_
  obtain ⟨t_1, h_2, hf⟩ := sn_bd hf
  refine sn_callVi (rest := []) C hw (ctX8_isPerson l  h_2) kl_RX8_107 layC_0 rfl rfl rfl rfl (Nat.le_of_ble_eq_true rfl) dX8_dull_2 hl.1 (fun H locs hw => ?_)
  refine lv_if_ne (tgt := 11) hx hb dX8_dull_5 (by decide) (fun c_3 => ?_) (fun c_3 => ?_)
  · have hf := sn_el c_3 hf
    refine lv_aload_n hx hb dX8_dull_11 rfl (lv_at hl 0 rfl) ?_
    refine sn_getC (r := 38) C hw fd_RX8_48 layC_0 rfl dX8_dull_12 ?_
    refine lv_aload_n hx hb dX8_dull_15 rfl (lv_at hl 0 rfl) ?_
    refine sn_getC (r := 27) C hw fd_RX8_44 layC_0 rfl dX8_dull_16 ?_
    obtain ⟨t_4, h_5, hf⟩ := sn_bd hf
    refine sn_callVv (rest := []) C hw (ctX0_copyFrom l sn_isX0_38 sn_isX0_27 h_5) kl_RX8_183 (sn_look sn_isX0_38 (k := 0) rfl) rfl rfl rfl rfl (Nat.le_of_ble_eq_true rfl) dX8_dull_19 hl.1 (fun H locs hw => ?_)
    refine lv_bipush (v := 9) hx hb dX8_dull_22 (by decide) ?_
    refine lv_istore_n (lv' := [(2, .int (9 : Int32)), (0, .ref (ad 0)), (1, .int x1)]) hx hb dX8_dull_24 rfl hl (by decide) rfl (fun ls hl => ?_)
    obtain ⟨t_6, h_7, hf⟩ := sn_bd hf
    rcases t_6 with v_8 | r_9
    · rw [Sum.elim_inl] at hf
      exact wX8_dull_L25 C  h_7 (fun v e => by cases e; exact wX8_dull_66 C  hf kr) (fun r e => by cases e) _ _ _ hw (lv_sub hl [1, 2, 0] rfl)
    · rw [Sum.elim_inr] at hf
      cases hf
      exact wX8_dull_L25 C  h_7 (fun v e => by cases e) (fun r e => by cases e; exact kr) _ _ _ hw (lv_sub hl [1, 2, 0] rfl)
  · have hf := sn_if c_3 hf
    refine lv_bipush (v := (-2)) hx hb dX8_dull_8 (by decide) ?_
    cases hf
    exact kr _ _ _ _ hw rfl dX8_dull_10
theorem ctX8_dull (l : Launch) {σ : sn_S} {x1 : Int32}  {o : (Int32 × sn_S)} (hf : fX8_dull σ x1 = some o) : sn_M l yX8_dull cX8_dull 3 (some .int) rmX8_dull layC (fun ad => [.ref (ad 0), .int x1]) σ (some (fun _ => .int o.1)) o.2 :=
  sn_met (by decide) (fun _ => Nat.le_of_ble_eq_true rfl) (fun p e s m args below meth c ls D ct ad A C hw hl => wX8_dull_in C  hf (fun H locs ls pc hw ok hd => sn_iret C hw hd) _ _ _ hw hl)
-- X8_bears
abbrev rmX8_bears : Room := { frames := 5, cells := 0, slots := 0, locals := 113 }
def BX8_bears_93 (σ : sn_S) (x2 : Int32) : Option ((Int32 × sn_S)) :=
  (if x2 ≤ (99 : Int32) then
  (some (x2, σ))
  else
  (some ((-1 : Int32), σ)))
def BX8_bears_87 (σ : sn_S) (x1 : Int32) (x2 : Int32) (x3 : Int32) : Option ((Int32 × Int32) ⊕ (Int32)) :=
  (sn_lt (x3 + 1) fun y_1 => (some (.inl (x2, y_1))))
def BX8_bears_44 (σ : sn_S) (x1 : Int32) (x2 : Int32) (x3 : Int32) : Option ((Int32 × Int32) ⊕ (Int32)) :=
  (if (sn_I σ 38 0) ≤ x3 then
  (some (.inr (x2)))
  else
  (sn_gd (sn_in x1 6) ((fX8_hasBit (sn_I σ (38 + 4) x1.toNatClampNeg) x3).bind fun t_3 => (if t_3 = 0 then
  ((fX0_tickleAt σ 38 x1 x3).bind fun t_6 => (sn_lt (if x2 < (t_6 + (1 : Int32)) then (t_6 + (1 : Int32)) else x2) fun y_8 => (BX8_bears_87 σ x1 y_8 x3)))
  else
  (BX8_bears_87 σ x1 x2 x3)))))
def LX8_bears_44 (σ : sn_S) (x1 : Int32) (s : Int32 × Int32) : Option ((Int32 × Int32) ⊕ (Int32)) := BX8_bears_44 σ x1 s.1 s.2
def fX8_bears (σ : sn_S) (x1 : Int32) : Option (Int32 × sn_S) :=
  ((fX8_isPerson σ x1).bind fun t_1 => (if t_1 = 0 then
  (some ((-2 : Int32), σ))
  else
  ((fX0_copyFrom σ 38 27).bind fun t_4 => (sn_gd (sn_in x1 6) (sn_lt (sn_pI t_4 (38 + 3) x1.toNatClampNeg (1000000 : Int32)) fun σ_7 => ((fX0_liveWhole σ_7 38).bind fun t_9 => ((sn_it (LX8_bears_44 t_9 x1) 5000 ((1 : Int32), (0 : Int32))).bind fun t_11 => (BX8_bears_93 t_9 t_11))))))))
theorem wX8_bears_93 (C : sn_C p s m args meth c RX8 cX8_bears 4 (some .int) D ct ad layC A) {σ : sn_S} {x2 : Int32}  {o : (Int32 × sn_S)} (hf : BX8_bears_93 σ x2 = some o) (kr : sn_Kr p l e rmX8_bears s m args below meth c Q D ct ad layC A cX8_bears .ireturn (true) o.2 [.int o.1]) : sn_At p l e rmX8_bears s m args below meth c Q D ct ad layC A 4 σ 93 [(2, .int x2)] [] := by
  intro H locs ls hw hl
  have hx := C.1
  have hb := C.2.1
  unfold BX8_bears_93 at hf
  refine lv_iload_n hx hb dX8_bears_93 rfl (lv_at hl 0 rfl) ?_
  refine lv_bipush (v := 99) hx hb dX8_bears_94 (by decide) ?_
  refine lv_icmp_le (tgt := 103) hx hb dX8_bears_96 (by decide) (fun c_1 => ?_) (fun c_1 => ?_)
  · have hf := sn_if c_1 hf
    refine lv_iload_n hx hb dX8_bears_103 rfl (lv_at hl 0 rfl) ?_
    cases hf
    exact kr _ _ _ _ hw rfl dX8_bears_104
  · have hf := sn_el c_1 hf
    refine lv_iconst (v := (-1)) hx hb dX8_bears_99 rfl ?_
    refine lv_goto (tgt := 104) hx hb dX8_bears_100 (by decide) ?_
    cases hf
    exact kr _ _ _ _ hw rfl dX8_bears_104
theorem wX8_bears_87 (C : sn_C p s m args meth c RX8 cX8_bears 4 (some .int) D ct ad layC A) {σ : sn_S} {x1 : Int32} {x2 : Int32} {x3 : Int32}  {o : (Int32 × Int32) ⊕ (Int32)} (hf : BX8_bears_87 σ x1 x2 x3 = some o) (kc : ∀ v, o = .inl v → sn_At p l e rmX8_bears s m args below meth c Q D ct ad layC A 4 σ 44 [(0, .ref (ad 0)), (1, .int x1), (2, .int v.1), (3, .int v.2)] []) (kx : ∀ v, o = .inr v → sn_At p l e rmX8_bears s m args below meth c Q D ct ad layC A 4 σ 93 [(2, .int v)] []) : sn_At p l e rmX8_bears s m args below meth c Q D ct ad layC A 4 σ 87 [(0, .ref (ad 0)), (1, .int x1), (2, .int x2), (3, .int x3)] [] := by
  intro H locs ls hw hl
  have hx := C.1
  have hb := C.2.1
  unfold BX8_bears_87 at hf
  obtain ⟨y_1, e_2, hf⟩ := sn_ltE hf
  refine lv_iinc (v := y_1) (lv' := [(3, .int y_1), (0, .ref (ad 0)), (1, .int x1), (2, .int x2)]) hx hb dX8_bears_87 hl (k := 3) rfl (by rw [e_2]; rfl) (by decide) rfl (fun ls hl => ?_)
  refine lv_goto (tgt := 44) hx hb dX8_bears_90 (by decide) ?_
  cases hf
  exact kc _ rfl _ _ _ hw (lv_sub hl [1, 2, 3, 0] rfl)
theorem wX8_bears_44 (C : sn_C p s m args meth c RX8 cX8_bears 4 (some .int) D ct ad layC A) {σ : sn_S} {x1 : Int32} {x2 : Int32} {x3 : Int32}  {o : (Int32 × Int32) ⊕ (Int32)} (hf : BX8_bears_44 σ x1 x2 x3 = some o) (kc : ∀ v, o = .inl v → sn_At p l e rmX8_bears s m args below meth c Q D ct ad layC A 4 σ 44 [(0, .ref (ad 0)), (1, .int x1), (2, .int v.1), (3, .int v.2)] []) (kx : ∀ v, o = .inr v → sn_At p l e rmX8_bears s m args below meth c Q D ct ad layC A 4 σ 93 [(2, .int v)] []) : sn_At p l e rmX8_bears s m args below meth c Q D ct ad layC A 4 σ 44 [(0, .ref (ad 0)), (1, .int x1), (2, .int x2), (3, .int x3)] [] := by
  intro H locs ls hw hl
  have hx := C.1
  have hb := C.2.1
  unfold BX8_bears_44 at hf
  refine lv_iload_n hx hb dX8_bears_44 rfl (lv_at hl 3 rfl) ?_
  refine lv_aload_n hx hb dX8_bears_45 rfl (lv_at hl 0 rfl) ?_
  refine sn_getC (r := 38) C hw fd_RX8_48 layC_0 rfl dX8_bears_46 ?_
  refine sn_getI C hw fd_RX8_151 (sn_look sn_isX0_38 (k := 0) rfl) rfl dX8_bears_49 ?_
  refine lv_icmp_ge (tgt := 93) hx hb dX8_bears_52 (by decide) (fun c_1 => ?_) (fun c_1 => ?_)
  · have hf := sn_if c_1 hf
    cases hf
    exact kx _ rfl _ _ _ hw (lv_sub hl [2] rfl)
  · have hf := sn_el c_1 hf
    refine lv_aload_n hx hb dX8_bears_55 rfl (lv_at hl 0 rfl) ?_
    refine sn_getC (r := 38) C hw fd_RX8_48 layC_0 rfl dX8_bears_56 ?_
    refine sn_getC (r := (38 + 4)) C hw fd_RX8_196 (sn_look sn_isX0_38 (k := 0) rfl) rfl dX8_bears_59 ?_
    refine lv_iload_n hx hb dX8_bears_62 rfl (lv_at hl 1 rfl) ?_
    obtain ⟨g_2, hf⟩ := sn_gdE hf
    refine sn_iald C hw (sn_look sn_isX0_38 (k := 4) rfl) g_2 dX8_bears_63 ?_
    refine lv_iload_n hx hb dX8_bears_64 rfl (lv_at hl 3 rfl) ?_
    obtain ⟨t_3, h_4, hf⟩ := sn_bd hf
    refine sn_callSi (rest := []) C hw (ctX8_hasBit l  h_4) kl_RX8_170 rfl rfl rfl (Nat.le_of_ble_eq_true rfl) dX8_bears_65 hl.1 (fun H locs hw => ?_)
    refine lv_if_ne (tgt := 87) hx hb dX8_bears_68 (by decide) (fun c_5 => ?_) (fun c_5 => ?_)
    · have hf := sn_el c_5 hf
      exact wX8_bears_87 C  hf kc kx _ _ _ hw (lv_sub hl [0, 1, 2, 3] rfl)
    · have hf := sn_if c_5 hf
      refine lv_iload_n hx hb dX8_bears_71 rfl (lv_at hl 2 rfl) ?_
      refine lv_aload_n hx hb dX8_bears_72 rfl (lv_at hl 0 rfl) ?_
      refine sn_getC (r := 38) C hw fd_RX8_48 layC_0 rfl dX8_bears_73 ?_
      refine lv_iload_n hx hb dX8_bears_76 rfl (lv_at hl 1 rfl) ?_
      refine lv_iload_n hx hb dX8_bears_77 rfl (lv_at hl 3 rfl) ?_
      obtain ⟨t_6, h_7, hf⟩ := sn_bd hf
      refine sn_callVi (rest := [.int x2]) C hw (ctX0_tickleAt l sn_isX0_38 h_7) kl_RX8_148 (sn_look sn_isX0_38 (k := 0) rfl) rfl rfl rfl rfl (Nat.le_of_ble_eq_true rfl) dX8_bears_78 hl.1 (fun H locs hw => ?_)
      refine lv_iconst (v := 1) hx hb dX8_bears_81 rfl ?_
      refine lv_iadd hx hb dX8_bears_82 ?_
      refine va_mmax hx hb (C.2.2.1.trans hl.1.symm) C.2.2.2.1 (C.2.2.2.2.1 _ km_RX8_154) (C.2.2.2.2.1 _ kst_maxI) (C.2.2.2.2.1 _ ki_Math) (C.2.2.2.2.1 _ kc_maxI) (Nat.le_of_ble_eq_true rfl) (Nat.le_of_ble_eq_true rfl) (Nat.zero_le _) (Nat.zero_le _) dX8_bears_83 ?_
      obtain ⟨y_8, e_9, hf⟩ := sn_ltE hf
      refine lv_topi (fun y_8_ e_9_ => ?_)
      obtain rfl : y_8 = y_8_ := e_9.trans e_9_.symm
      refine lv_istore_n (lv' := [(2, .int y_8), (0, .ref (ad 0)), (1, .int x1), (3, .int x3)]) hx hb dX8_bears_86 rfl hl (by decide) rfl (fun ls hl => ?_)
      exact wX8_bears_87 C  hf kc kx _ _ _ hw (lv_sub hl [1, 2, 0, 3] rfl)
theorem wX8_bears_L44 (C : sn_C p s m args meth c RX8 cX8_bears 4 (some .int) D ct ad layC A) {σ : sn_S} {x1 : Int32}   {z : Int32 × Int32} {t : Int32} (h : sn_it (LX8_bears_44 σ x1) 5000 z = some t) (kx : ∀ v, t = v → sn_At p l e rmX8_bears s m args below meth c Q D ct ad layC A 4 σ 93 [(2, .int v)] []) : sn_At p l e rmX8_bears s m args below meth c Q D ct ad layC A 4 σ 44 [(0, .ref (ad 0)), (1, .int x1), (2, .int z.1), (3, .int z.2)] [] :=
  sn_loop (f := LX8_bears_44 σ x1) (G := fun z => sn_At p l e rmX8_bears s m args below meth c Q D ct ad layC A 4 σ 44 [(0, .ref (ad 0)), (1, .int x1), (2, .int z.1), (3, .int z.2)] []) (E := fun t => (∀ v, t = v → sn_At p l e rmX8_bears s m args below meth c Q D ct ad layC A 4 σ 93 [(2, .int v)] []) ∧ True) (fun z o hf k1 k2 => wX8_bears_44 C  hf (fun v e => k1 v e) (fun v e => (k2 _ e).1 v rfl)) 5000 z t h ⟨kx, trivial⟩
theorem wX8_bears_in (C : sn_C p s m args meth c RX8 cX8_bears 4 (some .int) D ct ad layC A) {σ : sn_S} {x1 : Int32}  {o : (Int32 × sn_S)} (hf : fX8_bears σ x1 = some o) (kr : sn_Kr p l e rmX8_bears s m args below meth c Q D ct ad layC A cX8_bears .ireturn (true) o.2 [.int o.1]) : sn_At p l e rmX8_bears s m args below meth c Q D ct ad layC A 4 σ 0 [(0, .ref (ad 0)), (1, .int x1)] [] := by
  intro H locs ls hw hl
  have hx := C.1
  have hb := C.2.1
  unfold fX8_bears at hf
  refine lv_aload_n hx hb dX8_bears_0 rfl (lv_at hl 0 rfl) ?_
  refine lv_iload_n hx hb dX8_bears_1 rfl (lv_at hl 1 rfl) ?_
  obtain ⟨t_1, h_2, hf⟩ := sn_bd hf
  refine sn_callVi (rest := []) C hw (ctX8_isPerson l  h_2) kl_RX8_107 layC_0 rfl rfl rfl rfl (Nat.le_of_ble_eq_true rfl) dX8_bears_2 hl.1 (fun H locs hw => ?_)
  refine lv_if_ne (tgt := 11) hx hb dX8_bears_5 (by decide) (fun c_3 => ?_) (fun c_3 => ?_)
  · have hf := sn_el c_3 hf
    refine lv_aload_n hx hb dX8_bears_11 rfl (lv_at hl 0 rfl) ?_
    refine sn_getC (r := 38) C hw fd_RX8_48 layC_0 rfl dX8_bears_12 ?_
    refine lv_aload_n hx hb dX8_bears_15 rfl (lv_at hl 0 rfl) ?_
    refine sn_getC (r := 27) C hw fd_RX8_44 layC_0 rfl dX8_bears_16 ?_
    obtain ⟨t_4, h_5, hf⟩ := sn_bd hf
    refine sn_callVv (rest := []) C hw (ctX0_copyFrom l sn_isX0_38 sn_isX0_27 h_5) kl_RX8_183 (sn_look sn_isX0_38 (k := 0) rfl) rfl rfl rfl rfl (Nat.le_of_ble_eq_true rfl) dX8_bears_19 hl.1 (fun H locs hw => ?_)
    refine lv_aload_n hx hb dX8_bears_22 rfl (lv_at hl 0 rfl) ?_
    refine sn_getC (r := 38) C hw fd_RX8_48 layC_0 rfl dX8_bears_23 ?_
    refine sn_getC (r := (38 + 3)) C hw fd_RX8_192 (sn_look sn_isX0_38 (k := 0) rfl) rfl dX8_bears_26 ?_
    refine lv_iload_n hx hb dX8_bears_29 rfl (lv_at hl 1 rfl) ?_
    refine lv_ldc hx hb C.2.2.2.1 (C.2.2.2.2.1 _ kk_RX8_195) dX8_bears_30 ?_
    obtain ⟨g_6, hf⟩ := sn_gdE hf
    refine sn_iast C hw (sn_look sn_isX0_38 (k := 3) rfl) g_6 dX8_bears_32 (fun H locs hw => ?_)
    obtain ⟨σ_7, e_8, hf⟩ := sn_ltE hf
    rw [← e_8] at hw
    refine lv_aload_n hx hb dX8_bears_33 rfl (lv_at hl 0 rfl) ?_
    refine sn_getC (r := 38) C hw fd_RX8_48 layC_0 rfl dX8_bears_34 ?_
    obtain ⟨t_9, h_10, hf⟩ := sn_bd hf
    refine sn_callVv (rest := []) C hw (ctX0_liveWhole l sn_isX0_38 h_10) kl_RX8_189 (sn_look sn_isX0_38 (k := 0) rfl) rfl rfl rfl rfl (Nat.le_of_ble_eq_true rfl) dX8_bears_37 hl.1 (fun H locs hw => ?_)
    refine lv_iconst (v := 1) hx hb dX8_bears_40 rfl ?_
    refine lv_istore_n (lv' := [(2, .int (1 : Int32)), (0, .ref (ad 0)), (1, .int x1)]) hx hb dX8_bears_41 rfl hl (by decide) rfl (fun ls hl => ?_)
    refine lv_iconst (v := 0) hx hb dX8_bears_42 rfl ?_
    refine lv_istore_n (lv' := [(3, .int (0 : Int32)), (2, .int (1 : Int32)), (0, .ref (ad 0)), (1, .int x1)]) hx hb dX8_bears_43 rfl hl (by decide) rfl (fun ls hl => ?_)
    obtain ⟨t_11, h_12, hf⟩ := sn_bd hf
    exact wX8_bears_L44 C  h_12 (fun v e => by cases e; exact wX8_bears_93 C  hf kr) _ _ _ hw (lv_sub hl [2, 3, 1, 0] rfl)
  · have hf := sn_if c_3 hf
    refine lv_bipush (v := (-2)) hx hb dX8_bears_8 (by decide) ?_
    cases hf
    exact kr _ _ _ _ hw rfl dX8_bears_10
theorem ctX8_bears (l : Launch) {σ : sn_S} {x1 : Int32}  {o : (Int32 × sn_S)} (hf : fX8_bears σ x1 = some o) : sn_M l yX8_bears cX8_bears 4 (some .int) rmX8_bears layC (fun ad => [.ref (ad 0), .int x1]) σ (some (fun _ => .int o.1)) o.2 :=
  sn_met (by decide) (fun _ => Nat.le_of_ble_eq_true rfl) (fun p e s m args below meth c ls D ct ad A C hw hl => wX8_bears_in C  hf (fun H locs ls pc hw ok hd => sn_iret C hw hd) _ _ _ hw hl)
end
end
section
section
variable {p : Program} {l : Launch} {e : Env} {s : State} {m : MethodId} {args : Array Value} {below : List Frame} {meth : Method} {c : Code} {Q : State → Prop} {D : va_G} {ct : Nat → ClassId} {ad : Nat → Nat} {A : Nat → Prop} {lay : List sn_E}
-- X8_clean
abbrev rmX8_clean : Room := { frames := 5, cells := 0, slots := 0, locals := 113 }
def BX8_clean_102 (σ : sn_S) : Option ((Int32 × sn_S)) :=
  (some ((-1 : Int32), σ))
def BX8_clean_77 (σ : sn_S) (x1 : Int32) : Option ((sn_S × Int32) ⊕ ((sn_S) ⊕ (Int32 × sn_S))) :=
  ((fX0_liveWhole σ 38).bind fun t_1 => ((fX0_total t_1 38).bind fun t_3 => (if t_3 = 0 then
  (some (.inr (.inr (x1, t_1))))
  else
  (sn_lt (x1 + (-1)) fun y_6 => (some (.inl (t_1, y_6)))))))
def BX8_clean_30 (σ : sn_S) (x1 : Int32) (x2 : Int32) : Option ((sn_S × Int32) ⊕ (sn_S)) :=
  (if (sn_I σ 27 0) ≤ x2 then
  (some (.inr (σ)))
  else
  (sn_gd (sn_in x2 30) (sn_gd (sn_in (1 : Int32) 11) (sn_gd (sn_in x2 30) (sn_lt (sn_pI σ (38 + 1) x2.toNatClampNeg (((sn_I σ (27 + 1) x2.toNatClampNeg) - (sn_I σ (1 + 1) (1 : Int32).toNatClampNeg)) + x1)) fun σ_5 => (sn_lt (x2 + 1) fun y_7 => (some (.inl (σ_5, y_7)))))))))
def LX8_clean_30 (x1 : Int32) (s : sn_S × Int32) : Option ((sn_S × Int32) ⊕ (sn_S)) := BX8_clean_30 s.1 x1 s.2
def BX8_clean_24 (σ : sn_S) (x1 : Int32) : Option ((sn_S × Int32) ⊕ ((sn_S) ⊕ (Int32 × sn_S))) :=
  (if x1 < 0 then
  (some (.inr (.inl (σ))))
  else
  ((sn_it (LX8_clean_30 x1) 5000 (σ, (0 : Int32))).bind fun t_2 => (BX8_clean_77 t_2 x1)))
def LX8_clean_24  (s : sn_S × Int32) : Option ((sn_S × Int32) ⊕ ((sn_S) ⊕ (Int32 × sn_S))) := BX8_clean_24 s.1 s.2
def fX8_clean (σ : sn_S) : Option (Int32 × sn_S) :=
  ((fX8_isHouse σ).bind fun t_1 => (if t_1 = 0 then
  (some ((-2 : Int32), σ))
  else
  ((fX0_copyFrom σ 38 27).bind fun t_4 => ((sn_it (LX8_clean_24 ) 5000 (t_4, (9 : Int32))).bind fun t_6 => Sum.elim (fun v_8 => (BX8_clean_102 v_8)) (fun r_9 => (some r_9)) t_6))))
theorem wX8_clean_102 (C : sn_C p s m args meth c RX8 cX8_clean 3 (some .int) D ct ad layC A) {σ : sn_S}  {o : (Int32 × sn_S)} (hf : BX8_clean_102 σ = some o) (kr : sn_Kr p l e rmX8_clean s m args below meth c Q D ct ad layC A cX8_clean .ireturn (true) o.2 [.int o.1]) : sn_At p l e rmX8_clean s m args below meth c Q D ct ad layC A 3 σ 102 [] [] := by
  intro H locs ls hw hl
  have hx := C.1
  have hb := C.2.1
  unfold BX8_clean_102 at hf
  refine lv_iconst (v := (-1)) hx hb dX8_clean_102 rfl ?_
  cases hf
  exact kr _ _ _ _ hw rfl dX8_clean_103
theorem wX8_clean_77 (C : sn_C p s m args meth c RX8 cX8_clean 3 (some .int) D ct ad layC A) {σ : sn_S} {x1 : Int32}  {o : (sn_S × Int32) ⊕ ((sn_S) ⊕ (Int32 × sn_S))} (hf : BX8_clean_77 σ x1 = some o) (kc : ∀ v, o = .inl v → sn_At p l e rmX8_clean s m args below meth c Q D ct ad layC A 3 v.1 24 [(0, .ref (ad 0)), (1, .int v.2)] []) (kx : ∀ v, o = .inr (.inl v) → sn_At p l e rmX8_clean s m args below meth c Q D ct ad layC A 3 v 102 [] []) (kr : ∀ r, o = .inr (.inr r) → sn_Kr p l e rmX8_clean s m args below meth c Q D ct ad layC A cX8_clean .ireturn (true) r.2 [.int r.1]) : sn_At p l e rmX8_clean s m args below meth c Q D ct ad layC A 3 σ 77 [(0, .ref (ad 0)), (1, .int x1)] [] := by
  intro H locs ls hw hl
  have hx := C.1
  have hb := C.2.1
  unfold BX8_clean_77 at hf
  refine lv_aload_n hx hb dX8_clean_77 rfl (lv_at hl 0 rfl) ?_
  refine sn_getC (r := 38) C hw fd_RX8_48 layC_0 rfl dX8_clean_78 ?_
  obtain ⟨t_1, h_2, hf⟩ := sn_bd hf
  refine sn_callVv (rest := []) C hw (ctX0_liveWhole l sn_isX0_38 h_2) kl_RX8_189 (sn_look sn_isX0_38 (k := 0) rfl) rfl rfl rfl rfl (Nat.le_of_ble_eq_true rfl) dX8_clean_81 hl.1 (fun H locs hw => ?_)
  refine lv_aload_n hx hb dX8_clean_84 rfl (lv_at hl 0 rfl) ?_
  refine sn_getC (r := 38) C hw fd_RX8_48 layC_0 rfl dX8_clean_85 ?_
  obtain ⟨t_3, h_4, hf⟩ := sn_bd hf
  refine sn_callVi (rest := []) C hw (ctX0_total l sn_isX0_38 h_4) kl_RX8_141 (sn_look sn_isX0_38 (k := 0) rfl) rfl rfl rfl rfl (Nat.le_of_ble_eq_true rfl) dX8_clean_88 hl.1 (fun H locs hw => ?_)
  refine lv_if_ne (tgt := 96) hx hb dX8_clean_91 (by decide) (fun c_5 => ?_) (fun c_5 => ?_)
  · have hf := sn_el c_5 hf
    obtain ⟨y_6, e_7, hf⟩ := sn_ltE hf
    refine lv_iinc (v := y_6) (lv' := [(1, .int y_6), (0, .ref (ad 0))]) hx hb dX8_clean_96 hl (k := 1) rfl (by rw [e_7]; rfl) (by decide) rfl (fun ls hl => ?_)
    refine lv_goto (tgt := 24) hx hb dX8_clean_99 (by decide) ?_
    cases hf
    exact kc _ rfl _ _ _ hw (lv_sub hl [1, 0] rfl)
  · have hf := sn_if c_5 hf
    refine lv_iload_n hx hb dX8_clean_94 rfl (lv_at hl 1 rfl) ?_
    cases hf
    exact kr _ rfl _ _ _ _ hw rfl dX8_clean_95
theorem wX8_clean_30 (C : sn_C p s m args meth c RX8 cX8_clean 3 (some .int) D ct ad layC A) {σ : sn_S} {x1 : Int32} {x2 : Int32}  {o : (sn_S × Int32) ⊕ (sn_S)} (hf : BX8_clean_30 σ x1 x2 = some o) (kc : ∀ v, o = .inl v → sn_At p l e rmX8_clean s m args below meth c Q D ct ad layC A 3 v.1 30 [(0, .ref (ad 0)), (1, .int x1), (2, .int v.2)] []) (kx : ∀ v, o = .inr v → sn_At p l e rmX8_clean s m args below meth c Q D ct ad layC A 3 v 77 [(0, .ref (ad 0)), (1, .int x1)] []) : sn_At p l e rmX8_clean s m args below meth c Q D ct ad layC A 3 σ 30 [(0, .ref (ad 0)), (1, .int x1), (2, .int x2)] [] := by
  intro H locs ls hw hl
  have hx := C.1
  have hb := C.2.1
  unfold BX8_clean_30 at hf
  refine lv_iload_n hx hb dX8_clean_30 rfl (lv_at hl 2 rfl) ?_
  refine lv_aload_n hx hb dX8_clean_31 rfl (lv_at hl 0 rfl) ?_
  refine sn_getC (r := 27) C hw fd_RX8_44 layC_0 rfl dX8_clean_32 ?_
  refine sn_getI C hw fd_RX8_151 (sn_look sn_isX0_27 (k := 0) rfl) rfl dX8_clean_35 ?_
  refine lv_icmp_ge (tgt := 77) hx hb dX8_clean_38 (by decide) (fun c_1 => ?_) (fun c_1 => ?_)
  · have hf := sn_if c_1 hf
    cases hf
    exact kx _ rfl _ _ _ hw (lv_sub hl [0, 1] rfl)
  · have hf := sn_el c_1 hf
    refine lv_aload_n hx hb dX8_clean_41 rfl (lv_at hl 0 rfl) ?_
    refine sn_getC (r := 38) C hw fd_RX8_48 layC_0 rfl dX8_clean_42 ?_
    refine sn_getC (r := (38 + 1)) C hw fd_RX8_128 (sn_look sn_isX0_38 (k := 0) rfl) rfl dX8_clean_45 ?_
    refine lv_iload_n hx hb dX8_clean_48 rfl (lv_at hl 2 rfl) ?_
    refine lv_aload_n hx hb dX8_clean_49 rfl (lv_at hl 0 rfl) ?_
    refine sn_getC (r := 27) C hw fd_RX8_44 layC_0 rfl dX8_clean_50 ?_
    refine sn_getC (r := (27 + 1)) C hw fd_RX8_128 (sn_look sn_isX0_27 (k := 0) rfl) rfl dX8_clean_53 ?_
    refine lv_iload_n hx hb dX8_clean_56 rfl (lv_at hl 2 rfl) ?_
    obtain ⟨g_2, hf⟩ := sn_gdE hf
    refine sn_iald C hw (sn_look sn_isX0_27 (k := 1) rfl) g_2 dX8_clean_57 ?_
    refine lv_aload_n hx hb dX8_clean_58 rfl (lv_at hl 0 rfl) ?_
    refine sn_getC (r := 1) C hw fd_RX8_10 layC_0 rfl dX8_clean_59 ?_
    refine sn_getC (r := (1 + 1)) C hw fd_RX8_100 (sn_look sn_isX2_1 (k := 0) rfl) rfl dX8_clean_62 ?_
    refine lv_iconst (v := 1) hx hb dX8_clean_65 rfl ?_
    obtain ⟨g_3, hf⟩ := sn_gdE hf
    refine sn_iald C hw (sn_look sn_isX2_1 (k := 1) rfl) g_3 dX8_clean_66 ?_
    refine lv_isub hx hb dX8_clean_67 ?_
    refine lv_iload_n hx hb dX8_clean_68 rfl (lv_at hl 1 rfl) ?_
    refine lv_iadd hx hb dX8_clean_69 ?_
    obtain ⟨g_4, hf⟩ := sn_gdE hf
    refine sn_iast C hw (sn_look sn_isX0_38 (k := 1) rfl) g_4 dX8_clean_70 (fun H locs hw => ?_)
    obtain ⟨σ_5, e_6, hf⟩ := sn_ltE hf
    rw [← e_6] at hw
    obtain ⟨y_7, e_8, hf⟩ := sn_ltE hf
    refine lv_iinc (v := y_7) (lv' := [(2, .int y_7), (0, .ref (ad 0)), (1, .int x1)]) hx hb dX8_clean_71 hl (k := 2) rfl (by rw [e_8]; rfl) (by decide) rfl (fun ls hl => ?_)
    refine lv_goto (tgt := 30) hx hb dX8_clean_74 (by decide) ?_
    cases hf
    exact kc _ rfl _ _ _ hw (lv_sub hl [1, 2, 0] rfl)
theorem wX8_clean_L30 (C : sn_C p s m args meth c RX8 cX8_clean 3 (some .int) D ct ad layC A) {x1 : Int32}   {z : sn_S × Int32} {t : sn_S} (h : sn_it (LX8_clean_30 x1) 5000 z = some t) (kx : ∀ v, t = v → sn_At p l e rmX8_clean s m args below meth c Q D ct ad layC A 3 v 77 [(0, .ref (ad 0)), (1, .int x1)] []) : sn_At p l e rmX8_clean s m args below meth c Q D ct ad layC A 3 z.1 30 [(0, .ref (ad 0)), (1, .int x1), (2, .int z.2)] [] :=
  sn_loop (f := LX8_clean_30 x1) (G := fun z => sn_At p l e rmX8_clean s m args below meth c Q D ct ad layC A 3 z.1 30 [(0, .ref (ad 0)), (1, .int x1), (2, .int z.2)] []) (E := fun t => (∀ v, t = v → sn_At p l e rmX8_clean s m args below meth c Q D ct ad layC A 3 v 77 [(0, .ref (ad 0)), (1, .int x1)] []) ∧ True) (fun z o hf k1 k2 => wX8_clean_30 C  hf (fun v e => k1 v e) (fun v e => (k2 _ e).1 v rfl)) 5000 z t h ⟨kx, trivial⟩
theorem wX8_clean_24 (C : sn_C p s m args meth c RX8 cX8_clean 3 (some .int) D ct ad layC A) {σ : sn_S} {x1 : Int32}  {o : (sn_S × Int32) ⊕ ((sn_S) ⊕ (Int32 × sn_S))} (hf : BX8_clean_24 σ x1 = some o) (kc : ∀ v, o = .inl v → sn_At p l e rmX8_clean s m args below meth c Q D ct ad layC A 3 v.1 24 [(0, .ref (ad 0)), (1, .int v.2)] []) (kx : ∀ v, o = .inr (.inl v) → sn_At p l e rmX8_clean s m args below meth c Q D ct ad layC A 3 v 102 [] []) (kr : ∀ r, o = .inr (.inr r) → sn_Kr p l e rmX8_clean s m args below meth c Q D ct ad layC A cX8_clean .ireturn (true) r.2 [.int r.1]) : sn_At p l e rmX8_clean s m args below meth c Q D ct ad layC A 3 σ 24 [(0, .ref (ad 0)), (1, .int x1)] [] := by
  intro H locs ls hw hl
  have hx := C.1
  have hb := C.2.1
  unfold BX8_clean_24 at hf
  refine lv_iload_n hx hb dX8_clean_24 rfl (lv_at hl 1 rfl) ?_
  refine lv_if_lt (tgt := 102) hx hb dX8_clean_25 (by decide) (fun c_1 => ?_) (fun c_1 => ?_)
  · have hf := sn_if c_1 hf
    cases hf
    exact kx _ rfl _ _ _ hw (lv_sub hl [] rfl)
  · have hf := sn_el c_1 hf
    refine lv_iconst (v := 0) hx hb dX8_clean_28 rfl ?_
    refine lv_istore_n (lv' := [(2, .int (0 : Int32)), (0, .ref (ad 0)), (1, .int x1)]) hx hb dX8_clean_29 rfl hl (by decide) rfl (fun ls hl => ?_)
    obtain ⟨t_2, h_3, hf⟩ := sn_bd hf
    exact wX8_clean_L30 C  h_3 (fun v e => by cases e; exact wX8_clean_77 C  hf kc kx kr) _ _ _ hw (lv_sub hl [1, 2, 0] rfl)
theorem wX8_clean_L24 (C : sn_C p s m args meth c RX8 cX8_clean 3 (some .int) D ct ad layC A)    {z : sn_S × Int32} {t : (sn_S) ⊕ (Int32 × sn_S)} (h : sn_it (LX8_clean_24 ) 5000 z = some t) (kx : ∀ v, t = .inl v → sn_At p l e rmX8_clean s m args below meth c Q D ct ad layC A 3 v 102 [] []) (kr : ∀ r, t = .inr r → sn_Kr p l e rmX8_clean s m args below meth c Q D ct ad layC A cX8_clean .ireturn (true) r.2 [.int r.1]) : sn_At p l e rmX8_clean s m args below meth c Q D ct ad layC A 3 z.1 24 [(0, .ref (ad 0)), (1, .int z.2)] [] :=
  sn_loop (f := LX8_clean_24 ) (G := fun z => sn_At p l e rmX8_clean s m args below meth c Q D ct ad layC A 3 z.1 24 [(0, .ref (ad 0)), (1, .int z.2)] []) (E := fun t => (∀ v, t = .inl v → sn_At p l e rmX8_clean s m args below meth c Q D ct ad layC A 3 v 102 [] []) ∧ (∀ r, t = .inr r → sn_Kr p l e rmX8_clean s m args below meth c Q D ct ad layC A cX8_clean .ireturn (true) r.2 [.int r.1])) (fun z o hf k1 k2 => wX8_clean_24 C  hf (fun v e => k1 v e) (fun v e => (k2 _ e).1 v rfl) (fun r e => (k2 _ e).2 r rfl)) 5000 z t h ⟨kx, kr⟩
theorem wX8_clean_in (C : sn_C p s m args meth c RX8 cX8_clean 3 (some .int) D ct ad layC A) {σ : sn_S}  {o : (Int32 × sn_S)} (hf : fX8_clean σ = some o) (kr : sn_Kr p l e rmX8_clean s m args below meth c Q D ct ad layC A cX8_clean .ireturn (true) o.2 [.int o.1]) : sn_At p l e rmX8_clean s m args below meth c Q D ct ad layC A 3 σ 0 [(0, .ref (ad 0))] [] := by
  intro H locs ls hw hl
  have hx := C.1
  have hb := C.2.1
  unfold fX8_clean at hf
  refine lv_aload_n hx hb dX8_clean_0 rfl (lv_at hl 0 rfl) ?_
  obtain ⟨t_1, h_2, hf⟩ := sn_bd hf
  refine sn_callVi (rest := []) C hw (ctX8_isHouse l  h_2) kl_RX8_137 layC_0 rfl rfl rfl rfl (Nat.le_of_ble_eq_true rfl) dX8_clean_1 hl.1 (fun H locs hw => ?_)
  refine lv_if_ne (tgt := 10) hx hb dX8_clean_4 (by decide) (fun c_3 => ?_) (fun c_3 => ?_)
  · have hf := sn_el c_3 hf
    refine lv_aload_n hx hb dX8_clean_10 rfl (lv_at hl 0 rfl) ?_
    refine sn_getC (r := 38) C hw fd_RX8_48 layC_0 rfl dX8_clean_11 ?_
    refine lv_aload_n hx hb dX8_clean_14 rfl (lv_at hl 0 rfl) ?_
    refine sn_getC (r := 27) C hw fd_RX8_44 layC_0 rfl dX8_clean_15 ?_
    obtain ⟨t_4, h_5, hf⟩ := sn_bd hf
    refine sn_callVv (rest := []) C hw (ctX0_copyFrom l sn_isX0_38 sn_isX0_27 h_5) kl_RX8_183 (sn_look sn_isX0_38 (k := 0) rfl) rfl rfl rfl rfl (Nat.le_of_ble_eq_true rfl) dX8_clean_18 hl.1 (fun H locs hw => ?_)
    refine lv_bipush (v := 9) hx hb dX8_clean_21 (by decide) ?_
    refine lv_istore_n (lv' := [(1, .int (9 : Int32)), (0, .ref (ad 0))]) hx hb dX8_clean_23 rfl hl (by decide) rfl (fun ls hl => ?_)
    obtain ⟨t_6, h_7, hf⟩ := sn_bd hf
    rcases t_6 with v_8 | r_9
    · rw [Sum.elim_inl] at hf
      exact wX8_clean_L24 C  h_7 (fun v e => by cases e; exact wX8_clean_102 C  hf kr) (fun r e => by cases e) _ _ _ hw (lv_sub hl [1, 0] rfl)
    · rw [Sum.elim_inr] at hf
      cases hf
      exact wX8_clean_L24 C  h_7 (fun v e => by cases e) (fun r e => by cases e; exact kr) _ _ _ hw (lv_sub hl [1, 0] rfl)
  · have hf := sn_if c_3 hf
    refine lv_bipush (v := (-2)) hx hb dX8_clean_7 (by decide) ?_
    cases hf
    exact kr _ _ _ _ hw rfl dX8_clean_9
theorem ctX8_clean (l : Launch) {σ : sn_S}  {o : (Int32 × sn_S)} (hf : fX8_clean σ = some o) : sn_M l yX8_clean cX8_clean 3 (some .int) rmX8_clean layC (fun ad => [.ref (ad 0)]) σ (some (fun _ => .int o.1)) o.2 :=
  sn_met (by decide) (fun _ => Nat.le_of_ble_eq_true rfl) (fun p e s m args below meth c ls D ct ad A C hw hl => wX8_clean_in C  hf (fun H locs ls pc hw ok hd => sn_iret C hw hd) _ _ _ hw hl)
-- X8_spreads
abbrev rmX8_spreads : Room := { frames := 5, cells := 0, slots := 0, locals := 113 }
def BX8_spreads_107 (σ : sn_S) (x2 : Int32) : Option ((Int32 × sn_S)) :=
  (some (x2, σ))
def BX8_spreads_101 (σ : sn_S) (x1 : Int32) (x2 : Int32) (x3 : Int32) : Option ((Int32 × Int32) ⊕ (Int32)) :=
  (sn_lt (x3 + 1) fun y_1 => (some (.inl (x2, y_1))))
def BX8_spreads_52 (σ : sn_S) (x1 : Int32) (x2 : Int32) (x3 : Int32) : Option ((Int32 × Int32) ⊕ (Int32)) :=
  (if (sn_I σ 27 1) ≤ x3 then
  (some (.inr (x2)))
  else
  (if x3 = x1 then
  (BX8_spreads_101 σ x1 x2 x3)
  else
  (sn_gd (sn_in x3 6) ((fJ6_bitCount_0f7a4 (sn_I σ (38 + 10) x3.toNatClampNeg)).bind fun t_4 => (sn_gd (sn_in x3 6) ((fJ6_bitCount_0f7a4 (sn_I σ (27 + 10) x3.toNatClampNeg)).bind fun t_7 => (if t_7 ≤ t_4 then
  (BX8_spreads_101 σ x1 x2 x3)
  else
  (sn_lt (x2 ||| ((1 : Int32) <<< (x3 &&& 31))) fun y_10 => (BX8_spreads_101 σ x1 y_10 x3)))))))))
def LX8_spreads_52 (σ : sn_S) (x1 : Int32) (s : Int32 × Int32) : Option ((Int32 × Int32) ⊕ (Int32)) := BX8_spreads_52 σ x1 s.1 s.2
def fX8_spreads (σ : sn_S) (x1 : Int32) : Option (Int32 × sn_S) :=
  ((fX8_isPerson σ x1).bind fun t_1 => (if t_1 = 0 then
  (some ((-2 : Int32), σ))
  else
  ((fX0_copyFrom σ 38 27).bind fun t_4 => ((fX8_firstMinutes (sn_I t_4 27 0)).bind fun t_6 => (sn_gd (sn_in x1 6) (sn_lt (sn_pI t_4 (38 + 4) x1.toNatClampNeg t_6) fun σ_9 => ((fX0_liveWhole σ_9 38).bind fun t_11 => ((sn_it (LX8_spreads_52 t_11 x1) 5000 ((0 : Int32), (0 : Int32))).bind fun t_13 => (BX8_spreads_107 t_11 t_13)))))))))
theorem wX8_spreads_107 (C : sn_C p s m args meth c RX8 cX8_spreads 4 (some .int) D ct ad layC A) {σ : sn_S} {x2 : Int32}  {o : (Int32 × sn_S)} (hf : BX8_spreads_107 σ x2 = some o) (kr : sn_Kr p l e rmX8_spreads s m args below meth c Q D ct ad layC A cX8_spreads .ireturn (true) o.2 [.int o.1]) : sn_At p l e rmX8_spreads s m args below meth c Q D ct ad layC A 4 σ 107 [(2, .int x2)] [] := by
  intro H locs ls hw hl
  have hx := C.1
  have hb := C.2.1
  unfold BX8_spreads_107 at hf
  refine lv_iload_n hx hb dX8_spreads_107 rfl (lv_at hl 0 rfl) ?_
  cases hf
  exact kr _ _ _ _ hw rfl dX8_spreads_108
theorem wX8_spreads_101 (C : sn_C p s m args meth c RX8 cX8_spreads 4 (some .int) D ct ad layC A) {σ : sn_S} {x1 : Int32} {x2 : Int32} {x3 : Int32}  {o : (Int32 × Int32) ⊕ (Int32)} (hf : BX8_spreads_101 σ x1 x2 x3 = some o) (kc : ∀ v, o = .inl v → sn_At p l e rmX8_spreads s m args below meth c Q D ct ad layC A 4 σ 52 [(0, .ref (ad 0)), (1, .int x1), (2, .int v.1), (3, .int v.2)] []) (kx : ∀ v, o = .inr v → sn_At p l e rmX8_spreads s m args below meth c Q D ct ad layC A 4 σ 107 [(2, .int v)] []) : sn_At p l e rmX8_spreads s m args below meth c Q D ct ad layC A 4 σ 101 [(0, .ref (ad 0)), (1, .int x1), (2, .int x2), (3, .int x3)] [] := by
  intro H locs ls hw hl
  have hx := C.1
  have hb := C.2.1
  unfold BX8_spreads_101 at hf
  obtain ⟨y_1, e_2, hf⟩ := sn_ltE hf
  refine lv_iinc (v := y_1) (lv' := [(3, .int y_1), (0, .ref (ad 0)), (1, .int x1), (2, .int x2)]) hx hb dX8_spreads_101 hl (k := 3) rfl (by rw [e_2]; rfl) (by decide) rfl (fun ls hl => ?_)
  refine lv_goto (tgt := 52) hx hb dX8_spreads_104 (by decide) ?_
  cases hf
  exact kc _ rfl _ _ _ hw (lv_sub hl [1, 2, 3, 0] rfl)
theorem wX8_spreads_52 (C : sn_C p s m args meth c RX8 cX8_spreads 4 (some .int) D ct ad layC A) {σ : sn_S} {x1 : Int32} {x2 : Int32} {x3 : Int32}  {o : (Int32 × Int32) ⊕ (Int32)} (hf : BX8_spreads_52 σ x1 x2 x3 = some o) (kc : ∀ v, o = .inl v → sn_At p l e rmX8_spreads s m args below meth c Q D ct ad layC A 4 σ 52 [(0, .ref (ad 0)), (1, .int x1), (2, .int v.1), (3, .int v.2)] []) (kx : ∀ v, o = .inr v → sn_At p l e rmX8_spreads s m args below meth c Q D ct ad layC A 4 σ 107 [(2, .int v)] []) : sn_At p l e rmX8_spreads s m args below meth c Q D ct ad layC A 4 σ 52 [(0, .ref (ad 0)), (1, .int x1), (2, .int x2), (3, .int x3)] [] := by
  intro H locs ls hw hl
  have hx := C.1
  have hb := C.2.1
  unfold BX8_spreads_52 at hf
  refine lv_iload_n hx hb dX8_spreads_52 rfl (lv_at hl 3 rfl) ?_
  refine lv_aload_n hx hb dX8_spreads_53 rfl (lv_at hl 0 rfl) ?_
  refine sn_getC (r := 27) C hw fd_RX8_44 layC_0 rfl dX8_spreads_54 ?_
  refine sn_getI C hw fd_RX8_162 (sn_look sn_isX0_27 (k := 0) rfl) rfl dX8_spreads_57 ?_
  refine lv_icmp_ge (tgt := 107) hx hb dX8_spreads_60 (by decide) (fun c_1 => ?_) (fun c_1 => ?_)
  · have hf := sn_if c_1 hf
    cases hf
    exact kx _ rfl _ _ _ hw (lv_sub hl [2] rfl)
  · have hf := sn_el c_1 hf
    refine lv_iload_n hx hb dX8_spreads_63 rfl (lv_at hl 3 rfl) ?_
    refine lv_iload_n hx hb dX8_spreads_64 rfl (lv_at hl 1 rfl) ?_
    refine lv_icmp_eq (tgt := 101) hx hb dX8_spreads_65 (by decide) (fun c_2 => ?_) (fun c_2 => ?_)
    · have hf := sn_if c_2 hf
      exact wX8_spreads_101 C  hf kc kx _ _ _ hw (lv_sub hl [0, 1, 2, 3] rfl)
    · have hf := sn_el c_2 hf
      refine lv_aload_n hx hb dX8_spreads_68 rfl (lv_at hl 0 rfl) ?_
      refine sn_getC (r := 38) C hw fd_RX8_48 layC_0 rfl dX8_spreads_69 ?_
      refine sn_getC (r := (38 + 10)) C hw fd_RX8_131 (sn_look sn_isX0_38 (k := 0) rfl) rfl dX8_spreads_72 ?_
      refine lv_iload_n hx hb dX8_spreads_75 rfl (lv_at hl 3 rfl) ?_
      obtain ⟨g_3, hf⟩ := sn_gdE hf
      refine sn_iald C hw (sn_look sn_isX0_38 (k := 10) rfl) g_3 dX8_spreads_76 ?_
      obtain ⟨t_4, h_5, hf⟩ := sn_bd hf
      refine sn_callSi (rest := []) C hw (ctJ6_bitCount_0f7a4 l  h_5) kl_RX8_165 rfl rfl rfl (Nat.le_of_ble_eq_true rfl) dX8_spreads_77 hl.1 (fun H locs hw => ?_)
      refine lv_aload_n hx hb dX8_spreads_80 rfl (lv_at hl 0 rfl) ?_
      refine sn_getC (r := 27) C hw fd_RX8_44 layC_0 rfl dX8_spreads_81 ?_
      refine sn_getC (r := (27 + 10)) C hw fd_RX8_131 (sn_look sn_isX0_27 (k := 0) rfl) rfl dX8_spreads_84 ?_
      refine lv_iload_n hx hb dX8_spreads_87 rfl (lv_at hl 3 rfl) ?_
      obtain ⟨g_6, hf⟩ := sn_gdE hf
      refine sn_iald C hw (sn_look sn_isX0_27 (k := 10) rfl) g_6 dX8_spreads_88 ?_
      obtain ⟨t_7, h_8, hf⟩ := sn_bd hf
      refine sn_callSi (rest := [.int t_4]) C hw (ctJ6_bitCount_0f7a4 l  h_8) kl_RX8_165 rfl rfl rfl (Nat.le_of_ble_eq_true rfl) dX8_spreads_89 hl.1 (fun H locs hw => ?_)
      refine lv_icmp_ge (tgt := 101) hx hb dX8_spreads_92 (by decide) (fun c_9 => ?_) (fun c_9 => ?_)
      · have hf := sn_if c_9 hf
        exact wX8_spreads_101 C  hf kc kx _ _ _ hw (lv_sub hl [0, 1, 2, 3] rfl)
      · have hf := sn_el c_9 hf
        refine lv_iload_n hx hb dX8_spreads_95 rfl (lv_at hl 2 rfl) ?_
        refine lv_iconst (v := 1) hx hb dX8_spreads_96 rfl ?_
        refine lv_iload_n hx hb dX8_spreads_97 rfl (lv_at hl 3 rfl) ?_
        refine lv_ishl hx hb dX8_spreads_98 ?_
        refine lv_ior hx hb dX8_spreads_99 ?_
        obtain ⟨y_10, e_11, hf⟩ := sn_ltE hf
        refine lv_topi (fun y_10_ e_11_ => ?_)
        obtain rfl : y_10 = y_10_ := e_11.trans e_11_.symm
        refine lv_istore_n (lv' := [(2, .int y_10), (0, .ref (ad 0)), (1, .int x1), (3, .int x3)]) hx hb dX8_spreads_100 rfl hl (by decide) rfl (fun ls hl => ?_)
        exact wX8_spreads_101 C  hf kc kx _ _ _ hw (lv_sub hl [1, 2, 0, 3] rfl)
theorem wX8_spreads_L52 (C : sn_C p s m args meth c RX8 cX8_spreads 4 (some .int) D ct ad layC A) {σ : sn_S} {x1 : Int32}   {z : Int32 × Int32} {t : Int32} (h : sn_it (LX8_spreads_52 σ x1) 5000 z = some t) (kx : ∀ v, t = v → sn_At p l e rmX8_spreads s m args below meth c Q D ct ad layC A 4 σ 107 [(2, .int v)] []) : sn_At p l e rmX8_spreads s m args below meth c Q D ct ad layC A 4 σ 52 [(0, .ref (ad 0)), (1, .int x1), (2, .int z.1), (3, .int z.2)] [] :=
  sn_loop (f := LX8_spreads_52 σ x1) (G := fun z => sn_At p l e rmX8_spreads s m args below meth c Q D ct ad layC A 4 σ 52 [(0, .ref (ad 0)), (1, .int x1), (2, .int z.1), (3, .int z.2)] []) (E := fun t => (∀ v, t = v → sn_At p l e rmX8_spreads s m args below meth c Q D ct ad layC A 4 σ 107 [(2, .int v)] []) ∧ True) (fun z o hf k1 k2 => wX8_spreads_52 C  hf (fun v e => k1 v e) (fun v e => (k2 _ e).1 v rfl)) 5000 z t h ⟨kx, trivial⟩
theorem wX8_spreads_in (C : sn_C p s m args meth c RX8 cX8_spreads 4 (some .int) D ct ad layC A) {σ : sn_S} {x1 : Int32}  {o : (Int32 × sn_S)} (hf : fX8_spreads σ x1 = some o) (kr : sn_Kr p l e rmX8_spreads s m args below meth c Q D ct ad layC A cX8_spreads .ireturn (true) o.2 [.int o.1]) : sn_At p l e rmX8_spreads s m args below meth c Q D ct ad layC A 4 σ 0 [(0, .ref (ad 0)), (1, .int x1)] [] := by
  intro H locs ls hw hl
  have hx := C.1
  have hb := C.2.1
  unfold fX8_spreads at hf
  refine lv_aload_n hx hb dX8_spreads_0 rfl (lv_at hl 0 rfl) ?_
  refine lv_iload_n hx hb dX8_spreads_1 rfl (lv_at hl 1 rfl) ?_
  obtain ⟨t_1, h_2, hf⟩ := sn_bd hf
  refine sn_callVi (rest := []) C hw (ctX8_isPerson l  h_2) kl_RX8_107 layC_0 rfl rfl rfl rfl (Nat.le_of_ble_eq_true rfl) dX8_spreads_2 hl.1 (fun H locs hw => ?_)
  refine lv_if_ne (tgt := 11) hx hb dX8_spreads_5 (by decide) (fun c_3 => ?_) (fun c_3 => ?_)
  · have hf := sn_el c_3 hf
    refine lv_aload_n hx hb dX8_spreads_11 rfl (lv_at hl 0 rfl) ?_
    refine sn_getC (r := 38) C hw fd_RX8_48 layC_0 rfl dX8_spreads_12 ?_
    refine lv_aload_n hx hb dX8_spreads_15 rfl (lv_at hl 0 rfl) ?_
    refine sn_getC (r := 27) C hw fd_RX8_44 layC_0 rfl dX8_spreads_16 ?_
    obtain ⟨t_4, h_5, hf⟩ := sn_bd hf
    refine sn_callVv (rest := []) C hw (ctX0_copyFrom l sn_isX0_38 sn_isX0_27 h_5) kl_RX8_183 (sn_look sn_isX0_38 (k := 0) rfl) rfl rfl rfl rfl (Nat.le_of_ble_eq_true rfl) dX8_spreads_19 hl.1 (fun H locs hw => ?_)
    refine lv_aload_n hx hb dX8_spreads_22 rfl (lv_at hl 0 rfl) ?_
    refine sn_getC (r := 38) C hw fd_RX8_48 layC_0 rfl dX8_spreads_23 ?_
    refine sn_getC (r := (38 + 4)) C hw fd_RX8_196 (sn_look sn_isX0_38 (k := 0) rfl) rfl dX8_spreads_26 ?_
    refine lv_iload_n hx hb dX8_spreads_29 rfl (lv_at hl 1 rfl) ?_
    refine lv_aload_n hx hb dX8_spreads_30 rfl (lv_at hl 0 rfl) ?_
    refine sn_getC (r := 27) C hw fd_RX8_44 layC_0 rfl dX8_spreads_31 ?_
    refine sn_getI C hw fd_RX8_151 (sn_look sn_isX0_27 (k := 0) rfl) rfl dX8_spreads_34 ?_
    obtain ⟨t_6, h_7, hf⟩ := sn_bd hf
    refine sn_callSi (rest := [.int x1, .ref (ad (38 + 4))]) C hw (ctX8_firstMinutes l  h_7) kl_RX8_174 rfl rfl rfl (Nat.le_of_ble_eq_true rfl) dX8_spreads_37 hl.1 (fun H locs hw => ?_)
    obtain ⟨g_8, hf⟩ := sn_gdE hf
    refine sn_iast C hw (sn_look sn_isX0_38 (k := 4) rfl) g_8 dX8_spreads_40 (fun H locs hw => ?_)
    obtain ⟨σ_9, e_10, hf⟩ := sn_ltE hf
    rw [← e_10] at hw
    refine lv_aload_n hx hb dX8_spreads_41 rfl (lv_at hl 0 rfl) ?_
    refine sn_getC (r := 38) C hw fd_RX8_48 layC_0 rfl dX8_spreads_42 ?_
    obtain ⟨t_11, h_12, hf⟩ := sn_bd hf
    refine sn_callVv (rest := []) C hw (ctX0_liveWhole l sn_isX0_38 h_12) kl_RX8_189 (sn_look sn_isX0_38 (k := 0) rfl) rfl rfl rfl rfl (Nat.le_of_ble_eq_true rfl) dX8_spreads_45 hl.1 (fun H locs hw => ?_)
    refine lv_iconst (v := 0) hx hb dX8_spreads_48 rfl ?_
    refine lv_istore_n (lv' := [(2, .int (0 : Int32)), (0, .ref (ad 0)), (1, .int x1)]) hx hb dX8_spreads_49 rfl hl (by decide) rfl (fun ls hl => ?_)
    refine lv_iconst (v := 0) hx hb dX8_spreads_50 rfl ?_
    refine lv_istore_n (lv' := [(3, .int (0 : Int32)), (2, .int (0 : Int32)), (0, .ref (ad 0)), (1, .int x1)]) hx hb dX8_spreads_51 rfl hl (by decide) rfl (fun ls hl => ?_)
    obtain ⟨t_13, h_14, hf⟩ := sn_bd hf
    exact wX8_spreads_L52 C  h_14 (fun v e => by cases e; exact wX8_spreads_107 C  hf kr) _ _ _ hw (lv_sub hl [2, 3, 1, 0] rfl)
  · have hf := sn_if c_3 hf
    refine lv_bipush (v := (-2)) hx hb dX8_spreads_8 (by decide) ?_
    cases hf
    exact kr _ _ _ _ hw rfl dX8_spreads_10
theorem ctX8_spreads (l : Launch) {σ : sn_S} {x1 : Int32}  {o : (Int32 × sn_S)} (hf : fX8_spreads σ x1 = some o) : sn_M l yX8_spreads cX8_spreads 4 (some .int) rmX8_spreads layC (fun ad => [.ref (ad 0), .int x1]) σ (some (fun _ => .int o.1)) o.2 :=
  sn_met (by decide) (fun _ => Nat.le_of_ble_eq_true rfl) (fun p e s m args below meth c ls D ct ad A C hw hl => wX8_spreads_in C  hf (fun H locs ls pc hw ok hd => sn_iret C hw hd) _ _ _ hw hl)
-- X8_web
abbrev rmX8_web : Room := { frames := 1, cells := 0, slots := 0, locals := 23 }
def BX8_web_79 (σ : sn_S) (x2 : Int32) : Option (Int32) :=
  (some x2)
def BX8_web_70 (σ : sn_S) (x2 : Int32) (x3 : Int32) (x4 : Int32) : Option ((Int32 × Int32) ⊕ (Int32)) :=
  (sn_lt (x3 + 1) fun y_1 => (some (.inl (x4, y_1))))
def BX8_web_64 (σ : sn_S) (x2 : Int32) (x3 : Int32) (x4 : Int32) (x5 : Int32) : Option ((Int32 × Int32) ⊕ (Int32)) :=
  (sn_lt (x5 + 1) fun y_1 => (some (.inl (x4, y_1))))
def BX8_web_29 (σ : sn_S) (x2 : Int32) (x3 : Int32) (x4 : Int32) (x5 : Int32) : Option ((Int32 × Int32) ⊕ (Int32)) :=
  (if (sn_I σ 27 1) ≤ x5 then
  (some (.inr (x4)))
  else
  ((fX8_hasBit x2 x5).bind fun t_2 => (if t_2 = 0 then
  (BX8_web_64 σ x2 x3 x4 x5)
  else
  ((fX2_neighbours σ 1 x5).bind fun t_5 => (sn_lt (x4 ||| t_5) fun y_7 => (BX8_web_64 σ x2 x3 y_7 x5))))))
def LX8_web_29 (σ : sn_S) (x2 : Int32) (x3 : Int32) (s : Int32 × Int32) : Option ((Int32 × Int32) ⊕ (Int32)) := BX8_web_29 σ x2 x3 s.1 s.2
def BX8_web_17 (σ : sn_S) (x2 : Int32) (x3 : Int32) : Option ((Int32 × Int32) ⊕ (Int32)) :=
  (if (6 : Int32) ≤ x3 then
  (some (.inr (x2)))
  else
  ((sn_it (LX8_web_29 σ x2 x3) 5000 (x2, (0 : Int32))).bind fun t_2 => (BX8_web_70 σ x2 x3 t_2)))
def LX8_web_17 (σ : sn_S) (s : Int32 × Int32) : Option ((Int32 × Int32) ⊕ (Int32)) := BX8_web_17 σ s.1 s.2
def fX8_web (σ : sn_S) (x1 : Int32) : Option Int32 :=
  ((fX8_isPerson σ x1).bind fun t_1 => (if t_1 = 0 then
  (some (-2 : Int32))
  else
  (sn_lt ((1 : Int32) <<< (x1 &&& 31)) fun y_4 => ((sn_it (LX8_web_17 σ) 5000 (y_4, (1 : Int32))).bind fun t_6 => (BX8_web_79 σ t_6)))))
theorem wX8_web_79 (C : sn_C p s m args meth c RX8 cX8_web 6 (some .int) D ct ad layC A) {σ : sn_S} {x2 : Int32}  {o : Int32} (hf : BX8_web_79 σ x2 = some o) (kr : sn_Kr p l e rmX8_web s m args below meth c Q D ct ad layC A cX8_web .ireturn (true) σ [.int o]) : sn_At p l e rmX8_web s m args below meth c Q D ct ad layC A 6 σ 79 [(2, .int x2)] [] := by
  intro H locs ls hw hl
  have hx := C.1
  have hb := C.2.1
  unfold BX8_web_79 at hf
  refine lv_iload_n hx hb dX8_web_79 rfl (lv_at hl 0 rfl) ?_
  cases hf
  exact kr _ _ _ _ hw rfl dX8_web_80
theorem wX8_web_70 (C : sn_C p s m args meth c RX8 cX8_web 6 (some .int) D ct ad layC A) {σ : sn_S} {x2 : Int32} {x3 : Int32} {x4 : Int32}  {o : (Int32 × Int32) ⊕ (Int32)} (hf : BX8_web_70 σ x2 x3 x4 = some o) (kc : ∀ v, o = .inl v → sn_At p l e rmX8_web s m args below meth c Q D ct ad layC A 6 σ 17 [(0, .ref (ad 0)), (2, .int v.1), (3, .int v.2)] []) (kx : ∀ v, o = .inr v → sn_At p l e rmX8_web s m args below meth c Q D ct ad layC A 6 σ 79 [(2, .int v)] []) : sn_At p l e rmX8_web s m args below meth c Q D ct ad layC A 6 σ 70 [(0, .ref (ad 0)), (2, .int x2), (3, .int x3), (4, .int x4)] [] := by
  intro H locs ls hw hl
  have hx := C.1
  have hb := C.2.1
  unfold BX8_web_70 at hf
  refine lv_iload hx hb dX8_web_70 (lv_at hl 3 rfl) ?_
  refine lv_istore_n (lv' := [(2, .int x4), (0, .ref (ad 0)), (3, .int x3), (4, .int x4)]) hx hb dX8_web_72 rfl hl (by decide) rfl (fun ls hl => ?_)
  obtain ⟨y_1, e_2, hf⟩ := sn_ltE hf
  refine lv_iinc (v := y_1) (lv' := [(3, .int y_1), (2, .int x4), (0, .ref (ad 0)), (4, .int x4)]) hx hb dX8_web_73 hl (k := 2) rfl (by rw [e_2]; rfl) (by decide) rfl (fun ls hl => ?_)
  refine lv_goto (tgt := 17) hx hb dX8_web_76 (by decide) ?_
  cases hf
  exact kc _ rfl _ _ _ hw (lv_sub hl [2, 1, 0] rfl)
theorem wX8_web_64 (C : sn_C p s m args meth c RX8 cX8_web 6 (some .int) D ct ad layC A) {σ : sn_S} {x2 : Int32} {x3 : Int32} {x4 : Int32} {x5 : Int32}  {o : (Int32 × Int32) ⊕ (Int32)} (hf : BX8_web_64 σ x2 x3 x4 x5 = some o) (kc : ∀ v, o = .inl v → sn_At p l e rmX8_web s m args below meth c Q D ct ad layC A 6 σ 29 [(0, .ref (ad 0)), (2, .int x2), (3, .int x3), (4, .int v.1), (5, .int v.2)] []) (kx : ∀ v, o = .inr v → sn_At p l e rmX8_web s m args below meth c Q D ct ad layC A 6 σ 70 [(0, .ref (ad 0)), (2, .int x2), (3, .int x3), (4, .int v)] []) : sn_At p l e rmX8_web s m args below meth c Q D ct ad layC A 6 σ 64 [(0, .ref (ad 0)), (2, .int x2), (3, .int x3), (4, .int x4), (5, .int x5)] [] := by
  intro H locs ls hw hl
  have hx := C.1
  have hb := C.2.1
  unfold BX8_web_64 at hf
  obtain ⟨y_1, e_2, hf⟩ := sn_ltE hf
  refine lv_iinc (v := y_1) (lv' := [(5, .int y_1), (0, .ref (ad 0)), (2, .int x2), (3, .int x3), (4, .int x4)]) hx hb dX8_web_64 hl (k := 4) rfl (by rw [e_2]; rfl) (by decide) rfl (fun ls hl => ?_)
  refine lv_goto (tgt := 29) hx hb dX8_web_67 (by decide) ?_
  cases hf
  exact kc _ rfl _ _ _ hw (lv_sub hl [1, 2, 3, 4, 0] rfl)
theorem wX8_web_29 (C : sn_C p s m args meth c RX8 cX8_web 6 (some .int) D ct ad layC A) {σ : sn_S} {x2 : Int32} {x3 : Int32} {x4 : Int32} {x5 : Int32}  {o : (Int32 × Int32) ⊕ (Int32)} (hf : BX8_web_29 σ x2 x3 x4 x5 = some o) (kc : ∀ v, o = .inl v → sn_At p l e rmX8_web s m args below meth c Q D ct ad layC A 6 σ 29 [(0, .ref (ad 0)), (2, .int x2), (3, .int x3), (4, .int v.1), (5, .int v.2)] []) (kx : ∀ v, o = .inr v → sn_At p l e rmX8_web s m args below meth c Q D ct ad layC A 6 σ 70 [(0, .ref (ad 0)), (2, .int x2), (3, .int x3), (4, .int v)] []) : sn_At p l e rmX8_web s m args below meth c Q D ct ad layC A 6 σ 29 [(0, .ref (ad 0)), (2, .int x2), (3, .int x3), (4, .int x4), (5, .int x5)] [] := by
  intro H locs ls hw hl
  have hx := C.1
  have hb := C.2.1
  unfold BX8_web_29 at hf
  refine lv_iload hx hb dX8_web_29 (lv_at hl 4 rfl) ?_
  refine lv_aload_n hx hb dX8_web_31 rfl (lv_at hl 0 rfl) ?_
  refine sn_getC (r := 27) C hw fd_RX8_44 layC_0 rfl dX8_web_32 ?_
  refine sn_getI C hw fd_RX8_162 (sn_look sn_isX0_27 (k := 0) rfl) rfl dX8_web_35 ?_
  refine lv_icmp_ge (tgt := 70) hx hb dX8_web_38 (by decide) (fun c_1 => ?_) (fun c_1 => ?_)
  · have hf := sn_if c_1 hf
    cases hf
    exact kx _ rfl _ _ _ hw (lv_sub hl [0, 1, 2, 3] rfl)
  · have hf := sn_el c_1 hf
    refine lv_iload_n hx hb dX8_web_41 rfl (lv_at hl 1 rfl) ?_
    refine lv_iload hx hb dX8_web_42 (lv_at hl 4 rfl) ?_
    obtain ⟨t_2, h_3, hf⟩ := sn_bd hf
    refine sn_callSi (rest := []) C hw (ctX8_hasBit l  h_3) kl_RX8_170 rfl rfl rfl (Nat.le_of_ble_eq_true rfl) dX8_web_44 hl.1 (fun H locs hw => ?_)
    refine lv_if_eq (tgt := 64) hx hb dX8_web_47 (by decide) (fun c_4 => ?_) (fun c_4 => ?_)
    · have hf := sn_if c_4 hf
      exact wX8_web_64 C  hf kc kx _ _ _ hw (lv_sub hl [0, 1, 2, 3, 4] rfl)
    · have hf := sn_el c_4 hf
      refine lv_iload hx hb dX8_web_50 (lv_at hl 3 rfl) ?_
      refine lv_aload_n hx hb dX8_web_52 rfl (lv_at hl 0 rfl) ?_
      refine sn_getC (r := 1) C hw fd_RX8_10 layC_0 rfl dX8_web_53 ?_
      refine lv_iload hx hb dX8_web_56 (lv_at hl 4 rfl) ?_
      obtain ⟨t_5, h_6, hf⟩ := sn_bd hf
      refine sn_callVi (rest := [.int x4]) C hw (ctX2_neighbours l sn_isX2_1 h_6) kl_RX8_121 (sn_look sn_isX2_1 (k := 0) rfl) rfl rfl rfl rfl (Nat.le_of_ble_eq_true rfl) dX8_web_58 hl.1 (fun H locs hw => ?_)
      refine lv_ior hx hb dX8_web_61 ?_
      obtain ⟨y_7, e_8, hf⟩ := sn_ltE hf
      refine lv_topi (fun y_7_ e_8_ => ?_)
      obtain rfl : y_7 = y_7_ := e_8.trans e_8_.symm
      refine lv_istore (lv' := [(4, .int y_7), (0, .ref (ad 0)), (2, .int x2), (3, .int x3), (5, .int x5)]) hx hb dX8_web_62 hl (by decide) rfl (fun ls hl => ?_)
      exact wX8_web_64 C  hf kc kx _ _ _ hw (lv_sub hl [1, 2, 3, 0, 4] rfl)
theorem wX8_web_L29 (C : sn_C p s m args meth c RX8 cX8_web 6 (some .int) D ct ad layC A) {σ : sn_S} {x2 : Int32} {x3 : Int32}   {z : Int32 × Int32} {t : Int32} (h : sn_it (LX8_web_29 σ x2 x3) 5000 z = some t) (kx : ∀ v, t = v → sn_At p l e rmX8_web s m args below meth c Q D ct ad layC A 6 σ 70 [(0, .ref (ad 0)), (2, .int x2), (3, .int x3), (4, .int v)] []) : sn_At p l e rmX8_web s m args below meth c Q D ct ad layC A 6 σ 29 [(0, .ref (ad 0)), (2, .int x2), (3, .int x3), (4, .int z.1), (5, .int z.2)] [] :=
  sn_loop (f := LX8_web_29 σ x2 x3) (G := fun z => sn_At p l e rmX8_web s m args below meth c Q D ct ad layC A 6 σ 29 [(0, .ref (ad 0)), (2, .int x2), (3, .int x3), (4, .int z.1), (5, .int z.2)] []) (E := fun t => (∀ v, t = v → sn_At p l e rmX8_web s m args below meth c Q D ct ad layC A 6 σ 70 [(0, .ref (ad 0)), (2, .int x2), (3, .int x3), (4, .int v)] []) ∧ True) (fun z o hf k1 k2 => wX8_web_29 C  hf (fun v e => k1 v e) (fun v e => (k2 _ e).1 v rfl)) 5000 z t h ⟨kx, trivial⟩
theorem wX8_web_17 (C : sn_C p s m args meth c RX8 cX8_web 6 (some .int) D ct ad layC A) {σ : sn_S} {x2 : Int32} {x3 : Int32}  {o : (Int32 × Int32) ⊕ (Int32)} (hf : BX8_web_17 σ x2 x3 = some o) (kc : ∀ v, o = .inl v → sn_At p l e rmX8_web s m args below meth c Q D ct ad layC A 6 σ 17 [(0, .ref (ad 0)), (2, .int v.1), (3, .int v.2)] []) (kx : ∀ v, o = .inr v → sn_At p l e rmX8_web s m args below meth c Q D ct ad layC A 6 σ 79 [(2, .int v)] []) : sn_At p l e rmX8_web s m args below meth c Q D ct ad layC A 6 σ 17 [(0, .ref (ad 0)), (2, .int x2), (3, .int x3)] [] := by
  intro H locs ls hw hl
  have hx := C.1
  have hb := C.2.1
  unfold BX8_web_17 at hf
  refine lv_iload_n hx hb dX8_web_17 rfl (lv_at hl 2 rfl) ?_
  refine lv_bipush (v := 6) hx hb dX8_web_18 (by decide) ?_
  refine lv_icmp_ge (tgt := 79) hx hb dX8_web_20 (by decide) (fun c_1 => ?_) (fun c_1 => ?_)
  · have hf := sn_if c_1 hf
    cases hf
    exact kx _ rfl _ _ _ hw (lv_sub hl [1] rfl)
  · have hf := sn_el c_1 hf
    refine lv_iload_n hx hb dX8_web_23 rfl (lv_at hl 1 rfl) ?_
    refine lv_istore (lv' := [(4, .int x2), (0, .ref (ad 0)), (2, .int x2), (3, .int x3)]) hx hb dX8_web_24 hl (by decide) rfl (fun ls hl => ?_)
    refine lv_iconst (v := 0) hx hb dX8_web_26 rfl ?_
    refine lv_istore (lv' := [(5, .int (0 : Int32)), (4, .int x2), (0, .ref (ad 0)), (2, .int x2), (3, .int x3)]) hx hb dX8_web_27 hl (by decide) rfl (fun ls hl => ?_)
    obtain ⟨t_2, h_3, hf⟩ := sn_bd hf
    exact wX8_web_L29 C  h_3 (fun v e => by cases e; exact wX8_web_70 C  hf kc kx) _ _ _ hw (lv_sub hl [2, 3, 4, 1, 0] rfl)
theorem wX8_web_L17 (C : sn_C p s m args meth c RX8 cX8_web 6 (some .int) D ct ad layC A) {σ : sn_S}   {z : Int32 × Int32} {t : Int32} (h : sn_it (LX8_web_17 σ) 5000 z = some t) (kx : ∀ v, t = v → sn_At p l e rmX8_web s m args below meth c Q D ct ad layC A 6 σ 79 [(2, .int v)] []) : sn_At p l e rmX8_web s m args below meth c Q D ct ad layC A 6 σ 17 [(0, .ref (ad 0)), (2, .int z.1), (3, .int z.2)] [] :=
  sn_loop (f := LX8_web_17 σ) (G := fun z => sn_At p l e rmX8_web s m args below meth c Q D ct ad layC A 6 σ 17 [(0, .ref (ad 0)), (2, .int z.1), (3, .int z.2)] []) (E := fun t => (∀ v, t = v → sn_At p l e rmX8_web s m args below meth c Q D ct ad layC A 6 σ 79 [(2, .int v)] []) ∧ True) (fun z o hf k1 k2 => wX8_web_17 C  hf (fun v e => k1 v e) (fun v e => (k2 _ e).1 v rfl)) 5000 z t h ⟨kx, trivial⟩
theorem wX8_web_in (C : sn_C p s m args meth c RX8 cX8_web 6 (some .int) D ct ad layC A) {σ : sn_S} {x1 : Int32}  {o : Int32} (hf : fX8_web σ x1 = some o) (kr : sn_Kr p l e rmX8_web s m args below meth c Q D ct ad layC A cX8_web .ireturn (true) σ [.int o]) : sn_At p l e rmX8_web s m args below meth c Q D ct ad layC A 6 σ 0 [(0, .ref (ad 0)), (1, .int x1)] [] := by
  intro H locs ls hw hl
  have hx := C.1
  have hb := C.2.1
  unfold fX8_web at hf
  refine lv_aload_n hx hb dX8_web_0 rfl (lv_at hl 0 rfl) ?_
  refine lv_iload_n hx hb dX8_web_1 rfl (lv_at hl 1 rfl) ?_
  obtain ⟨t_1, h_2, hf⟩ := sn_bd hf
  refine sn_callVi (rest := []) C hw (ctX8_isPerson l  h_2) kl_RX8_107 layC_0 rfl rfl rfl rfl (Nat.le_of_ble_eq_true rfl) dX8_web_2 hl.1 (fun H locs hw => ?_)
  refine lv_if_ne (tgt := 11) hx hb dX8_web_5 (by decide) (fun c_3 => ?_) (fun c_3 => ?_)
  · have hf := sn_el c_3 hf
    refine lv_iconst (v := 1) hx hb dX8_web_11 rfl ?_
    refine lv_iload_n hx hb dX8_web_12 rfl (lv_at hl 1 rfl) ?_
    refine lv_ishl hx hb dX8_web_13 ?_
    obtain ⟨y_4, e_5, hf⟩ := sn_ltE hf
    refine lv_topi (fun y_4_ e_5_ => ?_)
    obtain rfl : y_4 = y_4_ := e_5.trans e_5_.symm
    refine lv_istore_n (lv' := [(2, .int y_4), (0, .ref (ad 0)), (1, .int x1)]) hx hb dX8_web_14 rfl hl (by decide) rfl (fun ls hl => ?_)
    refine lv_iconst (v := 1) hx hb dX8_web_15 rfl ?_
    refine lv_istore_n (lv' := [(3, .int (1 : Int32)), (2, .int y_4), (0, .ref (ad 0)), (1, .int x1)]) hx hb dX8_web_16 rfl hl (by decide) rfl (fun ls hl => ?_)
    obtain ⟨t_6, h_7, hf⟩ := sn_bd hf
    exact wX8_web_L17 C  h_7 (fun v e => by cases e; exact wX8_web_79 C  hf kr) _ _ _ hw (lv_sub hl [2, 1, 0] rfl)
  · have hf := sn_if c_3 hf
    refine lv_bipush (v := (-2)) hx hb dX8_web_8 (by decide) ?_
    cases hf
    exact kr _ _ _ _ hw rfl dX8_web_10
theorem ctX8_web (l : Launch) {σ : sn_S} {x1 : Int32}  {o : Int32} (hf : fX8_web σ x1 = some o) : sn_M l yX8_web cX8_web 6 (some .int) rmX8_web layC (fun ad => [.ref (ad 0), .int x1]) σ (some (fun _ => .int o)) σ :=
  sn_met (by decide) (fun _ => Nat.le_of_ble_eq_true rfl) (fun p e s m args below meth c ls D ct ad A C hw hl => wX8_web_in C  hf (fun H locs ls pc hw ok hd => sn_iret C hw hd) _ _ _ hw hl)
-- X8_isNet
abbrev rmX8_isNet : Room := { frames := 0, cells := 0, slots := 0, locals := 0 }
def fX8_isNet (σ : sn_S) (x1 : Int32) : Option Int32 :=
  (if x1 < 0 then
  (sn_gd (sn_b01 (0 : Int32)) (some (0 : Int32)))
  else
  (sn_gd (sn_in (7 : Int32) 11) (if (sn_I σ (1 + 1) (7 : Int32).toNatClampNeg) ≤ x1 then
  (sn_gd (sn_b01 (0 : Int32)) (some (0 : Int32)))
  else
  (sn_gd (sn_b01 (1 : Int32)) (some (1 : Int32))))))
theorem wX8_isNet_in (C : sn_C p s m args meth c RX8 cX8_isNet 2 (some .boolean) D ct ad layC A) {σ : sn_S} {x1 : Int32}  {o : Int32} (hf : fX8_isNet σ x1 = some o) (kr : sn_Kr p l e rmX8_isNet s m args below meth c Q D ct ad layC A cX8_isNet .ireturn (sn_b01 o) σ [.int o]) : sn_At p l e rmX8_isNet s m args below meth c Q D ct ad layC A 2 σ 0 [(0, .ref (ad 0)), (1, .int x1)] [] := by
  intro H locs ls hw hl
  have hx := C.1
  have hb := C.2.1
  unfold fX8_isNet at hf
  refine lv_iload_n hx hb dX8_isNet_0 rfl (lv_at hl 1 rfl) ?_
  refine lv_if_lt (tgt := 22) hx hb dX8_isNet_1 (by decide) (fun c_1 => ?_) (fun c_1 => ?_)
  · have hf := sn_if c_1 hf
    refine lv_iconst (v := 0) hx hb dX8_isNet_22 rfl ?_
    obtain ⟨g_2, hf⟩ := sn_gdE hf
    cases hf
    exact kr _ _ _ _ hw g_2 dX8_isNet_23
  · have hf := sn_el c_1 hf
    refine lv_iload_n hx hb dX8_isNet_4 rfl (lv_at hl 1 rfl) ?_
    refine lv_aload_n hx hb dX8_isNet_5 rfl (lv_at hl 0 rfl) ?_
    refine sn_getC (r := 1) C hw fd_RX8_10 layC_0 rfl dX8_isNet_6 ?_
    refine sn_getC (r := (1 + 1)) C hw fd_RX8_100 (sn_look sn_isX2_1 (k := 0) rfl) rfl dX8_isNet_9 ?_
    refine lv_bipush (v := 7) hx hb dX8_isNet_12 (by decide) ?_
    obtain ⟨g_3, hf⟩ := sn_gdE hf
    refine sn_iald C hw (sn_look sn_isX2_1 (k := 1) rfl) g_3 dX8_isNet_14 ?_
    refine lv_icmp_ge (tgt := 22) hx hb dX8_isNet_15 (by decide) (fun c_4 => ?_) (fun c_4 => ?_)
    · have hf := sn_if c_4 hf
      refine lv_iconst (v := 0) hx hb dX8_isNet_22 rfl ?_
      obtain ⟨g_5, hf⟩ := sn_gdE hf
      cases hf
      exact kr _ _ _ _ hw g_5 dX8_isNet_23
    · have hf := sn_el c_4 hf
      refine lv_iconst (v := 1) hx hb dX8_isNet_18 rfl ?_
      refine lv_goto (tgt := 23) hx hb dX8_isNet_19 (by decide) ?_
      obtain ⟨g_6, hf⟩ := sn_gdE hf
      cases hf
      exact kr _ _ _ _ hw g_6 dX8_isNet_23
theorem ctX8_isNet (l : Launch) {σ : sn_S} {x1 : Int32}  {o : Int32} (hf : fX8_isNet σ x1 = some o) : sn_M l yX8_isNet cX8_isNet 2 (some .boolean) rmX8_isNet layC (fun ad => [.ref (ad 0), .int x1]) σ (some (fun _ => .int o)) σ :=
  sn_met (by decide) (fun _ => Nat.le_of_ble_eq_true rfl) (fun p e s m args below meth c ls D ct ad A C hw hl => wX8_isNet_in C  hf (fun H locs ls pc hw ok hd => sn_zret C hw ok hd) _ _ _ hw hl)
-- X8_totalWithout
abbrev rmX8_totalWithout : Room := { frames := 5, cells := 0, slots := 0, locals := 113 }
def fX8_totalWithout (σ : sn_S) (x1 : Int32) : Option (Int32 × sn_S) :=
  ((fX0_copyFrom σ 38 27).bind fun t_1 => (sn_lt (sn_pI t_1 38 3 x1) fun σ_3 => ((fX0_liveWhole σ_3 38).bind fun t_5 => ((fX0_total t_5 38).bind fun t_7 => (some (t_7, t_5))))))
theorem wX8_totalWithout_in (C : sn_C p s m args meth c RX8 cX8_totalWithout 2 (some .int) D ct ad layC A) {σ : sn_S} {x1 : Int32}  {o : (Int32 × sn_S)} (hf : fX8_totalWithout σ x1 = some o) (kr : sn_Kr p l e rmX8_totalWithout s m args below meth c Q D ct ad layC A cX8_totalWithout .ireturn (true) o.2 [.int o.1]) : sn_At p l e rmX8_totalWithout s m args below meth c Q D ct ad layC A 2 σ 0 [(0, .ref (ad 0)), (1, .int x1)] [] := by
  intro H locs ls hw hl
  have hx := C.1
  have hb := C.2.1
  unfold fX8_totalWithout at hf
  refine lv_aload_n hx hb dX8_totalWithout_0 rfl (lv_at hl 0 rfl) ?_
  refine sn_getC (r := 38) C hw fd_RX8_48 layC_0 rfl dX8_totalWithout_1 ?_
  refine lv_aload_n hx hb dX8_totalWithout_4 rfl (lv_at hl 0 rfl) ?_
  refine sn_getC (r := 27) C hw fd_RX8_44 layC_0 rfl dX8_totalWithout_5 ?_
  obtain ⟨t_1, h_2, hf⟩ := sn_bd hf
  refine sn_callVv (rest := []) C hw (ctX0_copyFrom l sn_isX0_38 sn_isX0_27 h_2) kl_RX8_183 (sn_look sn_isX0_38 (k := 0) rfl) rfl rfl rfl rfl (Nat.le_of_ble_eq_true rfl) dX8_totalWithout_8 hl.1 (fun H locs hw => ?_)
  refine lv_aload_n hx hb dX8_totalWithout_11 rfl (lv_at hl 0 rfl) ?_
  refine sn_getC (r := 38) C hw fd_RX8_48 layC_0 rfl dX8_totalWithout_12 ?_
  refine lv_iload_n hx hb dX8_totalWithout_15 rfl (lv_at hl 1 rfl) ?_
  refine sn_putI C hw fp_RX8_205 (sn_look sn_isX0_38 (k := 0) rfl) rfl dX8_totalWithout_16 (fun H locs hw => ?_)
  obtain ⟨σ_3, e_4, hf⟩ := sn_ltE hf
  rw [← e_4] at hw
  refine lv_aload_n hx hb dX8_totalWithout_19 rfl (lv_at hl 0 rfl) ?_
  refine sn_getC (r := 38) C hw fd_RX8_48 layC_0 rfl dX8_totalWithout_20 ?_
  obtain ⟨t_5, h_6, hf⟩ := sn_bd hf
  refine sn_callVv (rest := []) C hw (ctX0_liveWhole l sn_isX0_38 h_6) kl_RX8_189 (sn_look sn_isX0_38 (k := 0) rfl) rfl rfl rfl rfl (Nat.le_of_ble_eq_true rfl) dX8_totalWithout_23 hl.1 (fun H locs hw => ?_)
  refine lv_aload_n hx hb dX8_totalWithout_26 rfl (lv_at hl 0 rfl) ?_
  refine sn_getC (r := 38) C hw fd_RX8_48 layC_0 rfl dX8_totalWithout_27 ?_
  obtain ⟨t_7, h_8, hf⟩ := sn_bd hf
  refine sn_callVi (rest := []) C hw (ctX0_total l sn_isX0_38 h_8) kl_RX8_141 (sn_look sn_isX0_38 (k := 0) rfl) rfl rfl rfl rfl (Nat.le_of_ble_eq_true rfl) dX8_totalWithout_30 hl.1 (fun H locs hw => ?_)
  cases hf
  exact kr _ _ _ _ hw rfl dX8_totalWithout_33
theorem ctX8_totalWithout (l : Launch) {σ : sn_S} {x1 : Int32}  {o : (Int32 × sn_S)} (hf : fX8_totalWithout σ x1 = some o) : sn_M l yX8_totalWithout cX8_totalWithout 2 (some .int) rmX8_totalWithout layC (fun ad => [.ref (ad 0), .int x1]) σ (some (fun _ => .int o.1)) o.2 :=
  sn_met (by decide) (fun _ => Nat.le_of_ble_eq_true rfl) (fun p e s m args below meth c ls D ct ad A C hw hl => wX8_totalWithout_in C  hf (fun H locs ls pc hw ok hd => sn_iret C hw hd) _ _ _ hw hl)
-- X8_cut
abbrev rmX8_cut : Room := { frames := 6, cells := 0, slots := 0, locals := 134 }
def fX8_cut (σ : sn_S) (x1 : Int32) : Option (Int32 × sn_S) :=
  ((fX8_isNet σ x1).bind fun t_1 => (if t_1 = 0 then
  (some ((-2 : Int32), σ))
  else
  ((fX8_totalWithout σ x1).bind fun t_4 => (some (t_4.1, t_4.2)))))
theorem wX8_cut_in (C : sn_C p s m args meth c RX8 cX8_cut 2 (some .int) D ct ad layC A) {σ : sn_S} {x1 : Int32}  {o : (Int32 × sn_S)} (hf : fX8_cut σ x1 = some o) (kr : sn_Kr p l e rmX8_cut s m args below meth c Q D ct ad layC A cX8_cut .ireturn (true) o.2 [.int o.1]) : sn_At p l e rmX8_cut s m args below meth c Q D ct ad layC A 2 σ 0 [(0, .ref (ad 0)), (1, .int x1)] [] := by
  intro H locs ls hw hl
  have hx := C.1
  have hb := C.2.1
  unfold fX8_cut at hf
  refine lv_aload_n hx hb dX8_cut_0 rfl (lv_at hl 0 rfl) ?_
  refine lv_iload_n hx hb dX8_cut_1 rfl (lv_at hl 1 rfl) ?_
  obtain ⟨t_1, h_2, hf⟩ := sn_bd hf
  refine sn_callVi (rest := []) C hw (ctX8_isNet l  h_2) kl_RX8_199 layC_0 rfl rfl rfl rfl (Nat.le_of_ble_eq_true rfl) dX8_cut_2 hl.1 (fun H locs hw => ?_)
  refine lv_if_eq (tgt := 16) hx hb dX8_cut_5 (by decide) (fun c_3 => ?_) (fun c_3 => ?_)
  · have hf := sn_if c_3 hf
    refine lv_bipush (v := (-2)) hx hb dX8_cut_16 (by decide) ?_
    cases hf
    exact kr _ _ _ _ hw rfl dX8_cut_18
  · have hf := sn_el c_3 hf
    refine lv_aload_n hx hb dX8_cut_8 rfl (lv_at hl 0 rfl) ?_
    refine lv_iload_n hx hb dX8_cut_9 rfl (lv_at hl 1 rfl) ?_
    obtain ⟨t_4, h_5, hf⟩ := sn_bd hf
    refine sn_callVi (rest := []) C hw (ctX8_totalWithout l  h_5) kl_RX8_202 layC_0 rfl rfl rfl rfl (Nat.le_of_ble_eq_true rfl) dX8_cut_10 hl.1 (fun H locs hw => ?_)
    refine lv_goto (tgt := 18) hx hb dX8_cut_13 (by decide) ?_
    cases hf
    exact kr _ _ _ _ hw rfl dX8_cut_18
theorem ctX8_cut (l : Launch) {σ : sn_S} {x1 : Int32}  {o : (Int32 × sn_S)} (hf : fX8_cut σ x1 = some o) : sn_M l yX8_cut cX8_cut 2 (some .int) rmX8_cut layC (fun ad => [.ref (ad 0), .int x1]) σ (some (fun _ => .int o.1)) o.2 :=
  sn_met (by decide) (fun _ => Nat.le_of_ble_eq_true rfl) (fun p e s m args below meth c ls D ct ad A C hw hl => wX8_cut_in C  hf (fun H locs ls pc hw ok hd => sn_iret C hw hd) _ _ _ hw hl)
-- X8_cuts
abbrev rmX8_cuts : Room := { frames := 6, cells := 0, slots := 0, locals := 134 }
def BX8_cuts_60 (σ : sn_S) (x1 : Int32) : Option ((Int32 × sn_S)) :=
  (some (x1, σ))
def BX8_cuts_54 (σ : sn_S) (x1 : Int32) (x2 : Int32) (x3 : Int32) : Option ((sn_S × Int32 × Int32 × Int32) ⊕ (sn_S × Int32)) :=
  (sn_lt (x3 + 1) fun y_1 => (some (.inl (σ, x1, x2, y_1))))
def BX8_cuts_22 (σ : sn_S) (x1 : Int32) (x2 : Int32) (x3 : Int32) : Option ((sn_S × Int32 × Int32 × Int32) ⊕ (sn_S × Int32)) :=
  (sn_gd (sn_in (7 : Int32) 11) (if (sn_I σ (1 + 1) (7 : Int32).toNatClampNeg) ≤ x3 then
  (some (.inr (σ, x1)))
  else
  ((fX8_totalWithout σ x3).bind fun t_3 => (if x2 ≤ t_3.1 then
  (BX8_cuts_54 t_3.2 x1 x2 x3)
  else
  (BX8_cuts_54 t_3.2 x3 t_3.1 x3)))))
def LX8_cuts_22  (s : sn_S × Int32 × Int32 × Int32) : Option ((sn_S × Int32 × Int32 × Int32) ⊕ (sn_S × Int32)) := BX8_cuts_22 s.1 s.2.1 s.2.2.1 s.2.2.2
def fX8_cuts (σ : sn_S) : Option (Int32 × sn_S) :=
  ((fX8_isHouse σ).bind fun t_1 => (if t_1 = 0 then
  (some ((-2 : Int32), σ))
  else
  ((fX0_total σ 27).bind fun t_4 => ((sn_it (LX8_cuts_22 ) 5000 (σ, (-1 : Int32), t_4, (0 : Int32))).bind fun t_6 => (BX8_cuts_60 t_6.1 t_6.2)))))
theorem wX8_cuts_60 (C : sn_C p s m args meth c RX8 cX8_cuts 5 (some .int) D ct ad layC A) {σ : sn_S} {x1 : Int32}  {o : (Int32 × sn_S)} (hf : BX8_cuts_60 σ x1 = some o) (kr : sn_Kr p l e rmX8_cuts s m args below meth c Q D ct ad layC A cX8_cuts .ireturn (true) o.2 [.int o.1]) : sn_At p l e rmX8_cuts s m args below meth c Q D ct ad layC A 5 σ 60 [(1, .int x1)] [] := by
  intro H locs ls hw hl
  have hx := C.1
  have hb := C.2.1
  unfold BX8_cuts_60 at hf
  refine lv_iload_n hx hb dX8_cuts_60 rfl (lv_at hl 0 rfl) ?_
  cases hf
  exact kr _ _ _ _ hw rfl dX8_cuts_61
theorem wX8_cuts_54 (C : sn_C p s m args meth c RX8 cX8_cuts 5 (some .int) D ct ad layC A) {σ : sn_S} {x1 : Int32} {x2 : Int32} {x3 : Int32}  {o : (sn_S × Int32 × Int32 × Int32) ⊕ (sn_S × Int32)} (hf : BX8_cuts_54 σ x1 x2 x3 = some o) (kc : ∀ v, o = .inl v → sn_At p l e rmX8_cuts s m args below meth c Q D ct ad layC A 5 v.1 22 [(0, .ref (ad 0)), (1, .int v.2.1), (2, .int v.2.2.1), (3, .int v.2.2.2)] []) (kx : ∀ v, o = .inr v → sn_At p l e rmX8_cuts s m args below meth c Q D ct ad layC A 5 v.1 60 [(1, .int v.2)] []) : sn_At p l e rmX8_cuts s m args below meth c Q D ct ad layC A 5 σ 54 [(0, .ref (ad 0)), (1, .int x1), (2, .int x2), (3, .int x3)] [] := by
  intro H locs ls hw hl
  have hx := C.1
  have hb := C.2.1
  unfold BX8_cuts_54 at hf
  obtain ⟨y_1, e_2, hf⟩ := sn_ltE hf
  refine lv_iinc (v := y_1) (lv' := [(3, .int y_1), (0, .ref (ad 0)), (1, .int x1), (2, .int x2)]) hx hb dX8_cuts_54 hl (k := 3) rfl (by rw [e_2]; rfl) (by decide) rfl (fun ls hl => ?_)
  refine lv_goto (tgt := 22) hx hb dX8_cuts_57 (by decide) ?_
  cases hf
  exact kc _ rfl _ _ _ hw (lv_sub hl [1, 2, 3, 0] rfl)
theorem wX8_cuts_22 (C : sn_C p s m args meth c RX8 cX8_cuts 5 (some .int) D ct ad layC A) {σ : sn_S} {x1 : Int32} {x2 : Int32} {x3 : Int32}  {o : (sn_S × Int32 × Int32 × Int32) ⊕ (sn_S × Int32)} (hf : BX8_cuts_22 σ x1 x2 x3 = some o) (kc : ∀ v, o = .inl v → sn_At p l e rmX8_cuts s m args below meth c Q D ct ad layC A 5 v.1 22 [(0, .ref (ad 0)), (1, .int v.2.1), (2, .int v.2.2.1), (3, .int v.2.2.2)] []) (kx : ∀ v, o = .inr v → sn_At p l e rmX8_cuts s m args below meth c Q D ct ad layC A 5 v.1 60 [(1, .int v.2)] []) : sn_At p l e rmX8_cuts s m args below meth c Q D ct ad layC A 5 σ 22 [(0, .ref (ad 0)), (1, .int x1), (2, .int x2), (3, .int x3)] [] := by
  intro H locs ls hw hl
  have hx := C.1
  have hb := C.2.1
  unfold BX8_cuts_22 at hf
  refine lv_iload_n hx hb dX8_cuts_22 rfl (lv_at hl 3 rfl) ?_
  refine lv_aload_n hx hb dX8_cuts_23 rfl (lv_at hl 0 rfl) ?_
  refine sn_getC (r := 1) C hw fd_RX8_10 layC_0 rfl dX8_cuts_24 ?_
  refine sn_getC (r := (1 + 1)) C hw fd_RX8_100 (sn_look sn_isX2_1 (k := 0) rfl) rfl dX8_cuts_27 ?_
  refine lv_bipush (v := 7) hx hb dX8_cuts_30 (by decide) ?_
  obtain ⟨g_1, hf⟩ := sn_gdE hf
  refine sn_iald C hw (sn_look sn_isX2_1 (k := 1) rfl) g_1 dX8_cuts_32 ?_
  refine lv_icmp_ge (tgt := 60) hx hb dX8_cuts_33 (by decide) (fun c_2 => ?_) (fun c_2 => ?_)
  · have hf := sn_if c_2 hf
    cases hf
    exact kx _ rfl _ _ _ hw (lv_sub hl [1] rfl)
  · have hf := sn_el c_2 hf
    refine lv_aload_n hx hb dX8_cuts_36 rfl (lv_at hl 0 rfl) ?_
    refine lv_iload_n hx hb dX8_cuts_37 rfl (lv_at hl 3 rfl) ?_
    obtain ⟨t_3, h_4, hf⟩ := sn_bd hf
    refine sn_callVi (rest := []) C hw (ctX8_totalWithout l  h_4) kl_RX8_202 layC_0 rfl rfl rfl rfl (Nat.le_of_ble_eq_true rfl) dX8_cuts_38 hl.1 (fun H locs hw => ?_)
    refine lv_istore (lv' := [(4, .int t_3.1), (0, .ref (ad 0)), (1, .int x1), (2, .int x2), (3, .int x3)]) hx hb dX8_cuts_41 hl (by decide) rfl (fun ls hl => ?_)
    refine lv_iload hx hb dX8_cuts_43 (lv_at hl 0 rfl) ?_
    refine lv_iload_n hx hb dX8_cuts_45 rfl (lv_at hl 3 rfl) ?_
    refine lv_icmp_ge (tgt := 54) hx hb dX8_cuts_46 (by decide) (fun c_5 => ?_) (fun c_5 => ?_)
    · have hf := sn_if c_5 hf
      exact wX8_cuts_54 C  hf kc kx _ _ _ hw (lv_sub hl [1, 2, 3, 4] rfl)
    · have hf := sn_el c_5 hf
      refine lv_iload hx hb dX8_cuts_49 (lv_at hl 0 rfl) ?_
      refine lv_istore_n (lv' := [(2, .int t_3.1), (4, .int t_3.1), (0, .ref (ad 0)), (1, .int x1), (3, .int x3)]) hx hb dX8_cuts_51 rfl hl (by decide) rfl (fun ls hl => ?_)
      refine lv_iload_n hx hb dX8_cuts_52 rfl (lv_at hl 4 rfl) ?_
      refine lv_istore_n (lv' := [(1, .int x3), (2, .int t_3.1), (4, .int t_3.1), (0, .ref (ad 0)), (3, .int x3)]) hx hb dX8_cuts_53 rfl hl (by decide) rfl (fun ls hl => ?_)
      exact wX8_cuts_54 C  hf kc kx _ _ _ hw (lv_sub hl [3, 0, 1, 4] rfl)
theorem wX8_cuts_L22 (C : sn_C p s m args meth c RX8 cX8_cuts 5 (some .int) D ct ad layC A)    {z : sn_S × Int32 × Int32 × Int32} {t : sn_S × Int32} (h : sn_it (LX8_cuts_22 ) 5000 z = some t) (kx : ∀ v, t = v → sn_At p l e rmX8_cuts s m args below meth c Q D ct ad layC A 5 v.1 60 [(1, .int v.2)] []) : sn_At p l e rmX8_cuts s m args below meth c Q D ct ad layC A 5 z.1 22 [(0, .ref (ad 0)), (1, .int z.2.1), (2, .int z.2.2.1), (3, .int z.2.2.2)] [] :=
  sn_loop (f := LX8_cuts_22 ) (G := fun z => sn_At p l e rmX8_cuts s m args below meth c Q D ct ad layC A 5 z.1 22 [(0, .ref (ad 0)), (1, .int z.2.1), (2, .int z.2.2.1), (3, .int z.2.2.2)] []) (E := fun t => (∀ v, t = v → sn_At p l e rmX8_cuts s m args below meth c Q D ct ad layC A 5 v.1 60 [(1, .int v.2)] []) ∧ True) (fun z o hf k1 k2 => wX8_cuts_22 C  hf (fun v e => k1 v e) (fun v e => (k2 _ e).1 v rfl)) 5000 z t h ⟨kx, trivial⟩
theorem wX8_cuts_in (C : sn_C p s m args meth c RX8 cX8_cuts 5 (some .int) D ct ad layC A) {σ : sn_S}  {o : (Int32 × sn_S)} (hf : fX8_cuts σ = some o) (kr : sn_Kr p l e rmX8_cuts s m args below meth c Q D ct ad layC A cX8_cuts .ireturn (true) o.2 [.int o.1]) : sn_At p l e rmX8_cuts s m args below meth c Q D ct ad layC A 5 σ 0 [(0, .ref (ad 0))] [] := by
  intro H locs ls hw hl
  have hx := C.1
  have hb := C.2.1
  unfold fX8_cuts at hf
  refine lv_aload_n hx hb dX8_cuts_0 rfl (lv_at hl 0 rfl) ?_
  obtain ⟨t_1, h_2, hf⟩ := sn_bd hf
  refine sn_callVi (rest := []) C hw (ctX8_isHouse l  h_2) kl_RX8_137 layC_0 rfl rfl rfl rfl (Nat.le_of_ble_eq_true rfl) dX8_cuts_1 hl.1 (fun H locs hw => ?_)
  refine lv_if_ne (tgt := 10) hx hb dX8_cuts_4 (by decide) (fun c_3 => ?_) (fun c_3 => ?_)
  · have hf := sn_el c_3 hf
    refine lv_iconst (v := (-1)) hx hb dX8_cuts_10 rfl ?_
    refine lv_istore_n (lv' := [(1, .int (-1 : Int32)), (0, .ref (ad 0))]) hx hb dX8_cuts_11 rfl hl (by decide) rfl (fun ls hl => ?_)
    refine lv_aload_n hx hb dX8_cuts_12 rfl (lv_at hl 1 rfl) ?_
    refine sn_getC (r := 27) C hw fd_RX8_44 layC_0 rfl dX8_cuts_13 ?_
    obtain ⟨t_4, h_5, hf⟩ := sn_bd hf
    refine sn_callVi (rest := []) C hw (ctX0_total l sn_isX0_27 h_5) kl_RX8_141 (sn_look sn_isX0_27 (k := 0) rfl) rfl rfl rfl rfl (Nat.le_of_ble_eq_true rfl) dX8_cuts_16 hl.1 (fun H locs hw => ?_)
    refine lv_istore_n (lv' := [(2, .int t_4), (1, .int (-1 : Int32)), (0, .ref (ad 0))]) hx hb dX8_cuts_19 rfl hl (by decide) rfl (fun ls hl => ?_)
    refine lv_iconst (v := 0) hx hb dX8_cuts_20 rfl ?_
    refine lv_istore_n (lv' := [(3, .int (0 : Int32)), (2, .int t_4), (1, .int (-1 : Int32)), (0, .ref (ad 0))]) hx hb dX8_cuts_21 rfl hl (by decide) rfl (fun ls hl => ?_)
    obtain ⟨t_6, h_7, hf⟩ := sn_bd hf
    exact wX8_cuts_L22 C  h_7 (fun v e => by cases e; exact wX8_cuts_60 C  hf kr) _ _ _ hw (lv_sub hl [3, 2, 1, 0] rfl)
  · have hf := sn_if c_3 hf
    refine lv_bipush (v := (-2)) hx hb dX8_cuts_7 (by decide) ?_
    cases hf
    exact kr _ _ _ _ hw rfl dX8_cuts_9
theorem ctX8_cuts (l : Launch) {σ : sn_S}  {o : (Int32 × sn_S)} (hf : fX8_cuts σ = some o) : sn_M l yX8_cuts cX8_cuts 5 (some .int) rmX8_cuts layC (fun ad => [.ref (ad 0)]) σ (some (fun _ => .int o.1)) o.2 :=
  sn_met (by decide) (fun _ => Nat.le_of_ble_eq_true rfl) (fun p e s m args below meth c ls D ct ad A C hw hl => wX8_cuts_in C  hf (fun H locs ls pc hw ok hd => sn_iret C hw hd) _ _ _ hw hl)
-- X8_ledgerNow
abbrev rmX8_ledgerNow : Room := { frames := 4, cells := 0, slots := 0, locals := 99 }
def fX8_ledgerNow (σ : sn_S) : Option sn_S :=
  (sn_gd (sn_in (2 : Int32) 11) ((fX3_reckon σ 49 1 27 (sn_I σ (1 + 1) (2 : Int32).toNatClampNeg)).bind fun t_2 => (some t_2)))
theorem wX8_ledgerNow_in (C : sn_C p s m args meth c RX8 cX8_ledgerNow 1 (some (.object "PepperPolicy$Ledger")) D ct ad layC A) {σ : sn_S}  {o : sn_S} (hf : fX8_ledgerNow σ = some o) (kr : sn_Kr p l e rmX8_ledgerNow s m args below meth c Q D ct ad layC A cX8_ledgerNow .areturn (true) o [.ref (ad 49)]) : sn_At p l e rmX8_ledgerNow s m args below meth c Q D ct ad layC A 1 σ 0 [(0, .ref (ad 0))] [] := by
  intro H locs ls hw hl
  have hx := C.1
  have hb := C.2.1
  unfold fX8_ledgerNow at hf
  refine lv_aload_n hx hb dX8_ledgerNow_0 rfl (lv_at hl 0 rfl) ?_
  refine sn_getC (r := 49) C hw fd_RX8_54 layC_0 rfl dX8_ledgerNow_1 ?_
  refine lv_aload_n hx hb dX8_ledgerNow_4 rfl (lv_at hl 0 rfl) ?_
  refine sn_getC (r := 1) C hw fd_RX8_10 layC_0 rfl dX8_ledgerNow_5 ?_
  refine lv_aload_n hx hb dX8_ledgerNow_8 rfl (lv_at hl 0 rfl) ?_
  refine sn_getC (r := 27) C hw fd_RX8_44 layC_0 rfl dX8_ledgerNow_9 ?_
  refine lv_aload_n hx hb dX8_ledgerNow_12 rfl (lv_at hl 0 rfl) ?_
  refine sn_getC (r := 1) C hw fd_RX8_10 layC_0 rfl dX8_ledgerNow_13 ?_
  refine sn_getC (r := (1 + 1)) C hw fd_RX8_100 (sn_look sn_isX2_1 (k := 0) rfl) rfl dX8_ledgerNow_16 ?_
  refine lv_iconst (v := 2) hx hb dX8_ledgerNow_19 rfl ?_
  obtain ⟨g_1, hf⟩ := sn_gdE hf
  refine sn_iald C hw (sn_look sn_isX2_1 (k := 1) rfl) g_1 dX8_ledgerNow_20 ?_
  obtain ⟨t_2, h_3, hf⟩ := sn_bd hf
  refine sn_callVv (rest := []) C hw (ctX3_reckon l sn_isX3_49 sn_isX2_1 sn_isX0_27 h_3) kl_RX8_234 (sn_look sn_isX3_49 (k := 0) rfl) rfl rfl rfl rfl (Nat.le_of_ble_eq_true rfl) dX8_ledgerNow_21 hl.1 (fun H locs hw => ?_)
  refine lv_aload_n hx hb dX8_ledgerNow_24 rfl (lv_at hl 0 rfl) ?_
  refine sn_getC (r := 49) C hw fd_RX8_54 layC_0 rfl dX8_ledgerNow_25 ?_
  cases hf
  exact kr _ _ _ _ hw rfl dX8_ledgerNow_28
theorem ctX8_ledgerNow (l : Launch) {σ : sn_S}  {o : sn_S} (hf : fX8_ledgerNow σ = some o) : sn_M l yX8_ledgerNow cX8_ledgerNow 1 (some (.object "PepperPolicy$Ledger")) rmX8_ledgerNow layC (fun ad => [.ref (ad 0)]) σ (some (fun ad => .ref (ad 49))) o :=
  sn_met (by decide) (fun _ => Nat.le_of_ble_eq_true rfl) (fun p e s m args below meth c ls D ct ad A C hw hl => wX8_ledgerNow_in C  hf (fun H locs ls pc hw ok hd => sn_aret C hw hd) _ _ _ hw hl)
-- X8_claim
abbrev rmX8_claim : Room := { frames := 5, cells := 0, slots := 0, locals := 119 }
def fX8_claim (σ : sn_S) (x1 : Int32) : Option (Int32 × sn_S) :=
  ((fX8_isPolicy σ x1).bind fun t_1 => (if t_1 = 0 then
  (some ((-2 : Int32), σ))
  else
  ((fX8_ledgerNow σ).bind fun t_4 => (sn_gd (sn_in x1 6) (some ((sn_I t_4 (49 + 1) x1.toNatClampNeg), t_4))))))
theorem wX8_claim_in (C : sn_C p s m args meth c RX8 cX8_claim 2 (some .int) D ct ad layC A) {σ : sn_S} {x1 : Int32}  {o : (Int32 × sn_S)} (hf : fX8_claim σ x1 = some o) (kr : sn_Kr p l e rmX8_claim s m args below meth c Q D ct ad layC A cX8_claim .ireturn (true) o.2 [.int o.1]) : sn_At p l e rmX8_claim s m args below meth c Q D ct ad layC A 2 σ 0 [(0, .ref (ad 0)), (1, .int x1)] [] := by
  intro H locs ls hw hl
  have hx := C.1
  have hb := C.2.1
  unfold fX8_claim at hf
  refine lv_aload_n hx hb dX8_claim_0 rfl (lv_at hl 0 rfl) ?_
  refine lv_iload_n hx hb dX8_claim_1 rfl (lv_at hl 1 rfl) ?_
  obtain ⟨t_1, h_2, hf⟩ := sn_bd hf
  refine sn_callVi (rest := []) C hw (ctX8_isPolicy l  h_2) kl_RX8_114 layC_0 rfl rfl rfl rfl (Nat.le_of_ble_eq_true rfl) dX8_claim_2 hl.1 (fun H locs hw => ?_)
  refine lv_if_eq (tgt := 20) hx hb dX8_claim_5 (by decide) (fun c_3 => ?_) (fun c_3 => ?_)
  · have hf := sn_if c_3 hf
    refine lv_bipush (v := (-2)) hx hb dX8_claim_20 (by decide) ?_
    cases hf
    exact kr _ _ _ _ hw rfl dX8_claim_22
  · have hf := sn_el c_3 hf
    refine lv_aload_n hx hb dX8_claim_8 rfl (lv_at hl 0 rfl) ?_
    obtain ⟨t_4, h_5, hf⟩ := sn_bd hf
    refine sn_callVr (rest := []) C hw (ctX8_ledgerNow l  h_5) kl_RX8_208 layC_0 rfl rfl rfl rfl (Nat.le_of_ble_eq_true rfl) dX8_claim_9 hl.1 (fun H locs hw => ?_)
    refine sn_getC (r := (49 + 1)) C hw fd_RX8_212 (sn_look sn_isX3_49 (k := 0) rfl) rfl dX8_claim_12 ?_
    refine lv_iload_n hx hb dX8_claim_15 rfl (lv_at hl 1 rfl) ?_
    obtain ⟨g_6, hf⟩ := sn_gdE hf
    refine sn_iald C hw (sn_look sn_isX3_49 (k := 1) rfl) g_6 dX8_claim_16 ?_
    refine lv_goto (tgt := 22) hx hb dX8_claim_17 (by decide) ?_
    cases hf
    exact kr _ _ _ _ hw rfl dX8_claim_22
theorem ctX8_claim (l : Launch) {σ : sn_S} {x1 : Int32}  {o : (Int32 × sn_S)} (hf : fX8_claim σ x1 = some o) : sn_M l yX8_claim cX8_claim 2 (some .int) rmX8_claim layC (fun ad => [.ref (ad 0), .int x1]) σ (some (fun _ => .int o.1)) o.2 :=
  sn_met (by decide) (fun _ => Nat.le_of_ble_eq_true rfl) (fun p e s m args below meth c ls D ct ad A C hw hl => wX8_claim_in C  hf (fun H locs ls pc hw ok hd => sn_iret C hw hd) _ _ _ hw hl)
-- X8_paid
abbrev rmX8_paid : Room := { frames := 5, cells := 0, slots := 0, locals := 119 }
def fX8_paid (σ : sn_S) (x1 : Int32) : Option (Int32 × sn_S) :=
  ((fX8_isPolicy σ x1).bind fun t_1 => (if t_1 = 0 then
  (some ((-2 : Int32), σ))
  else
  ((fX8_ledgerNow σ).bind fun t_4 => (sn_gd (sn_in x1 6) (some ((sn_I t_4 (49 + 2) x1.toNatClampNeg), t_4))))))
theorem wX8_paid_in (C : sn_C p s m args meth c RX8 cX8_paid 2 (some .int) D ct ad layC A) {σ : sn_S} {x1 : Int32}  {o : (Int32 × sn_S)} (hf : fX8_paid σ x1 = some o) (kr : sn_Kr p l e rmX8_paid s m args below meth c Q D ct ad layC A cX8_paid .ireturn (true) o.2 [.int o.1]) : sn_At p l e rmX8_paid s m args below meth c Q D ct ad layC A 2 σ 0 [(0, .ref (ad 0)), (1, .int x1)] [] := by
  intro H locs ls hw hl
  have hx := C.1
  have hb := C.2.1
  unfold fX8_paid at hf
  refine lv_aload_n hx hb dX8_paid_0 rfl (lv_at hl 0 rfl) ?_
  refine lv_iload_n hx hb dX8_paid_1 rfl (lv_at hl 1 rfl) ?_
  obtain ⟨t_1, h_2, hf⟩ := sn_bd hf
  refine sn_callVi (rest := []) C hw (ctX8_isPolicy l  h_2) kl_RX8_114 layC_0 rfl rfl rfl rfl (Nat.le_of_ble_eq_true rfl) dX8_paid_2 hl.1 (fun H locs hw => ?_)
  refine lv_if_eq (tgt := 20) hx hb dX8_paid_5 (by decide) (fun c_3 => ?_) (fun c_3 => ?_)
  · have hf := sn_if c_3 hf
    refine lv_bipush (v := (-2)) hx hb dX8_paid_20 (by decide) ?_
    cases hf
    exact kr _ _ _ _ hw rfl dX8_paid_22
  · have hf := sn_el c_3 hf
    refine lv_aload_n hx hb dX8_paid_8 rfl (lv_at hl 0 rfl) ?_
    obtain ⟨t_4, h_5, hf⟩ := sn_bd hf
    refine sn_callVr (rest := []) C hw (ctX8_ledgerNow l  h_5) kl_RX8_208 layC_0 rfl rfl rfl rfl (Nat.le_of_ble_eq_true rfl) dX8_paid_9 hl.1 (fun H locs hw => ?_)
    refine sn_getC (r := (49 + 2)) C hw fd_RX8_215 (sn_look sn_isX3_49 (k := 0) rfl) rfl dX8_paid_12 ?_
    refine lv_iload_n hx hb dX8_paid_15 rfl (lv_at hl 1 rfl) ?_
    obtain ⟨g_6, hf⟩ := sn_gdE hf
    refine sn_iald C hw (sn_look sn_isX3_49 (k := 2) rfl) g_6 dX8_paid_16 ?_
    refine lv_goto (tgt := 22) hx hb dX8_paid_17 (by decide) ?_
    cases hf
    exact kr _ _ _ _ hw rfl dX8_paid_22
theorem ctX8_paid (l : Launch) {σ : sn_S} {x1 : Int32}  {o : (Int32 × sn_S)} (hf : fX8_paid σ x1 = some o) : sn_M l yX8_paid cX8_paid 2 (some .int) rmX8_paid layC (fun ad => [.ref (ad 0), .int x1]) σ (some (fun _ => .int o.1)) o.2 :=
  sn_met (by decide) (fun _ => Nat.le_of_ble_eq_true rfl) (fun p e s m args below meth c ls D ct ad A C hw hl => wX8_paid_in C  hf (fun H locs ls pc hw ok hd => sn_iret C hw hd) _ _ _ hw hl)
-- X8_claims
abbrev rmX8_claims : Room := { frames := 5, cells := 0, slots := 0, locals := 119 }
def BX8_claims_48 (σ : sn_S) (x2 : Int32) : Option ((Int32 × sn_S)) :=
  (some (x2, σ))
def BX8_claims_42 (σ : sn_S) (x2 : Int32) (x3 : Int32) : Option ((Int32 × Int32) ⊕ (Int32)) :=
  (sn_lt (x3 + 1) fun y_1 => (some (.inl (x2, y_1))))
def BX8_claims_19 (σ : sn_S) (x2 : Int32) (x3 : Int32) : Option ((Int32 × Int32) ⊕ (Int32)) :=
  (if (sn_I σ 49 2) ≤ x3 then
  (some (.inr (x2)))
  else
  (sn_gd (sn_in x3 6) (if (sn_I σ (49 + 1) x3.toNatClampNeg) ≤ 0 then
  (BX8_claims_42 σ x2 x3)
  else
  (sn_lt (x2 ||| ((1 : Int32) <<< (x3 &&& 31))) fun y_4 => (BX8_claims_42 σ y_4 x3)))))
def LX8_claims_19 (σ : sn_S) (s : Int32 × Int32) : Option ((Int32 × Int32) ⊕ (Int32)) := BX8_claims_19 σ s.1 s.2
def fX8_claims (σ : sn_S) : Option (Int32 × sn_S) :=
  ((fX8_isHouse σ).bind fun t_1 => (if t_1 = 0 then
  (some ((-2 : Int32), σ))
  else
  ((fX8_ledgerNow σ).bind fun t_4 => ((sn_it (LX8_claims_19 t_4) 5000 ((0 : Int32), (0 : Int32))).bind fun t_6 => (BX8_claims_48 t_4 t_6)))))
theorem wX8_claims_48 (C : sn_C p s m args meth c RX8 cX8_claims 4 (some .int) D ct ad layC A) {σ : sn_S} {x2 : Int32}  {o : (Int32 × sn_S)} (hf : BX8_claims_48 σ x2 = some o) (kr : sn_Kr p l e rmX8_claims s m args below meth c Q D ct ad layC A cX8_claims .ireturn (true) o.2 [.int o.1]) : sn_At p l e rmX8_claims s m args below meth c Q D ct ad layC A 4 σ 48 [(2, .int x2)] [] := by
  intro H locs ls hw hl
  have hx := C.1
  have hb := C.2.1
  unfold BX8_claims_48 at hf
  refine lv_iload_n hx hb dX8_claims_48 rfl (lv_at hl 0 rfl) ?_
  cases hf
  exact kr _ _ _ _ hw rfl dX8_claims_49
theorem wX8_claims_42 (C : sn_C p s m args meth c RX8 cX8_claims 4 (some .int) D ct ad layC A) {σ : sn_S} {x2 : Int32} {x3 : Int32}  {o : (Int32 × Int32) ⊕ (Int32)} (hf : BX8_claims_42 σ x2 x3 = some o) (kc : ∀ v, o = .inl v → sn_At p l e rmX8_claims s m args below meth c Q D ct ad layC A 4 σ 19 [(1, .ref (ad 49)), (2, .int v.1), (3, .int v.2)] []) (kx : ∀ v, o = .inr v → sn_At p l e rmX8_claims s m args below meth c Q D ct ad layC A 4 σ 48 [(2, .int v)] []) : sn_At p l e rmX8_claims s m args below meth c Q D ct ad layC A 4 σ 42 [(1, .ref (ad 49)), (2, .int x2), (3, .int x3)] [] := by
  intro H locs ls hw hl
  have hx := C.1
  have hb := C.2.1
  unfold BX8_claims_42 at hf
  obtain ⟨y_1, e_2, hf⟩ := sn_ltE hf
  refine lv_iinc (v := y_1) (lv' := [(3, .int y_1), (1, .ref (ad 49)), (2, .int x2)]) hx hb dX8_claims_42 hl (k := 2) rfl (by rw [e_2]; rfl) (by decide) rfl (fun ls hl => ?_)
  refine lv_goto (tgt := 19) hx hb dX8_claims_45 (by decide) ?_
  cases hf
  exact kc _ rfl _ _ _ hw (lv_sub hl [1, 2, 0] rfl)
theorem wX8_claims_19 (C : sn_C p s m args meth c RX8 cX8_claims 4 (some .int) D ct ad layC A) {σ : sn_S} {x2 : Int32} {x3 : Int32}  {o : (Int32 × Int32) ⊕ (Int32)} (hf : BX8_claims_19 σ x2 x3 = some o) (kc : ∀ v, o = .inl v → sn_At p l e rmX8_claims s m args below meth c Q D ct ad layC A 4 σ 19 [(1, .ref (ad 49)), (2, .int v.1), (3, .int v.2)] []) (kx : ∀ v, o = .inr v → sn_At p l e rmX8_claims s m args below meth c Q D ct ad layC A 4 σ 48 [(2, .int v)] []) : sn_At p l e rmX8_claims s m args below meth c Q D ct ad layC A 4 σ 19 [(1, .ref (ad 49)), (2, .int x2), (3, .int x3)] [] := by
  intro H locs ls hw hl
  have hx := C.1
  have hb := C.2.1
  unfold BX8_claims_19 at hf
  refine lv_iload_n hx hb dX8_claims_19 rfl (lv_at hl 2 rfl) ?_
  refine lv_aload_n hx hb dX8_claims_20 rfl (lv_at hl 0 rfl) ?_
  refine sn_getI C hw fd_RX8_218 (sn_look sn_isX3_49 (k := 0) rfl) rfl dX8_claims_21 ?_
  refine lv_icmp_ge (tgt := 48) hx hb dX8_claims_24 (by decide) (fun c_1 => ?_) (fun c_1 => ?_)
  · have hf := sn_if c_1 hf
    cases hf
    exact kx _ rfl _ _ _ hw (lv_sub hl [1] rfl)
  · have hf := sn_el c_1 hf
    refine lv_aload_n hx hb dX8_claims_27 rfl (lv_at hl 0 rfl) ?_
    refine sn_getC (r := (49 + 1)) C hw fd_RX8_212 (sn_look sn_isX3_49 (k := 0) rfl) rfl dX8_claims_28 ?_
    refine lv_iload_n hx hb dX8_claims_31 rfl (lv_at hl 2 rfl) ?_
    obtain ⟨g_2, hf⟩ := sn_gdE hf
    refine sn_iald C hw (sn_look sn_isX3_49 (k := 1) rfl) g_2 dX8_claims_32 ?_
    refine lv_if_le (tgt := 42) hx hb dX8_claims_33 (by decide) (fun c_3 => ?_) (fun c_3 => ?_)
    · have hf := sn_if c_3 hf
      exact wX8_claims_42 C  hf kc kx _ _ _ hw (lv_sub hl [0, 1, 2] rfl)
    · have hf := sn_el c_3 hf
      refine lv_iload_n hx hb dX8_claims_36 rfl (lv_at hl 1 rfl) ?_
      refine lv_iconst (v := 1) hx hb dX8_claims_37 rfl ?_
      refine lv_iload_n hx hb dX8_claims_38 rfl (lv_at hl 2 rfl) ?_
      refine lv_ishl hx hb dX8_claims_39 ?_
      refine lv_ior hx hb dX8_claims_40 ?_
      obtain ⟨y_4, e_5, hf⟩ := sn_ltE hf
      refine lv_topi (fun y_4_ e_5_ => ?_)
      obtain rfl : y_4 = y_4_ := e_5.trans e_5_.symm
      refine lv_istore_n (lv' := [(2, .int y_4), (1, .ref (ad 49)), (3, .int x3)]) hx hb dX8_claims_41 rfl hl (by decide) rfl (fun ls hl => ?_)
      exact wX8_claims_42 C  hf kc kx _ _ _ hw (lv_sub hl [1, 0, 2] rfl)
theorem wX8_claims_L19 (C : sn_C p s m args meth c RX8 cX8_claims 4 (some .int) D ct ad layC A) {σ : sn_S}   {z : Int32 × Int32} {t : Int32} (h : sn_it (LX8_claims_19 σ) 5000 z = some t) (kx : ∀ v, t = v → sn_At p l e rmX8_claims s m args below meth c Q D ct ad layC A 4 σ 48 [(2, .int v)] []) : sn_At p l e rmX8_claims s m args below meth c Q D ct ad layC A 4 σ 19 [(1, .ref (ad 49)), (2, .int z.1), (3, .int z.2)] [] :=
  sn_loop (f := LX8_claims_19 σ) (G := fun z => sn_At p l e rmX8_claims s m args below meth c Q D ct ad layC A 4 σ 19 [(1, .ref (ad 49)), (2, .int z.1), (3, .int z.2)] []) (E := fun t => (∀ v, t = v → sn_At p l e rmX8_claims s m args below meth c Q D ct ad layC A 4 σ 48 [(2, .int v)] []) ∧ True) (fun z o hf k1 k2 => wX8_claims_19 C  hf (fun v e => k1 v e) (fun v e => (k2 _ e).1 v rfl)) 5000 z t h ⟨kx, trivial⟩
theorem wX8_claims_in (C : sn_C p s m args meth c RX8 cX8_claims 4 (some .int) D ct ad layC A) {σ : sn_S}  {o : (Int32 × sn_S)} (hf : fX8_claims σ = some o) (kr : sn_Kr p l e rmX8_claims s m args below meth c Q D ct ad layC A cX8_claims .ireturn (true) o.2 [.int o.1]) : sn_At p l e rmX8_claims s m args below meth c Q D ct ad layC A 4 σ 0 [(0, .ref (ad 0))] [] := by
  intro H locs ls hw hl
  have hx := C.1
  have hb := C.2.1
  unfold fX8_claims at hf
  refine lv_aload_n hx hb dX8_claims_0 rfl (lv_at hl 0 rfl) ?_
  obtain ⟨t_1, h_2, hf⟩ := sn_bd hf
  refine sn_callVi (rest := []) C hw (ctX8_isHouse l  h_2) kl_RX8_137 layC_0 rfl rfl rfl rfl (Nat.le_of_ble_eq_true rfl) dX8_claims_1 hl.1 (fun H locs hw => ?_)
  refine lv_if_ne (tgt := 10) hx hb dX8_claims_4 (by decide) (fun c_3 => ?_) (fun c_3 => ?_)
  · have hf := sn_el c_3 hf
    refine lv_aload_n hx hb dX8_claims_10 rfl (lv_at hl 0 rfl) ?_
    obtain ⟨t_4, h_5, hf⟩ := sn_bd hf
    refine sn_callVr (rest := []) C hw (ctX8_ledgerNow l  h_5) kl_RX8_208 layC_0 rfl rfl rfl rfl (Nat.le_of_ble_eq_true rfl) dX8_claims_11 hl.1 (fun H locs hw => ?_)
    refine lv_astore_n (lv' := [(1, .ref (ad 49)), (0, .ref (ad 0))]) hx hb dX8_claims_14 rfl hl (by decide) rfl (fun ls hl => ?_)
    refine lv_iconst (v := 0) hx hb dX8_claims_15 rfl ?_
    refine lv_istore_n (lv' := [(2, .int (0 : Int32)), (1, .ref (ad 49)), (0, .ref (ad 0))]) hx hb dX8_claims_16 rfl hl (by decide) rfl (fun ls hl => ?_)
    refine lv_iconst (v := 0) hx hb dX8_claims_17 rfl ?_
    refine lv_istore_n (lv' := [(3, .int (0 : Int32)), (2, .int (0 : Int32)), (1, .ref (ad 49)), (0, .ref (ad 0))]) hx hb dX8_claims_18 rfl hl (by decide) rfl (fun ls hl => ?_)
    obtain ⟨t_6, h_7, hf⟩ := sn_bd hf
    exact wX8_claims_L19 C  h_7 (fun v e => by cases e; exact wX8_claims_48 C  hf kr) _ _ _ hw (lv_sub hl [2, 1, 0] rfl)
  · have hf := sn_if c_3 hf
    refine lv_bipush (v := (-2)) hx hb dX8_claims_7 (by decide) ?_
    cases hf
    exact kr _ _ _ _ hw rfl dX8_claims_9
theorem ctX8_claims (l : Launch) {σ : sn_S}  {o : (Int32 × sn_S)} (hf : fX8_claims σ = some o) : sn_M l yX8_claims cX8_claims 4 (some .int) rmX8_claims layC (fun ad => [.ref (ad 0)]) σ (some (fun _ => .int o.1)) o.2 :=
  sn_met (by decide) (fun _ => Nat.le_of_ble_eq_true rfl) (fun p e s m args below meth c ls D ct ad A C hw hl => wX8_claims_in C  hf (fun H locs ls pc hw ok hd => sn_iret C hw hd) _ _ _ hw hl)
-- X8_profit
abbrev rmX8_profit : Room := { frames := 5, cells := 0, slots := 0, locals := 119 }
def fX8_profit (σ : sn_S) (x1 : Int32) : Option (Int32 × sn_S) :=
  ((fX8_isPolicy σ x1).bind fun t_1 => (if t_1 = 0 then
  (some ((-100000 : Int32), σ))
  else
  ((fX2_ofPolicy σ 1 x1 (4 : Int32)).bind fun t_4 => ((fX8_ledgerNow σ).bind fun t_6 => (sn_gd (sn_in x1 6) (some ((t_4 - (sn_I t_6 (49 + 1) x1.toNatClampNeg)), t_6)))))))
theorem wX8_profit_in (C : sn_C p s m args meth c RX8 cX8_profit 2 (some .int) D ct ad layC A) {σ : sn_S} {x1 : Int32}  {o : (Int32 × sn_S)} (hf : fX8_profit σ x1 = some o) (kr : sn_Kr p l e rmX8_profit s m args below meth c Q D ct ad layC A cX8_profit .ireturn (true) o.2 [.int o.1]) : sn_At p l e rmX8_profit s m args below meth c Q D ct ad layC A 2 σ 0 [(0, .ref (ad 0)), (1, .int x1)] [] := by
  intro H locs ls hw hl
  have hx := C.1
  have hb := C.2.1
  unfold fX8_profit at hf
  refine lv_aload_n hx hb dX8_profit_0 rfl (lv_at hl 0 rfl) ?_
  refine lv_iload_n hx hb dX8_profit_1 rfl (lv_at hl 1 rfl) ?_
  obtain ⟨t_1, h_2, hf⟩ := sn_bd hf
  refine sn_callVi (rest := []) C hw (ctX8_isPolicy l  h_2) kl_RX8_114 layC_0 rfl rfl rfl rfl (Nat.le_of_ble_eq_true rfl) dX8_profit_2 hl.1 (fun H locs hw => ?_)
  refine lv_if_ne (tgt := 11) hx hb dX8_profit_5 (by decide) (fun c_3 => ?_) (fun c_3 => ?_)
  · have hf := sn_el c_3 hf
    refine lv_aload_n hx hb dX8_profit_11 rfl (lv_at hl 0 rfl) ?_
    refine sn_getC (r := 1) C hw fd_RX8_10 layC_0 rfl dX8_profit_12 ?_
    refine lv_iload_n hx hb dX8_profit_15 rfl (lv_at hl 1 rfl) ?_
    refine lv_iconst (v := 4) hx hb dX8_profit_16 rfl ?_
    obtain ⟨t_4, h_5, hf⟩ := sn_bd hf
    refine sn_callVi (rest := []) C hw (ctX2_ofPolicy l sn_isX2_1 h_5) kl_RX8_117 (sn_look sn_isX2_1 (k := 0) rfl) rfl rfl rfl rfl (Nat.le_of_ble_eq_true rfl) dX8_profit_17 hl.1 (fun H locs hw => ?_)
    refine lv_aload_n hx hb dX8_profit_20 rfl (lv_at hl 0 rfl) ?_
    obtain ⟨t_6, h_7, hf⟩ := sn_bd hf
    refine sn_callVr (rest := [.int t_4]) C hw (ctX8_ledgerNow l  h_7) kl_RX8_208 layC_0 rfl rfl rfl rfl (Nat.le_of_ble_eq_true rfl) dX8_profit_21 hl.1 (fun H locs hw => ?_)
    refine sn_getC (r := (49 + 1)) C hw fd_RX8_212 (sn_look sn_isX3_49 (k := 0) rfl) rfl dX8_profit_24 ?_
    refine lv_iload_n hx hb dX8_profit_27 rfl (lv_at hl 1 rfl) ?_
    obtain ⟨g_8, hf⟩ := sn_gdE hf
    refine sn_iald C hw (sn_look sn_isX3_49 (k := 1) rfl) g_8 dX8_profit_28 ?_
    refine lv_isub hx hb dX8_profit_29 ?_
    cases hf
    exact kr _ _ _ _ hw rfl dX8_profit_30
  · have hf := sn_if c_3 hf
    refine lv_ldc hx hb C.2.2.2.1 (C.2.2.2.2.1 _ kk_RX8_221) dX8_profit_8 ?_
    cases hf
    exact kr _ _ _ _ hw rfl dX8_profit_10
theorem ctX8_profit (l : Launch) {σ : sn_S} {x1 : Int32}  {o : (Int32 × sn_S)} (hf : fX8_profit σ x1 = some o) : sn_M l yX8_profit cX8_profit 2 (some .int) rmX8_profit layC (fun ad => [.ref (ad 0), .int x1]) σ (some (fun _ => .int o.1)) o.2 :=
  sn_met (by decide) (fun _ => Nat.le_of_ble_eq_true rfl) (fun p e s m args below meth c ls D ct ad A C hw hl => wX8_profit_in C  hf (fun H locs ls pc hw ok hd => sn_iret C hw hd) _ _ _ hw hl)
-- X8_money
abbrev rmX8_money : Room := { frames := 5, cells := 0, slots := 0, locals := 119 }
def fX8_money (σ : sn_S) (x1 : Int32) : Option (Int32 × sn_S) :=
  ((fX8_isMinute σ x1).bind fun t_1 => (if t_1 = 0 then
  (some ((-100000 : Int32), σ))
  else
  ((fX8_ledgerNow σ).bind fun t_4 => ((fX3_moneyAt t_4 49 x1).bind fun t_6 => (some (t_6, t_4))))))
theorem wX8_money_in (C : sn_C p s m args meth c RX8 cX8_money 2 (some .int) D ct ad layC A) {σ : sn_S} {x1 : Int32}  {o : (Int32 × sn_S)} (hf : fX8_money σ x1 = some o) (kr : sn_Kr p l e rmX8_money s m args below meth c Q D ct ad layC A cX8_money .ireturn (true) o.2 [.int o.1]) : sn_At p l e rmX8_money s m args below meth c Q D ct ad layC A 2 σ 0 [(0, .ref (ad 0)), (1, .int x1)] [] := by
  intro H locs ls hw hl
  have hx := C.1
  have hb := C.2.1
  unfold fX8_money at hf
  refine lv_aload_n hx hb dX8_money_0 rfl (lv_at hl 0 rfl) ?_
  refine lv_iload_n hx hb dX8_money_1 rfl (lv_at hl 1 rfl) ?_
  obtain ⟨t_1, h_2, hf⟩ := sn_bd hf
  refine sn_callVi (rest := []) C hw (ctX8_isMinute l  h_2) kl_RX8_125 layC_0 rfl rfl rfl rfl (Nat.le_of_ble_eq_true rfl) dX8_money_2 hl.1 (fun H locs hw => ?_)
  refine lv_if_eq (tgt := 19) hx hb dX8_money_5 (by decide) (fun c_3 => ?_) (fun c_3 => ?_)
  · have hf := sn_if c_3 hf
    refine lv_ldc hx hb C.2.2.2.1 (C.2.2.2.2.1 _ kk_RX8_221) dX8_money_19 ?_
    cases hf
    exact kr _ _ _ _ hw rfl dX8_money_21
  · have hf := sn_el c_3 hf
    refine lv_aload_n hx hb dX8_money_8 rfl (lv_at hl 0 rfl) ?_
    obtain ⟨t_4, h_5, hf⟩ := sn_bd hf
    refine sn_callVr (rest := []) C hw (ctX8_ledgerNow l  h_5) kl_RX8_208 layC_0 rfl rfl rfl rfl (Nat.le_of_ble_eq_true rfl) dX8_money_9 hl.1 (fun H locs hw => ?_)
    refine lv_iload_n hx hb dX8_money_12 rfl (lv_at hl 1 rfl) ?_
    obtain ⟨t_6, h_7, hf⟩ := sn_bd hf
    refine sn_callVi (rest := []) C hw (ctX3_moneyAt l sn_isX3_49 h_7) kl_RX8_222 (sn_look sn_isX3_49 (k := 0) rfl) rfl rfl rfl rfl (Nat.le_of_ble_eq_true rfl) dX8_money_13 hl.1 (fun H locs hw => ?_)
    refine lv_goto (tgt := 21) hx hb dX8_money_16 (by decide) ?_
    cases hf
    exact kr _ _ _ _ hw rfl dX8_money_21
theorem ctX8_money (l : Launch) {σ : sn_S} {x1 : Int32}  {o : (Int32 × sn_S)} (hf : fX8_money σ x1 = some o) : sn_M l yX8_money cX8_money 2 (some .int) rmX8_money layC (fun ad => [.ref (ad 0), .int x1]) σ (some (fun _ => .int o.1)) o.2 :=
  sn_met (by decide) (fun _ => Nat.le_of_ble_eq_true rfl) (fun p e s m args below meth c ls D ct ad A C hw hl => wX8_money_in C  hf (fun H locs ls pc hw ok hd => sn_iret C hw hd) _ _ _ hw hl)
-- X8_lowest
abbrev rmX8_lowest : Room := { frames := 5, cells := 0, slots := 0, locals := 119 }
def fX8_lowest (σ : sn_S) : Option (Int32 × sn_S) :=
  ((fX8_isHouse σ).bind fun t_1 => (if t_1 = 0 then
  (some ((-2 : Int32), σ))
  else
  ((fX8_ledgerNow σ).bind fun t_4 => ((fX3_poorestMinute t_4 49 (sn_I t_4 27 0)).bind fun t_6 => (some (t_6, t_4))))))
theorem wX8_lowest_in (C : sn_C p s m args meth c RX8 cX8_lowest 1 (some .int) D ct ad layC A) {σ : sn_S}  {o : (Int32 × sn_S)} (hf : fX8_lowest σ = some o) (kr : sn_Kr p l e rmX8_lowest s m args below meth c Q D ct ad layC A cX8_lowest .ireturn (true) o.2 [.int o.1]) : sn_At p l e rmX8_lowest s m args below meth c Q D ct ad layC A 1 σ 0 [(0, .ref (ad 0))] [] := by
  intro H locs ls hw hl
  have hx := C.1
  have hb := C.2.1
  unfold fX8_lowest at hf
  refine lv_aload_n hx hb dX8_lowest_0 rfl (lv_at hl 0 rfl) ?_
  obtain ⟨t_1, h_2, hf⟩ := sn_bd hf
  refine sn_callVi (rest := []) C hw (ctX8_isHouse l  h_2) kl_RX8_137 layC_0 rfl rfl rfl rfl (Nat.le_of_ble_eq_true rfl) dX8_lowest_1 hl.1 (fun H locs hw => ?_)
  refine lv_if_eq (tgt := 24) hx hb dX8_lowest_4 (by decide) (fun c_3 => ?_) (fun c_3 => ?_)
  · have hf := sn_if c_3 hf
    refine lv_bipush (v := (-2)) hx hb dX8_lowest_24 (by decide) ?_
    cases hf
    exact kr _ _ _ _ hw rfl dX8_lowest_26
  · have hf := sn_el c_3 hf
    refine lv_aload_n hx hb dX8_lowest_7 rfl (lv_at hl 0 rfl) ?_
    obtain ⟨t_4, h_5, hf⟩ := sn_bd hf
    refine sn_callVr (rest := []) C hw (ctX8_ledgerNow l  h_5) kl_RX8_208 layC_0 rfl rfl rfl rfl (Nat.le_of_ble_eq_true rfl) dX8_lowest_8 hl.1 (fun H locs hw => ?_)
    refine lv_aload_n hx hb dX8_lowest_11 rfl (lv_at hl 0 rfl) ?_
    refine sn_getC (r := 27) C hw fd_RX8_44 layC_0 rfl dX8_lowest_12 ?_
    refine sn_getI C hw fd_RX8_151 (sn_look sn_isX0_27 (k := 0) rfl) rfl dX8_lowest_15 ?_
    obtain ⟨t_6, h_7, hf⟩ := sn_bd hf
    refine sn_callVi (rest := []) C hw (ctX3_poorestMinute l sn_isX3_49 h_7) kl_RX8_225 (sn_look sn_isX3_49 (k := 0) rfl) rfl rfl rfl rfl (Nat.le_of_ble_eq_true rfl) dX8_lowest_18 hl.1 (fun H locs hw => ?_)
    refine lv_goto (tgt := 26) hx hb dX8_lowest_21 (by decide) ?_
    cases hf
    exact kr _ _ _ _ hw rfl dX8_lowest_26
theorem ctX8_lowest (l : Launch) {σ : sn_S}  {o : (Int32 × sn_S)} (hf : fX8_lowest σ = some o) : sn_M l yX8_lowest cX8_lowest 1 (some .int) rmX8_lowest layC (fun ad => [.ref (ad 0)]) σ (some (fun _ => .int o.1)) o.2 :=
  sn_met (by decide) (fun _ => Nat.le_of_ble_eq_true rfl) (fun p e s m args below meth c ls D ct ad A C hw hl => wX8_lowest_in C  hf (fun H locs ls pc hw ok hd => sn_iret C hw hd) _ _ _ hw hl)
-- X8_ruin
abbrev rmX8_ruin : Room := { frames := 5, cells := 0, slots := 0, locals := 119 }
def fX8_ruin (σ : sn_S) : Option (Int32 × sn_S) :=
  ((fX8_isHouse σ).bind fun t_1 => (if t_1 = 0 then
  (some ((-2 : Int32), σ))
  else
  ((fX8_ledgerNow σ).bind fun t_4 => ((fX3_firstBelow t_4 49 (sn_I t_4 27 0)).bind fun t_6 => (some (t_6, t_4))))))
theorem wX8_ruin_in (C : sn_C p s m args meth c RX8 cX8_ruin 1 (some .int) D ct ad layC A) {σ : sn_S}  {o : (Int32 × sn_S)} (hf : fX8_ruin σ = some o) (kr : sn_Kr p l e rmX8_ruin s m args below meth c Q D ct ad layC A cX8_ruin .ireturn (true) o.2 [.int o.1]) : sn_At p l e rmX8_ruin s m args below meth c Q D ct ad layC A 1 σ 0 [(0, .ref (ad 0))] [] := by
  intro H locs ls hw hl
  have hx := C.1
  have hb := C.2.1
  unfold fX8_ruin at hf
  refine lv_aload_n hx hb dX8_ruin_0 rfl (lv_at hl 0 rfl) ?_
  obtain ⟨t_1, h_2, hf⟩ := sn_bd hf
  refine sn_callVi (rest := []) C hw (ctX8_isHouse l  h_2) kl_RX8_137 layC_0 rfl rfl rfl rfl (Nat.le_of_ble_eq_true rfl) dX8_ruin_1 hl.1 (fun H locs hw => ?_)
  refine lv_if_eq (tgt := 24) hx hb dX8_ruin_4 (by decide) (fun c_3 => ?_) (fun c_3 => ?_)
  · have hf := sn_if c_3 hf
    refine lv_bipush (v := (-2)) hx hb dX8_ruin_24 (by decide) ?_
    cases hf
    exact kr _ _ _ _ hw rfl dX8_ruin_26
  · have hf := sn_el c_3 hf
    refine lv_aload_n hx hb dX8_ruin_7 rfl (lv_at hl 0 rfl) ?_
    obtain ⟨t_4, h_5, hf⟩ := sn_bd hf
    refine sn_callVr (rest := []) C hw (ctX8_ledgerNow l  h_5) kl_RX8_208 layC_0 rfl rfl rfl rfl (Nat.le_of_ble_eq_true rfl) dX8_ruin_8 hl.1 (fun H locs hw => ?_)
    refine lv_aload_n hx hb dX8_ruin_11 rfl (lv_at hl 0 rfl) ?_
    refine sn_getC (r := 27) C hw fd_RX8_44 layC_0 rfl dX8_ruin_12 ?_
    refine sn_getI C hw fd_RX8_151 (sn_look sn_isX0_27 (k := 0) rfl) rfl dX8_ruin_15 ?_
    obtain ⟨t_6, h_7, hf⟩ := sn_bd hf
    refine sn_callVi (rest := []) C hw (ctX3_firstBelow l sn_isX3_49 h_7) kl_RX8_228 (sn_look sn_isX3_49 (k := 0) rfl) rfl rfl rfl rfl (Nat.le_of_ble_eq_true rfl) dX8_ruin_18 hl.1 (fun H locs hw => ?_)
    refine lv_goto (tgt := 26) hx hb dX8_ruin_21 (by decide) ?_
    cases hf
    exact kr _ _ _ _ hw rfl dX8_ruin_26
theorem ctX8_ruin (l : Launch) {σ : sn_S}  {o : (Int32 × sn_S)} (hf : fX8_ruin σ = some o) : sn_M l yX8_ruin cX8_ruin 1 (some .int) rmX8_ruin layC (fun ad => [.ref (ad 0)]) σ (some (fun _ => .int o.1)) o.2 :=
  sn_met (by decide) (fun _ => Nat.le_of_ble_eq_true rfl) (fun p e s m args below meth c ls D ct ad A C hw hl => wX8_ruin_in C  hf (fun H locs ls pc hw ok hd => sn_iret C hw hd) _ _ _ hw hl)
-- X8_dear
abbrev rmX8_dear : Room := { frames := 5, cells := 0, slots := 0, locals := 119 }
def BX8_dear_69 (σ : sn_S) (x2 : Int32) : Option ((Int32 × sn_S)) :=
  (some (x2, σ))
def BX8_dear_63 (σ : sn_S) (x2 : Int32) (x3 : Int32) (x4 : Int32) : Option ((Int32 × Int32 × Int32) ⊕ (Int32)) :=
  (sn_lt (x4 + 1) fun y_1 => (some (.inl (x2, x3, y_1))))
def BX8_dear_22 (σ : sn_S) (x2 : Int32) (x3 : Int32) (x4 : Int32) : Option ((Int32 × Int32 × Int32) ⊕ (Int32)) :=
  (if (sn_I σ 49 2) ≤ x4 then
  (some (.inr (x2)))
  else
  (sn_gd (sn_in x4 6) ((fX2_ofPolicy σ 1 x4 (4 : Int32)).bind fun t_3 => (sn_lt ((sn_I σ (49 + 1) x4.toNatClampNeg) - t_3) fun y_5 => (if y_5 ≤ x3 then
  (BX8_dear_63 σ x2 x3 x4)
  else
  (BX8_dear_63 σ x4 y_5 x4))))))
def LX8_dear_22 (σ : sn_S) (s : Int32 × Int32 × Int32) : Option ((Int32 × Int32 × Int32) ⊕ (Int32)) := BX8_dear_22 σ s.1 s.2.1 s.2.2
def fX8_dear (σ : sn_S) : Option (Int32 × sn_S) :=
  ((fX8_isHouse σ).bind fun t_1 => (if t_1 = 0 then
  (some ((-2 : Int32), σ))
  else
  ((fX8_ledgerNow σ).bind fun t_4 => ((sn_it (LX8_dear_22 t_4) 5000 ((-1 : Int32), (0 : Int32), (0 : Int32))).bind fun t_6 => (BX8_dear_69 t_4 t_6)))))
theorem wX8_dear_69 (C : sn_C p s m args meth c RX8 cX8_dear 6 (some .int) D ct ad layC A) {σ : sn_S} {x2 : Int32}  {o : (Int32 × sn_S)} (hf : BX8_dear_69 σ x2 = some o) (kr : sn_Kr p l e rmX8_dear s m args below meth c Q D ct ad layC A cX8_dear .ireturn (true) o.2 [.int o.1]) : sn_At p l e rmX8_dear s m args below meth c Q D ct ad layC A 6 σ 69 [(2, .int x2)] [] := by
  intro H locs ls hw hl
  have hx := C.1
  have hb := C.2.1
  unfold BX8_dear_69 at hf
  refine lv_iload_n hx hb dX8_dear_69 rfl (lv_at hl 0 rfl) ?_
  cases hf
  exact kr _ _ _ _ hw rfl dX8_dear_70
theorem wX8_dear_63 (C : sn_C p s m args meth c RX8 cX8_dear 6 (some .int) D ct ad layC A) {σ : sn_S} {x2 : Int32} {x3 : Int32} {x4 : Int32}  {o : (Int32 × Int32 × Int32) ⊕ (Int32)} (hf : BX8_dear_63 σ x2 x3 x4 = some o) (kc : ∀ v, o = .inl v → sn_At p l e rmX8_dear s m args below meth c Q D ct ad layC A 6 σ 22 [(0, .ref (ad 0)), (1, .ref (ad 49)), (2, .int v.1), (3, .int v.2.1), (4, .int v.2.2)] []) (kx : ∀ v, o = .inr v → sn_At p l e rmX8_dear s m args below meth c Q D ct ad layC A 6 σ 69 [(2, .int v)] []) : sn_At p l e rmX8_dear s m args below meth c Q D ct ad layC A 6 σ 63 [(0, .ref (ad 0)), (1, .ref (ad 49)), (2, .int x2), (3, .int x3), (4, .int x4)] [] := by
  intro H locs ls hw hl
  have hx := C.1
  have hb := C.2.1
  unfold BX8_dear_63 at hf
  obtain ⟨y_1, e_2, hf⟩ := sn_ltE hf
  refine lv_iinc (v := y_1) (lv' := [(4, .int y_1), (0, .ref (ad 0)), (1, .ref (ad 49)), (2, .int x2), (3, .int x3)]) hx hb dX8_dear_63 hl (k := 4) rfl (by rw [e_2]; rfl) (by decide) rfl (fun ls hl => ?_)
  refine lv_goto (tgt := 22) hx hb dX8_dear_66 (by decide) ?_
  cases hf
  exact kc _ rfl _ _ _ hw (lv_sub hl [1, 2, 3, 4, 0] rfl)
theorem wX8_dear_22 (C : sn_C p s m args meth c RX8 cX8_dear 6 (some .int) D ct ad layC A) {σ : sn_S} {x2 : Int32} {x3 : Int32} {x4 : Int32}  {o : (Int32 × Int32 × Int32) ⊕ (Int32)} (hf : BX8_dear_22 σ x2 x3 x4 = some o) (kc : ∀ v, o = .inl v → sn_At p l e rmX8_dear s m args below meth c Q D ct ad layC A 6 σ 22 [(0, .ref (ad 0)), (1, .ref (ad 49)), (2, .int v.1), (3, .int v.2.1), (4, .int v.2.2)] []) (kx : ∀ v, o = .inr v → sn_At p l e rmX8_dear s m args below meth c Q D ct ad layC A 6 σ 69 [(2, .int v)] []) : sn_At p l e rmX8_dear s m args below meth c Q D ct ad layC A 6 σ 22 [(0, .ref (ad 0)), (1, .ref (ad 49)), (2, .int x2), (3, .int x3), (4, .int x4)] [] := by
  intro H locs ls hw hl
  have hx := C.1
  have hb := C.2.1
  unfold BX8_dear_22 at hf
  refine lv_iload hx hb dX8_dear_22 (lv_at hl 4 rfl) ?_
  refine lv_aload_n hx hb dX8_dear_24 rfl (lv_at hl 1 rfl) ?_
  refine sn_getI C hw fd_RX8_218 (sn_look sn_isX3_49 (k := 0) rfl) rfl dX8_dear_25 ?_
  refine lv_icmp_ge (tgt := 69) hx hb dX8_dear_28 (by decide) (fun c_1 => ?_) (fun c_1 => ?_)
  · have hf := sn_if c_1 hf
    cases hf
    exact kx _ rfl _ _ _ hw (lv_sub hl [2] rfl)
  · have hf := sn_el c_1 hf
    refine lv_aload_n hx hb dX8_dear_31 rfl (lv_at hl 1 rfl) ?_
    refine sn_getC (r := (49 + 1)) C hw fd_RX8_212 (sn_look sn_isX3_49 (k := 0) rfl) rfl dX8_dear_32 ?_
    refine lv_iload hx hb dX8_dear_35 (lv_at hl 4 rfl) ?_
    obtain ⟨g_2, hf⟩ := sn_gdE hf
    refine sn_iald C hw (sn_look sn_isX3_49 (k := 1) rfl) g_2 dX8_dear_37 ?_
    refine lv_aload_n hx hb dX8_dear_38 rfl (lv_at hl 0 rfl) ?_
    refine sn_getC (r := 1) C hw fd_RX8_10 layC_0 rfl dX8_dear_39 ?_
    refine lv_iload hx hb dX8_dear_42 (lv_at hl 4 rfl) ?_
    refine lv_iconst (v := 4) hx hb dX8_dear_44 rfl ?_
    obtain ⟨t_3, h_4, hf⟩ := sn_bd hf
    refine sn_callVi (rest := [.int (sn_I σ (49 + 1) x4.toNatClampNeg)]) C hw (ctX2_ofPolicy l sn_isX2_1 h_4) kl_RX8_117 (sn_look sn_isX2_1 (k := 0) rfl) rfl rfl rfl rfl (Nat.le_of_ble_eq_true rfl) dX8_dear_45 hl.1 (fun H locs hw => ?_)
    refine lv_isub hx hb dX8_dear_48 ?_
    obtain ⟨y_5, e_6, hf⟩ := sn_ltE hf
    refine lv_topi (fun y_5_ e_6_ => ?_)
    obtain rfl : y_5 = y_5_ := e_6.trans e_6_.symm
    refine lv_istore (lv' := [(5, .int y_5), (0, .ref (ad 0)), (1, .ref (ad 49)), (2, .int x2), (3, .int x3), (4, .int x4)]) hx hb dX8_dear_49 hl (by decide) rfl (fun ls hl => ?_)
    refine lv_iload hx hb dX8_dear_51 (lv_at hl 0 rfl) ?_
    refine lv_iload_n hx hb dX8_dear_53 rfl (lv_at hl 4 rfl) ?_
    refine lv_icmp_le (tgt := 63) hx hb dX8_dear_54 (by decide) (fun c_7 => ?_) (fun c_7 => ?_)
    · have hf := sn_if c_7 hf
      exact wX8_dear_63 C  hf kc kx _ _ _ hw (lv_sub hl [1, 2, 3, 4, 5] rfl)
    · have hf := sn_el c_7 hf
      refine lv_iload hx hb dX8_dear_57 (lv_at hl 0 rfl) ?_
      refine lv_istore_n (lv' := [(3, .int y_5), (5, .int y_5), (0, .ref (ad 0)), (1, .ref (ad 49)), (2, .int x2), (4, .int x4)]) hx hb dX8_dear_59 rfl hl (by decide) rfl (fun ls hl => ?_)
      refine lv_iload hx hb dX8_dear_60 (lv_at hl 5 rfl) ?_
      refine lv_istore_n (lv' := [(2, .int x4), (3, .int y_5), (5, .int y_5), (0, .ref (ad 0)), (1, .ref (ad 49)), (4, .int x4)]) hx hb dX8_dear_62 rfl hl (by decide) rfl (fun ls hl => ?_)
      exact wX8_dear_63 C  hf kc kx _ _ _ hw (lv_sub hl [3, 4, 0, 1, 5] rfl)
theorem wX8_dear_L22 (C : sn_C p s m args meth c RX8 cX8_dear 6 (some .int) D ct ad layC A) {σ : sn_S}   {z : Int32 × Int32 × Int32} {t : Int32} (h : sn_it (LX8_dear_22 σ) 5000 z = some t) (kx : ∀ v, t = v → sn_At p l e rmX8_dear s m args below meth c Q D ct ad layC A 6 σ 69 [(2, .int v)] []) : sn_At p l e rmX8_dear s m args below meth c Q D ct ad layC A 6 σ 22 [(0, .ref (ad 0)), (1, .ref (ad 49)), (2, .int z.1), (3, .int z.2.1), (4, .int z.2.2)] [] :=
  sn_loop (f := LX8_dear_22 σ) (G := fun z => sn_At p l e rmX8_dear s m args below meth c Q D ct ad layC A 6 σ 22 [(0, .ref (ad 0)), (1, .ref (ad 49)), (2, .int z.1), (3, .int z.2.1), (4, .int z.2.2)] []) (E := fun t => (∀ v, t = v → sn_At p l e rmX8_dear s m args below meth c Q D ct ad layC A 6 σ 69 [(2, .int v)] []) ∧ True) (fun z o hf k1 k2 => wX8_dear_22 C  hf (fun v e => k1 v e) (fun v e => (k2 _ e).1 v rfl)) 5000 z t h ⟨kx, trivial⟩
theorem wX8_dear_in (C : sn_C p s m args meth c RX8 cX8_dear 6 (some .int) D ct ad layC A) {σ : sn_S}  {o : (Int32 × sn_S)} (hf : fX8_dear σ = some o) (kr : sn_Kr p l e rmX8_dear s m args below meth c Q D ct ad layC A cX8_dear .ireturn (true) o.2 [.int o.1]) : sn_At p l e rmX8_dear s m args below meth c Q D ct ad layC A 6 σ 0 [(0, .ref (ad 0))] [] := by
  intro H locs ls hw hl
  have hx := C.1
  have hb := C.2.1
  unfold fX8_dear at hf
  refine lv_aload_n hx hb dX8_dear_0 rfl (lv_at hl 0 rfl) ?_
  obtain ⟨t_1, h_2, hf⟩ := sn_bd hf
  refine sn_callVi (rest := []) C hw (ctX8_isHouse l  h_2) kl_RX8_137 layC_0 rfl rfl rfl rfl (Nat.le_of_ble_eq_true rfl) dX8_dear_1 hl.1 (fun H locs hw => ?_)
  refine lv_if_ne (tgt := 10) hx hb dX8_dear_4 (by decide) (fun c_3 => ?_) (fun c_3 => ?_)
  · have hf := sn_el c_3 hf
    refine lv_aload_n hx hb dX8_dear_10 rfl (lv_at hl 0 rfl) ?_
    obtain ⟨t_4, h_5, hf⟩ := sn_bd hf
    refine sn_callVr (rest := []) C hw (ctX8_ledgerNow l  h_5) kl_RX8_208 layC_0 rfl rfl rfl rfl (Nat.le_of_ble_eq_true rfl) dX8_dear_11 hl.1 (fun H locs hw => ?_)
    refine lv_astore_n (lv' := [(1, .ref (ad 49)), (0, .ref (ad 0))]) hx hb dX8_dear_14 rfl hl (by decide) rfl (fun ls hl => ?_)
    refine lv_iconst (v := (-1)) hx hb dX8_dear_15 rfl ?_
    refine lv_istore_n (lv' := [(2, .int (-1 : Int32)), (1, .ref (ad 49)), (0, .ref (ad 0))]) hx hb dX8_dear_16 rfl hl (by decide) rfl (fun ls hl => ?_)
    refine lv_iconst (v := 0) hx hb dX8_dear_17 rfl ?_
    refine lv_istore_n (lv' := [(3, .int (0 : Int32)), (2, .int (-1 : Int32)), (1, .ref (ad 49)), (0, .ref (ad 0))]) hx hb dX8_dear_18 rfl hl (by decide) rfl (fun ls hl => ?_)
    refine lv_iconst (v := 0) hx hb dX8_dear_19 rfl ?_
    refine lv_istore (lv' := [(4, .int (0 : Int32)), (3, .int (0 : Int32)), (2, .int (-1 : Int32)), (1, .ref (ad 49)), (0, .ref (ad 0))]) hx hb dX8_dear_20 hl (by decide) rfl (fun ls hl => ?_)
    obtain ⟨t_6, h_7, hf⟩ := sn_bd hf
    exact wX8_dear_L22 C  h_7 (fun v e => by cases e; exact wX8_dear_69 C  hf kr) _ _ _ hw (lv_sub hl [4, 3, 2, 1, 0] rfl)
  · have hf := sn_if c_3 hf
    refine lv_bipush (v := (-2)) hx hb dX8_dear_7 (by decide) ?_
    cases hf
    exact kr _ _ _ _ hw rfl dX8_dear_9
theorem ctX8_dear (l : Launch) {σ : sn_S}  {o : (Int32 × sn_S)} (hf : fX8_dear σ = some o) : sn_M l yX8_dear cX8_dear 6 (some .int) rmX8_dear layC (fun ad => [.ref (ad 0)]) σ (some (fun _ => .int o.1)) o.2 :=
  sn_met (by decide) (fun _ => Nat.le_of_ble_eq_true rfl) (fun p e s m args below meth c ls D ct ad A C hw hl => wX8_dear_in C  hf (fun H locs ls pc hw ok hd => sn_iret C hw hd) _ _ _ hw hl)
-- X8_reserve
abbrev rmX8_reserve : Room := { frames := 5, cells := 0, slots := 0, locals := 119 }
def fX8_reserve (σ : sn_S) : Option (Int32 × sn_S) :=
  ((fX8_isHouse σ).bind fun t_1 => (if t_1 = 0 then
  (some ((-2 : Int32), σ))
  else
  (sn_gd (sn_in (3 : Int32) 11) ((fX8_ledgerNow σ).bind fun t_5 => ((fX3_moneyAt t_5 49 ((sn_I t_5 27 0) - (1 : Int32))).bind fun t_7 => (sn_lt ((sn_I σ (1 + 1) (3 : Int32).toNatClampNeg) - t_7) fun y_9 => (sn_lt (if (0 : Int32) < y_9 then y_9 else (0 : Int32)) fun y_11 => (if y_11 ≤ (999 : Int32) then
  (some (y_11, t_5))
  else
  (some ((-1 : Int32), t_5))))))))))
theorem wX8_reserve_in (C : sn_C p s m args meth c RX8 cX8_reserve 3 (some .int) D ct ad layC A) {σ : sn_S}  {o : (Int32 × sn_S)} (hf : fX8_reserve σ = some o) (kr : sn_Kr p l e rmX8_reserve s m args below meth c Q D ct ad layC A cX8_reserve .ireturn (true) o.2 [.int o.1]) : sn_At p l e rmX8_reserve s m args below meth c Q D ct ad layC A 3 σ 0 [(0, .ref (ad 0))] [] := by
  intro H locs ls hw hl
  have hx := C.1
  have hb := C.2.1
  unfold fX8_reserve at hf
  refine lv_aload_n hx hb dX8_reserve_0 rfl (lv_at hl 0 rfl) ?_
  obtain ⟨t_1, h_2, hf⟩ := sn_bd hf
  refine sn_callVi (rest := []) C hw (ctX8_isHouse l  h_2) kl_RX8_137 layC_0 rfl rfl rfl rfl (Nat.le_of_ble_eq_true rfl) dX8_reserve_1 hl.1 (fun H locs hw => ?_)
  refine lv_if_ne (tgt := 10) hx hb dX8_reserve_4 (by decide) (fun c_3 => ?_) (fun c_3 => ?_)
  · have hf := sn_el c_3 hf
    refine lv_aload_n hx hb dX8_reserve_10 rfl (lv_at hl 0 rfl) ?_
    refine sn_getC (r := 1) C hw fd_RX8_10 layC_0 rfl dX8_reserve_11 ?_
    refine sn_getC (r := (1 + 1)) C hw fd_RX8_100 (sn_look sn_isX2_1 (k := 0) rfl) rfl dX8_reserve_14 ?_
    refine lv_iconst (v := 3) hx hb dX8_reserve_17 rfl ?_
    obtain ⟨g_4, hf⟩ := sn_gdE hf
    refine sn_iald C hw (sn_look sn_isX2_1 (k := 1) rfl) g_4 dX8_reserve_18 ?_
    refine lv_aload_n hx hb dX8_reserve_19 rfl (lv_at hl 0 rfl) ?_
    obtain ⟨t_5, h_6, hf⟩ := sn_bd hf
    refine sn_callVr (rest := [.int (sn_I σ (1 + 1) (3 : Int32).toNatClampNeg)]) C hw (ctX8_ledgerNow l  h_6) kl_RX8_208 layC_0 rfl rfl rfl rfl (Nat.le_of_ble_eq_true rfl) dX8_reserve_20 hl.1 (fun H locs hw => ?_)
    refine lv_aload_n hx hb dX8_reserve_23 rfl (lv_at hl 0 rfl) ?_
    refine sn_getC (r := 27) C hw fd_RX8_44 layC_0 rfl dX8_reserve_24 ?_
    refine sn_getI C hw fd_RX8_151 (sn_look sn_isX0_27 (k := 0) rfl) rfl dX8_reserve_27 ?_
    refine lv_iconst (v := 1) hx hb dX8_reserve_30 rfl ?_
    refine lv_isub hx hb dX8_reserve_31 ?_
    obtain ⟨t_7, h_8, hf⟩ := sn_bd hf
    refine sn_callVi (rest := [.int (sn_I σ (1 + 1) (3 : Int32).toNatClampNeg)]) C hw (ctX3_moneyAt l sn_isX3_49 h_8) kl_RX8_222 (sn_look sn_isX3_49 (k := 0) rfl) rfl rfl rfl rfl (Nat.le_of_ble_eq_true rfl) dX8_reserve_32 hl.1 (fun H locs hw => ?_)
    refine lv_isub hx hb dX8_reserve_35 ?_
    obtain ⟨y_9, e_10, hf⟩ := sn_ltE hf
    refine lv_topi (fun y_9_ e_10_ => ?_)
    obtain rfl : y_9 = y_9_ := e_10.trans e_10_.symm
    refine lv_istore_n (lv' := [(1, .int y_9), (0, .ref (ad 0))]) hx hb dX8_reserve_36 rfl hl (by decide) rfl (fun ls hl => ?_)
    refine lv_iconst (v := 0) hx hb dX8_reserve_37 rfl ?_
    refine lv_iload_n hx hb dX8_reserve_38 rfl (lv_at hl 0 rfl) ?_
    refine va_mmax hx hb (C.2.2.1.trans hl.1.symm) C.2.2.2.1 (C.2.2.2.2.1 _ km_RX8_154) (C.2.2.2.2.1 _ kst_maxI) (C.2.2.2.2.1 _ ki_Math) (C.2.2.2.2.1 _ kc_maxI) (Nat.le_of_ble_eq_true rfl) (Nat.le_of_ble_eq_true rfl) (Nat.zero_le _) (Nat.zero_le _) dX8_reserve_39 ?_
    obtain ⟨y_11, e_12, hf⟩ := sn_ltE hf
    refine lv_topi (fun y_11_ e_12_ => ?_)
    obtain rfl : y_11 = y_11_ := e_12.trans e_12_.symm
    refine lv_istore_n (lv' := [(2, .int y_11), (1, .int y_9), (0, .ref (ad 0))]) hx hb dX8_reserve_42 rfl hl (by decide) rfl (fun ls hl => ?_)
    refine lv_iload_n hx hb dX8_reserve_43 rfl (lv_at hl 0 rfl) ?_
    refine lv_sipush (v := 999) hx hb dX8_reserve_44 (by decide) ?_
    refine lv_icmp_le (tgt := 54) hx hb dX8_reserve_47 (by decide) (fun c_13 => ?_) (fun c_13 => ?_)
    · have hf := sn_if c_13 hf
      refine lv_iload_n hx hb dX8_reserve_54 rfl (lv_at hl 0 rfl) ?_
      cases hf
      exact kr _ _ _ _ hw rfl dX8_reserve_55
    · have hf := sn_el c_13 hf
      refine lv_iconst (v := (-1)) hx hb dX8_reserve_50 rfl ?_
      refine lv_goto (tgt := 55) hx hb dX8_reserve_51 (by decide) ?_
      cases hf
      exact kr _ _ _ _ hw rfl dX8_reserve_55
  · have hf := sn_if c_3 hf
    refine lv_bipush (v := (-2)) hx hb dX8_reserve_7 (by decide) ?_
    cases hf
    exact kr _ _ _ _ hw rfl dX8_reserve_9
theorem ctX8_reserve (l : Launch) {σ : sn_S}  {o : (Int32 × sn_S)} (hf : fX8_reserve σ = some o) : sn_M l yX8_reserve cX8_reserve 3 (some .int) rmX8_reserve layC (fun ad => [.ref (ad 0)]) σ (some (fun _ => .int o.1)) o.2 :=
  sn_met (by decide) (fun _ => Nat.le_of_ble_eq_true rfl) (fun p e s m args below meth c ls D ct ad A C hw hl => wX8_reserve_in C  hf (fun H locs ls pc hw ok hd => sn_iret C hw hd) _ _ _ hw hl)
-- X8_moneyInTheEnd
abbrev rmX8_moneyInTheEnd : Room := { frames := 4, cells := 0, slots := 0, locals := 99 }
def fX8_moneyInTheEnd (σ : sn_S) (x1 : Int32) : Option (Int32 × sn_S) :=
  ((fX3_reckon σ 49 1 27 x1).bind fun t_1 => ((fX3_moneyAt t_1 49 ((sn_I t_1 27 0) - (1 : Int32))).bind fun t_3 => (some (t_3, t_1))))
theorem wX8_moneyInTheEnd_in (C : sn_C p s m args meth c RX8 cX8_moneyInTheEnd 2 (some .int) D ct ad layC A) {σ : sn_S} {x1 : Int32}  {o : (Int32 × sn_S)} (hf : fX8_moneyInTheEnd σ x1 = some o) (kr : sn_Kr p l e rmX8_moneyInTheEnd s m args below meth c Q D ct ad layC A cX8_moneyInTheEnd .ireturn (true) o.2 [.int o.1]) : sn_At p l e rmX8_moneyInTheEnd s m args below meth c Q D ct ad layC A 2 σ 0 [(0, .ref (ad 0)), (1, .int x1)] [] := by
  intro H locs ls hw hl
  have hx := C.1
  have hb := C.2.1
  unfold fX8_moneyInTheEnd at hf
  refine lv_aload_n hx hb dX8_moneyInTheEnd_0 rfl (lv_at hl 0 rfl) ?_
  refine sn_getC (r := 49) C hw fd_RX8_54 layC_0 rfl dX8_moneyInTheEnd_1 ?_
  refine lv_aload_n hx hb dX8_moneyInTheEnd_4 rfl (lv_at hl 0 rfl) ?_
  refine sn_getC (r := 1) C hw fd_RX8_10 layC_0 rfl dX8_moneyInTheEnd_5 ?_
  refine lv_aload_n hx hb dX8_moneyInTheEnd_8 rfl (lv_at hl 0 rfl) ?_
  refine sn_getC (r := 27) C hw fd_RX8_44 layC_0 rfl dX8_moneyInTheEnd_9 ?_
  refine lv_iload_n hx hb dX8_moneyInTheEnd_12 rfl (lv_at hl 1 rfl) ?_
  obtain ⟨t_1, h_2, hf⟩ := sn_bd hf
  refine sn_callVv (rest := []) C hw (ctX3_reckon l sn_isX3_49 sn_isX2_1 sn_isX0_27 h_2) kl_RX8_234 (sn_look sn_isX3_49 (k := 0) rfl) rfl rfl rfl rfl (Nat.le_of_ble_eq_true rfl) dX8_moneyInTheEnd_13 hl.1 (fun H locs hw => ?_)
  refine lv_aload_n hx hb dX8_moneyInTheEnd_16 rfl (lv_at hl 0 rfl) ?_
  refine sn_getC (r := 49) C hw fd_RX8_54 layC_0 rfl dX8_moneyInTheEnd_17 ?_
  refine lv_aload_n hx hb dX8_moneyInTheEnd_20 rfl (lv_at hl 0 rfl) ?_
  refine sn_getC (r := 27) C hw fd_RX8_44 layC_0 rfl dX8_moneyInTheEnd_21 ?_
  refine sn_getI C hw fd_RX8_151 (sn_look sn_isX0_27 (k := 0) rfl) rfl dX8_moneyInTheEnd_24 ?_
  refine lv_iconst (v := 1) hx hb dX8_moneyInTheEnd_27 rfl ?_
  refine lv_isub hx hb dX8_moneyInTheEnd_28 ?_
  obtain ⟨t_3, h_4, hf⟩ := sn_bd hf
  refine sn_callVi (rest := []) C hw (ctX3_moneyAt l sn_isX3_49 h_4) kl_RX8_222 (sn_look sn_isX3_49 (k := 0) rfl) rfl rfl rfl rfl (Nat.le_of_ble_eq_true rfl) dX8_moneyInTheEnd_29 hl.1 (fun H locs hw => ?_)
  cases hf
  exact kr _ _ _ _ hw rfl dX8_moneyInTheEnd_32
theorem ctX8_moneyInTheEnd (l : Launch) {σ : sn_S} {x1 : Int32}  {o : (Int32 × sn_S)} (hf : fX8_moneyInTheEnd σ x1 = some o) : sn_M l yX8_moneyInTheEnd cX8_moneyInTheEnd 2 (some .int) rmX8_moneyInTheEnd layC (fun ad => [.ref (ad 0), .int x1]) σ (some (fun _ => .int o.1)) o.2 :=
  sn_met (by decide) (fun _ => Nat.le_of_ble_eq_true rfl) (fun p e s m args below meth c ls D ct ad A C hw hl => wX8_moneyInTheEnd_in C  hf (fun H locs ls pc hw ok hd => sn_iret C hw hd) _ _ _ hw hl)
-- X8_by
abbrev rmX8_by : Room := { frames := 5, cells := 0, slots := 0, locals := 120 }
def BX8_by_16 (σ : sn_S) : Option ((Int32 × sn_S)) :=
  (some ((-100000 : Int32), σ))
def fX8_by (σ : sn_S) (x1 : Int32) : Option (Int32 × sn_S) :=
  ((fX8_isHouse σ).bind fun t_1 => (if t_1 = 0 then
  (BX8_by_16 σ)
  else
  (if x1 < 0 then
  (BX8_by_16 σ)
  else
  (if x1 < (4 : Int32) then
  ((fX8_moneyInTheEnd σ x1).bind fun t_6 => (some (t_6.1, t_6.2)))
  else
  (BX8_by_16 σ)))))
theorem wX8_by_16 (C : sn_C p s m args meth c RX8 cX8_by 2 (some .int) D ct ad layC A) {σ : sn_S}  {o : (Int32 × sn_S)} (hf : BX8_by_16 σ = some o) (kr : sn_Kr p l e rmX8_by s m args below meth c Q D ct ad layC A cX8_by .ireturn (true) o.2 [.int o.1]) : sn_At p l e rmX8_by s m args below meth c Q D ct ad layC A 2 σ 16 [] [] := by
  intro H locs ls hw hl
  have hx := C.1
  have hb := C.2.1
  unfold BX8_by_16 at hf
  refine lv_ldc hx hb C.2.2.2.1 (C.2.2.2.2.1 _ kk_RX8_221) dX8_by_16 ?_
  cases hf
  exact kr _ _ _ _ hw rfl dX8_by_18
theorem wX8_by_in (C : sn_C p s m args meth c RX8 cX8_by 2 (some .int) D ct ad layC A) {σ : sn_S} {x1 : Int32}  {o : (Int32 × sn_S)} (hf : fX8_by σ x1 = some o) (kr : sn_Kr p l e rmX8_by s m args below meth c Q D ct ad layC A cX8_by .ireturn (true) o.2 [.int o.1]) : sn_At p l e rmX8_by s m args below meth c Q D ct ad layC A 2 σ 0 [(0, .ref (ad 0)), (1, .int x1)] [] := by
  intro H locs ls hw hl
  have hx := C.1
  have hb := C.2.1
  unfold fX8_by at hf
  refine lv_aload_n hx hb dX8_by_0 rfl (lv_at hl 0 rfl) ?_
  obtain ⟨t_1, h_2, hf⟩ := sn_bd hf
  refine sn_callVi (rest := []) C hw (ctX8_isHouse l  h_2) kl_RX8_137 layC_0 rfl rfl rfl rfl (Nat.le_of_ble_eq_true rfl) dX8_by_1 hl.1 (fun H locs hw => ?_)
  refine lv_if_eq (tgt := 16) hx hb dX8_by_4 (by decide) (fun c_3 => ?_) (fun c_3 => ?_)
  · have hf := sn_if c_3 hf
    exact wX8_by_16 C  hf kr _ _ _ hw (lv_sub hl [] rfl)
  · have hf := sn_el c_3 hf
    refine lv_iload_n hx hb dX8_by_7 rfl (lv_at hl 1 rfl) ?_
    refine lv_if_lt (tgt := 16) hx hb dX8_by_8 (by decide) (fun c_4 => ?_) (fun c_4 => ?_)
    · have hf := sn_if c_4 hf
      exact wX8_by_16 C  hf kr _ _ _ hw (lv_sub hl [] rfl)
    · have hf := sn_el c_4 hf
      refine lv_iload_n hx hb dX8_by_11 rfl (lv_at hl 1 rfl) ?_
      refine lv_iconst (v := 4) hx hb dX8_by_12 rfl ?_
      refine lv_icmp_lt (tgt := 19) hx hb dX8_by_13 (by decide) (fun c_5 => ?_) (fun c_5 => ?_)
      · have hf := sn_if c_5 hf
        refine lv_aload_n hx hb dX8_by_19 rfl (lv_at hl 0 rfl) ?_
        refine lv_iload_n hx hb dX8_by_20 rfl (lv_at hl 1 rfl) ?_
        obtain ⟨t_6, h_7, hf⟩ := sn_bd hf
        refine sn_callVi (rest := []) C hw (ctX8_moneyInTheEnd l  h_7) kl_RX8_231 layC_0 rfl rfl rfl rfl (Nat.le_of_ble_eq_true rfl) dX8_by_21 hl.1 (fun H locs hw => ?_)
        cases hf
        exact kr _ _ _ _ hw rfl dX8_by_24
      · have hf := sn_el c_5 hf
        exact wX8_by_16 C  hf kr _ _ _ hw (lv_sub hl [] rfl)
theorem ctX8_by (l : Launch) {σ : sn_S} {x1 : Int32}  {o : (Int32 × sn_S)} (hf : fX8_by σ x1 = some o) : sn_M l yX8_by cX8_by 2 (some .int) rmX8_by layC (fun ad => [.ref (ad 0), .int x1]) σ (some (fun _ => .int o.1)) o.2 :=
  sn_met (by decide) (fun _ => Nat.le_of_ble_eq_true rfl) (fun p e s m args below meth c ls D ct ad A C hw hl => wX8_by_in C  hf (fun H locs ls pc hw ok hd => sn_iret C hw hd) _ _ _ hw hl)
-- X8_law
abbrev rmX8_law : Room := { frames := 5, cells := 0, slots := 0, locals := 120 }
def BX8_law_49 (σ : sn_S) (x1 : Int32) : Option ((Int32 × sn_S)) :=
  (some (x1, σ))
def BX8_law_43 (σ : sn_S) (x1 : Int32) (x2 : Int32) (x3 : Int32) : Option ((sn_S × Int32 × Int32 × Int32) ⊕ (sn_S × Int32)) :=
  (sn_lt (x3 + 1) fun y_1 => (some (.inl (σ, x1, x2, y_1))))
def BX8_law_20 (σ : sn_S) (x1 : Int32) (x2 : Int32) (x3 : Int32) : Option ((sn_S × Int32 × Int32 × Int32) ⊕ (sn_S × Int32)) :=
  (if (4 : Int32) ≤ x3 then
  (some (.inr (σ, x1)))
  else
  ((fX8_moneyInTheEnd σ x3).bind fun t_2 => (if t_2.1 ≤ x2 then
  (BX8_law_43 t_2.2 x1 x2 x3)
  else
  (BX8_law_43 t_2.2 x3 t_2.1 x3))))
def LX8_law_20  (s : sn_S × Int32 × Int32 × Int32) : Option ((sn_S × Int32 × Int32 × Int32) ⊕ (sn_S × Int32)) := BX8_law_20 s.1 s.2.1 s.2.2.1 s.2.2.2
def fX8_law (σ : sn_S) : Option (Int32 × sn_S) :=
  ((fX8_isHouse σ).bind fun t_1 => (if t_1 = 0 then
  (some ((-2 : Int32), σ))
  else
  ((fX8_moneyInTheEnd σ (0 : Int32)).bind fun t_4 => ((sn_it (LX8_law_20 ) 5000 (t_4.2, (0 : Int32), t_4.1, (1 : Int32))).bind fun t_6 => (BX8_law_49 t_6.1 t_6.2)))))
theorem wX8_law_49 (C : sn_C p s m args meth c RX8 cX8_law 5 (some .int) D ct ad layC A) {σ : sn_S} {x1 : Int32}  {o : (Int32 × sn_S)} (hf : BX8_law_49 σ x1 = some o) (kr : sn_Kr p l e rmX8_law s m args below meth c Q D ct ad layC A cX8_law .ireturn (true) o.2 [.int o.1]) : sn_At p l e rmX8_law s m args below meth c Q D ct ad layC A 5 σ 49 [(1, .int x1)] [] := by
  intro H locs ls hw hl
  have hx := C.1
  have hb := C.2.1
  unfold BX8_law_49 at hf
  refine lv_iload_n hx hb dX8_law_49 rfl (lv_at hl 0 rfl) ?_
  cases hf
  exact kr _ _ _ _ hw rfl dX8_law_50
theorem wX8_law_43 (C : sn_C p s m args meth c RX8 cX8_law 5 (some .int) D ct ad layC A) {σ : sn_S} {x1 : Int32} {x2 : Int32} {x3 : Int32}  {o : (sn_S × Int32 × Int32 × Int32) ⊕ (sn_S × Int32)} (hf : BX8_law_43 σ x1 x2 x3 = some o) (kc : ∀ v, o = .inl v → sn_At p l e rmX8_law s m args below meth c Q D ct ad layC A 5 v.1 20 [(0, .ref (ad 0)), (1, .int v.2.1), (2, .int v.2.2.1), (3, .int v.2.2.2)] []) (kx : ∀ v, o = .inr v → sn_At p l e rmX8_law s m args below meth c Q D ct ad layC A 5 v.1 49 [(1, .int v.2)] []) : sn_At p l e rmX8_law s m args below meth c Q D ct ad layC A 5 σ 43 [(0, .ref (ad 0)), (1, .int x1), (2, .int x2), (3, .int x3)] [] := by
  intro H locs ls hw hl
  have hx := C.1
  have hb := C.2.1
  unfold BX8_law_43 at hf
  obtain ⟨y_1, e_2, hf⟩ := sn_ltE hf
  refine lv_iinc (v := y_1) (lv' := [(3, .int y_1), (0, .ref (ad 0)), (1, .int x1), (2, .int x2)]) hx hb dX8_law_43 hl (k := 3) rfl (by rw [e_2]; rfl) (by decide) rfl (fun ls hl => ?_)
  refine lv_goto (tgt := 20) hx hb dX8_law_46 (by decide) ?_
  cases hf
  exact kc _ rfl _ _ _ hw (lv_sub hl [1, 2, 3, 0] rfl)
theorem wX8_law_20 (C : sn_C p s m args meth c RX8 cX8_law 5 (some .int) D ct ad layC A) {σ : sn_S} {x1 : Int32} {x2 : Int32} {x3 : Int32}  {o : (sn_S × Int32 × Int32 × Int32) ⊕ (sn_S × Int32)} (hf : BX8_law_20 σ x1 x2 x3 = some o) (kc : ∀ v, o = .inl v → sn_At p l e rmX8_law s m args below meth c Q D ct ad layC A 5 v.1 20 [(0, .ref (ad 0)), (1, .int v.2.1), (2, .int v.2.2.1), (3, .int v.2.2.2)] []) (kx : ∀ v, o = .inr v → sn_At p l e rmX8_law s m args below meth c Q D ct ad layC A 5 v.1 49 [(1, .int v.2)] []) : sn_At p l e rmX8_law s m args below meth c Q D ct ad layC A 5 σ 20 [(0, .ref (ad 0)), (1, .int x1), (2, .int x2), (3, .int x3)] [] := by
  intro H locs ls hw hl
  have hx := C.1
  have hb := C.2.1
  unfold BX8_law_20 at hf
  refine lv_iload_n hx hb dX8_law_20 rfl (lv_at hl 3 rfl) ?_
  refine lv_iconst (v := 4) hx hb dX8_law_21 rfl ?_
  refine lv_icmp_ge (tgt := 49) hx hb dX8_law_22 (by decide) (fun c_1 => ?_) (fun c_1 => ?_)
  · have hf := sn_if c_1 hf
    cases hf
    exact kx _ rfl _ _ _ hw (lv_sub hl [1] rfl)
  · have hf := sn_el c_1 hf
    refine lv_aload_n hx hb dX8_law_25 rfl (lv_at hl 0 rfl) ?_
    refine lv_iload_n hx hb dX8_law_26 rfl (lv_at hl 3 rfl) ?_
    obtain ⟨t_2, h_3, hf⟩ := sn_bd hf
    refine sn_callVi (rest := []) C hw (ctX8_moneyInTheEnd l  h_3) kl_RX8_231 layC_0 rfl rfl rfl rfl (Nat.le_of_ble_eq_true rfl) dX8_law_27 hl.1 (fun H locs hw => ?_)
    refine lv_istore (lv' := [(4, .int t_2.1), (0, .ref (ad 0)), (1, .int x1), (2, .int x2), (3, .int x3)]) hx hb dX8_law_30 hl (by decide) rfl (fun ls hl => ?_)
    refine lv_iload hx hb dX8_law_32 (lv_at hl 0 rfl) ?_
    refine lv_iload_n hx hb dX8_law_34 rfl (lv_at hl 3 rfl) ?_
    refine lv_icmp_le (tgt := 43) hx hb dX8_law_35 (by decide) (fun c_4 => ?_) (fun c_4 => ?_)
    · have hf := sn_if c_4 hf
      exact wX8_law_43 C  hf kc kx _ _ _ hw (lv_sub hl [1, 2, 3, 4] rfl)
    · have hf := sn_el c_4 hf
      refine lv_iload hx hb dX8_law_38 (lv_at hl 0 rfl) ?_
      refine lv_istore_n (lv' := [(2, .int t_2.1), (4, .int t_2.1), (0, .ref (ad 0)), (1, .int x1), (3, .int x3)]) hx hb dX8_law_40 rfl hl (by decide) rfl (fun ls hl => ?_)
      refine lv_iload_n hx hb dX8_law_41 rfl (lv_at hl 4 rfl) ?_
      refine lv_istore_n (lv' := [(1, .int x3), (2, .int t_2.1), (4, .int t_2.1), (0, .ref (ad 0)), (3, .int x3)]) hx hb dX8_law_42 rfl hl (by decide) rfl (fun ls hl => ?_)
      exact wX8_law_43 C  hf kc kx _ _ _ hw (lv_sub hl [3, 0, 1, 4] rfl)
theorem wX8_law_L20 (C : sn_C p s m args meth c RX8 cX8_law 5 (some .int) D ct ad layC A)    {z : sn_S × Int32 × Int32 × Int32} {t : sn_S × Int32} (h : sn_it (LX8_law_20 ) 5000 z = some t) (kx : ∀ v, t = v → sn_At p l e rmX8_law s m args below meth c Q D ct ad layC A 5 v.1 49 [(1, .int v.2)] []) : sn_At p l e rmX8_law s m args below meth c Q D ct ad layC A 5 z.1 20 [(0, .ref (ad 0)), (1, .int z.2.1), (2, .int z.2.2.1), (3, .int z.2.2.2)] [] :=
  sn_loop (f := LX8_law_20 ) (G := fun z => sn_At p l e rmX8_law s m args below meth c Q D ct ad layC A 5 z.1 20 [(0, .ref (ad 0)), (1, .int z.2.1), (2, .int z.2.2.1), (3, .int z.2.2.2)] []) (E := fun t => (∀ v, t = v → sn_At p l e rmX8_law s m args below meth c Q D ct ad layC A 5 v.1 49 [(1, .int v.2)] []) ∧ True) (fun z o hf k1 k2 => wX8_law_20 C  hf (fun v e => k1 v e) (fun v e => (k2 _ e).1 v rfl)) 5000 z t h ⟨kx, trivial⟩
theorem wX8_law_in (C : sn_C p s m args meth c RX8 cX8_law 5 (some .int) D ct ad layC A) {σ : sn_S}  {o : (Int32 × sn_S)} (hf : fX8_law σ = some o) (kr : sn_Kr p l e rmX8_law s m args below meth c Q D ct ad layC A cX8_law .ireturn (true) o.2 [.int o.1]) : sn_At p l e rmX8_law s m args below meth c Q D ct ad layC A 5 σ 0 [(0, .ref (ad 0))] [] := by
  intro H locs ls hw hl
  have hx := C.1
  have hb := C.2.1
  unfold fX8_law at hf
  refine lv_aload_n hx hb dX8_law_0 rfl (lv_at hl 0 rfl) ?_
  obtain ⟨t_1, h_2, hf⟩ := sn_bd hf
  refine sn_callVi (rest := []) C hw (ctX8_isHouse l  h_2) kl_RX8_137 layC_0 rfl rfl rfl rfl (Nat.le_of_ble_eq_true rfl) dX8_law_1 hl.1 (fun H locs hw => ?_)
  refine lv_if_ne (tgt := 10) hx hb dX8_law_4 (by decide) (fun c_3 => ?_) (fun c_3 => ?_)
  · have hf := sn_el c_3 hf
    refine lv_iconst (v := 0) hx hb dX8_law_10 rfl ?_
    refine lv_istore_n (lv' := [(1, .int (0 : Int32)), (0, .ref (ad 0))]) hx hb dX8_law_11 rfl hl (by decide) rfl (fun ls hl => ?_)
    refine lv_aload_n hx hb dX8_law_12 rfl (lv_at hl 1 rfl) ?_
    refine lv_iconst (v := 0) hx hb dX8_law_13 rfl ?_
    obtain ⟨t_4, h_5, hf⟩ := sn_bd hf
    refine sn_callVi (rest := []) C hw (ctX8_moneyInTheEnd l  h_5) kl_RX8_231 layC_0 rfl rfl rfl rfl (Nat.le_of_ble_eq_true rfl) dX8_law_14 hl.1 (fun H locs hw => ?_)
    refine lv_istore_n (lv' := [(2, .int t_4.1), (1, .int (0 : Int32)), (0, .ref (ad 0))]) hx hb dX8_law_17 rfl hl (by decide) rfl (fun ls hl => ?_)
    refine lv_iconst (v := 1) hx hb dX8_law_18 rfl ?_
    refine lv_istore_n (lv' := [(3, .int (1 : Int32)), (2, .int t_4.1), (1, .int (0 : Int32)), (0, .ref (ad 0))]) hx hb dX8_law_19 rfl hl (by decide) rfl (fun ls hl => ?_)
    obtain ⟨t_6, h_7, hf⟩ := sn_bd hf
    exact wX8_law_L20 C  h_7 (fun v e => by cases e; exact wX8_law_49 C  hf kr) _ _ _ hw (lv_sub hl [3, 2, 1, 0] rfl)
  · have hf := sn_if c_3 hf
    refine lv_bipush (v := (-2)) hx hb dX8_law_7 (by decide) ?_
    cases hf
    exact kr _ _ _ _ hw rfl dX8_law_9
theorem ctX8_law (l : Launch) {σ : sn_S}  {o : (Int32 × sn_S)} (hf : fX8_law σ = some o) : sn_M l yX8_law cX8_law 5 (some .int) rmX8_law layC (fun ad => [.ref (ad 0)]) σ (some (fun _ => .int o.1)) o.2 :=
  sn_met (by decide) (fun _ => Nat.le_of_ble_eq_true rfl) (fun p e s m args below meth c ls D ct ad A C hw hl => wX8_law_in C  hf (fun H locs ls pc hw ok hd => sn_iret C hw hd) _ _ _ hw hl)
end
end
