section
variable {p : Program} {l : Launch} {e : Env} {s : State} {m : MethodId} {args : Array Value} {below : List Frame} {meth : Method} {c : Code} {Q : State → Prop} {D : va_G} {ct : Nat → ClassId} {ad : Nat → Nat} {A : Nat → Prop} {lay : List sn_E}
-- X2_minutesOfActs
abbrev rmX2_minutesOfActs : Room := { frames := 0, cells := 0, slots := 0, locals := 0 }
def BX2_minutesOfActs_67 (σ : sn_S) (q0 : Nat) (x3 : Int32) : Option (Int32) :=
  (some x3)
def BX2_minutesOfActs_61 (σ : sn_S) (q0 : Nat) (x1 : Int32) (x2 : Int32) (x3 : Int32) (x4 : Int32) : Option ((Int32 × Int32) ⊕ (Int32)) :=
  (sn_lt (x4 + 1) fun y_1 => (some (.inl (x3, y_1))))
def BX2_minutesOfActs_5 (σ : sn_S) (q0 : Nat) (x1 : Int32) (x2 : Int32) (x3 : Int32) (x4 : Int32) : Option ((Int32 × Int32) ⊕ (Int32)) :=
  (sn_gd (sn_in (9 : Int32) 11) (if (sn_I σ (q0 + 1) (9 : Int32).toNatClampNeg) ≤ x4 then
  (some (.inr (x3)))
  else
  (sn_gd (sn_in ((3 : Int32) * x4) 120) (if (sn_I σ (q0 + 6) ((3 : Int32) * x4).toNatClampNeg) = x1 then
  (sn_gd (sn_in (((3 : Int32) * x4) + (1 : Int32)) 120) (if (sn_I σ (q0 + 6) (((3 : Int32) * x4) + (1 : Int32)).toNatClampNeg) = x2 then
  (sn_gd (sn_in (((3 : Int32) * x4) + (2 : Int32)) 120) (sn_lt (x3 ||| ((1 : Int32) <<< ((sn_I σ (q0 + 6) (((3 : Int32) * x4) + (2 : Int32)).toNatClampNeg) &&& 31))) fun y_8 => (BX2_minutesOfActs_61 σ q0 x1 x2 y_8 x4)))
  else
  (BX2_minutesOfActs_61 σ q0 x1 x2 x3 x4)))
  else
  (BX2_minutesOfActs_61 σ q0 x1 x2 x3 x4)))))
def LX2_minutesOfActs_5 (σ : sn_S) (q0 : Nat) (x1 : Int32) (x2 : Int32) (s : Int32 × Int32) : Option ((Int32 × Int32) ⊕ (Int32)) := BX2_minutesOfActs_5 σ q0 x1 x2 s.1 s.2
def fX2_minutesOfActs (σ : sn_S) (q0 : Nat) (x1 : Int32) (x2 : Int32) : Option Int32 :=
  ((sn_it (LX2_minutesOfActs_5 σ q0 x1 x2) 5000 ((0 : Int32), (0 : Int32))).bind fun t_1 => (BX2_minutesOfActs_67 σ q0 t_1))
theorem wX2_minutesOfActs_67 (C : sn_C p s m args meth c RX2 cX2_minutesOfActs 5 (some .int) D ct ad layC A) {σ : sn_S} {q0 : Nat} {x3 : Int32} (h0 : sn_isX2 q0) {o : Int32} (hf : BX2_minutesOfActs_67 σ q0 x3 = some o) (kr : sn_Kr p l e rmX2_minutesOfActs s m args below meth c Q D ct ad layC A cX2_minutesOfActs .ireturn (true) σ [.int o]) : sn_At p l e rmX2_minutesOfActs s m args below meth c Q D ct ad layC A 5 σ 67 [(3, .int x3)] [] := by
  intro H locs ls hw hl
  have hx := C.1
  have hb := C.2.1
  unfold BX2_minutesOfActs_67 at hf
  refine lv_iload_n hx hb dX2_minutesOfActs_67 rfl (lv_at hl 0 rfl) ?_
  cases hf
  exact kr _ _ _ _ hw rfl dX2_minutesOfActs_68
theorem wX2_minutesOfActs_61 (C : sn_C p s m args meth c RX2 cX2_minutesOfActs 5 (some .int) D ct ad layC A) {σ : sn_S} {q0 : Nat} {x1 : Int32} {x2 : Int32} {x3 : Int32} {x4 : Int32} (h0 : sn_isX2 q0) {o : (Int32 × Int32) ⊕ (Int32)} (hf : BX2_minutesOfActs_61 σ q0 x1 x2 x3 x4 = some o) (kc : ∀ v, o = .inl v → sn_At p l e rmX2_minutesOfActs s m args below meth c Q D ct ad layC A 5 σ 5 [(0, .ref (ad q0)), (1, .int x1), (2, .int x2), (3, .int v.1), (4, .int v.2)] []) (kx : ∀ v, o = .inr v → sn_At p l e rmX2_minutesOfActs s m args below meth c Q D ct ad layC A 5 σ 67 [(3, .int v)] []) : sn_At p l e rmX2_minutesOfActs s m args below meth c Q D ct ad layC A 5 σ 61 [(0, .ref (ad q0)), (1, .int x1), (2, .int x2), (3, .int x3), (4, .int x4)] [] := by
  intro H locs ls hw hl
  have hx := C.1
  have hb := C.2.1
  unfold BX2_minutesOfActs_61 at hf
  obtain ⟨y_1, e_2, hf⟩ := sn_ltE hf
  refine lv_iinc (v := y_1) (lv' := [(4, .int y_1), (0, .ref (ad q0)), (1, .int x1), (2, .int x2), (3, .int x3)]) hx hb dX2_minutesOfActs_61 hl (k := 4) rfl (by rw [e_2]; rfl) (by decide) rfl (fun ls hl => ?_)
  refine lv_goto (tgt := 5) hx hb dX2_minutesOfActs_64 (by decide) ?_
  cases hf
  exact kc _ rfl _ _ _ hw (lv_sub hl [1, 2, 3, 4, 0] rfl)
theorem wX2_minutesOfActs_5 (C : sn_C p s m args meth c RX2 cX2_minutesOfActs 5 (some .int) D ct ad layC A) {σ : sn_S} {q0 : Nat} {x1 : Int32} {x2 : Int32} {x3 : Int32} {x4 : Int32} (h0 : sn_isX2 q0) {o : (Int32 × Int32) ⊕ (Int32)} (hf : BX2_minutesOfActs_5 σ q0 x1 x2 x3 x4 = some o) (kc : ∀ v, o = .inl v → sn_At p l e rmX2_minutesOfActs s m args below meth c Q D ct ad layC A 5 σ 5 [(0, .ref (ad q0)), (1, .int x1), (2, .int x2), (3, .int v.1), (4, .int v.2)] []) (kx : ∀ v, o = .inr v → sn_At p l e rmX2_minutesOfActs s m args below meth c Q D ct ad layC A 5 σ 67 [(3, .int v)] []) : sn_At p l e rmX2_minutesOfActs s m args below meth c Q D ct ad layC A 5 σ 5 [(0, .ref (ad q0)), (1, .int x1), (2, .int x2), (3, .int x3), (4, .int x4)] [] := by
  intro H locs ls hw hl
  have hx := C.1
  have hb := C.2.1
  unfold BX2_minutesOfActs_5 at hf
  refine lv_iload hx hb dX2_minutesOfActs_5 (lv_at hl 4 rfl) ?_
  refine lv_aload_n hx hb dX2_minutesOfActs_7 rfl (lv_at hl 0 rfl) ?_
  refine sn_getC (r := (q0 + 1)) C hw fd_RX2_9 (sn_look h0 (k := 0) rfl) rfl dX2_minutesOfActs_8 ?_
  refine lv_bipush (v := 9) hx hb dX2_minutesOfActs_11 (by decide) ?_
  obtain ⟨g_1, hf⟩ := sn_gdE hf
  refine sn_iald C hw (sn_look h0 (k := 1) rfl) g_1 dX2_minutesOfActs_13 ?_
  refine lv_icmp_ge (tgt := 67) hx hb dX2_minutesOfActs_14 (by decide) (fun c_2 => ?_) (fun c_2 => ?_)
  · have hf := sn_if c_2 hf
    cases hf
    exact kx _ rfl _ _ _ hw (lv_sub hl [3] rfl)
  · have hf := sn_el c_2 hf
    refine lv_aload_n hx hb dX2_minutesOfActs_17 rfl (lv_at hl 0 rfl) ?_
    refine sn_getC (r := (q0 + 6)) C hw fd_RX2_27 (sn_look h0 (k := 0) rfl) rfl dX2_minutesOfActs_18 ?_
    refine lv_iconst (v := 3) hx hb dX2_minutesOfActs_21 rfl ?_
    refine lv_iload hx hb dX2_minutesOfActs_22 (lv_at hl 4 rfl) ?_
    refine lv_imul hx hb dX2_minutesOfActs_24 ?_
    obtain ⟨g_3, hf⟩ := sn_gdE hf
    refine sn_iald C hw (sn_look h0 (k := 6) rfl) g_3 dX2_minutesOfActs_25 ?_
    refine lv_iload_n hx hb dX2_minutesOfActs_26 rfl (lv_at hl 1 rfl) ?_
    refine lv_icmp_ne (tgt := 61) hx hb dX2_minutesOfActs_27 (by decide) (fun c_4 => ?_) (fun c_4 => ?_)
    · have hf := sn_el c_4 hf
      exact wX2_minutesOfActs_61 C h0 hf kc kx _ _ _ hw (lv_sub hl [0, 1, 2, 3, 4] rfl)
    · have hf := sn_if c_4 hf
      refine lv_aload_n hx hb dX2_minutesOfActs_30 rfl (lv_at hl 0 rfl) ?_
      refine sn_getC (r := (q0 + 6)) C hw fd_RX2_27 (sn_look h0 (k := 0) rfl) rfl dX2_minutesOfActs_31 ?_
      refine lv_iconst (v := 3) hx hb dX2_minutesOfActs_34 rfl ?_
      refine lv_iload hx hb dX2_minutesOfActs_35 (lv_at hl 4 rfl) ?_
      refine lv_imul hx hb dX2_minutesOfActs_37 ?_
      refine lv_iconst (v := 1) hx hb dX2_minutesOfActs_38 rfl ?_
      refine lv_iadd hx hb dX2_minutesOfActs_39 ?_
      obtain ⟨g_5, hf⟩ := sn_gdE hf
      refine sn_iald C hw (sn_look h0 (k := 6) rfl) g_5 dX2_minutesOfActs_40 ?_
      refine lv_iload_n hx hb dX2_minutesOfActs_41 rfl (lv_at hl 2 rfl) ?_
      refine lv_icmp_ne (tgt := 61) hx hb dX2_minutesOfActs_42 (by decide) (fun c_6 => ?_) (fun c_6 => ?_)
      · have hf := sn_el c_6 hf
        exact wX2_minutesOfActs_61 C h0 hf kc kx _ _ _ hw (lv_sub hl [0, 1, 2, 3, 4] rfl)
      · have hf := sn_if c_6 hf
        refine lv_iload_n hx hb dX2_minutesOfActs_45 rfl (lv_at hl 3 rfl) ?_
        refine lv_iconst (v := 1) hx hb dX2_minutesOfActs_46 rfl ?_
        refine lv_aload_n hx hb dX2_minutesOfActs_47 rfl (lv_at hl 0 rfl) ?_
        refine sn_getC (r := (q0 + 6)) C hw fd_RX2_27 (sn_look h0 (k := 0) rfl) rfl dX2_minutesOfActs_48 ?_
        refine lv_iconst (v := 3) hx hb dX2_minutesOfActs_51 rfl ?_
        refine lv_iload hx hb dX2_minutesOfActs_52 (lv_at hl 4 rfl) ?_
        refine lv_imul hx hb dX2_minutesOfActs_54 ?_
        refine lv_iconst (v := 2) hx hb dX2_minutesOfActs_55 rfl ?_
        refine lv_iadd hx hb dX2_minutesOfActs_56 ?_
        obtain ⟨g_7, hf⟩ := sn_gdE hf
        refine sn_iald C hw (sn_look h0 (k := 6) rfl) g_7 dX2_minutesOfActs_57 ?_
        refine lv_ishl hx hb dX2_minutesOfActs_58 ?_
        refine lv_ior hx hb dX2_minutesOfActs_59 ?_
        obtain ⟨y_8, e_9, hf⟩ := sn_ltE hf
        refine lv_topi (fun y_8_ e_9_ => ?_)
        obtain rfl : y_8 = y_8_ := e_9.trans e_9_.symm
        refine lv_istore_n (lv' := [(3, .int y_8), (0, .ref (ad q0)), (1, .int x1), (2, .int x2), (4, .int x4)]) hx hb dX2_minutesOfActs_60 rfl hl (by decide) rfl (fun ls hl => ?_)
        exact wX2_minutesOfActs_61 C h0 hf kc kx _ _ _ hw (lv_sub hl [1, 2, 3, 0, 4] rfl)
theorem wX2_minutesOfActs_L5 (C : sn_C p s m args meth c RX2 cX2_minutesOfActs 5 (some .int) D ct ad layC A) {σ : sn_S} {q0 : Nat} {x1 : Int32} {x2 : Int32}  (h0 : sn_isX2 q0) {z : Int32 × Int32} {t : Int32} (h : sn_it (LX2_minutesOfActs_5 σ q0 x1 x2) 5000 z = some t) (kx : ∀ v, t = v → sn_At p l e rmX2_minutesOfActs s m args below meth c Q D ct ad layC A 5 σ 67 [(3, .int v)] []) : sn_At p l e rmX2_minutesOfActs s m args below meth c Q D ct ad layC A 5 σ 5 [(0, .ref (ad q0)), (1, .int x1), (2, .int x2), (3, .int z.1), (4, .int z.2)] [] :=
  sn_loop (f := LX2_minutesOfActs_5 σ q0 x1 x2) (G := fun z => sn_At p l e rmX2_minutesOfActs s m args below meth c Q D ct ad layC A 5 σ 5 [(0, .ref (ad q0)), (1, .int x1), (2, .int x2), (3, .int z.1), (4, .int z.2)] []) (E := fun t => (∀ v, t = v → sn_At p l e rmX2_minutesOfActs s m args below meth c Q D ct ad layC A 5 σ 67 [(3, .int v)] []) ∧ True) (fun z o hf k1 k2 => wX2_minutesOfActs_5 C h0 hf (fun v e => k1 v e) (fun v e => (k2 _ e).1 v rfl)) 5000 z t h ⟨kx, trivial⟩
theorem wX2_minutesOfActs_in (C : sn_C p s m args meth c RX2 cX2_minutesOfActs 5 (some .int) D ct ad layC A) {σ : sn_S} {q0 : Nat} {x1 : Int32} {x2 : Int32} (h0 : sn_isX2 q0) {o : Int32} (hf : fX2_minutesOfActs σ q0 x1 x2 = some o) (kr : sn_Kr p l e rmX2_minutesOfActs s m args below meth c Q D ct ad layC A cX2_minutesOfActs .ireturn (true) σ [.int o]) : sn_At p l e rmX2_minutesOfActs s m args below meth c Q D ct ad layC A 5 σ 0 [(0, .ref (ad q0)), (1, .int x1), (2, .int x2)] [] := by
  intro H locs ls hw hl
  have hx := C.1
  have hb := C.2.1
  unfold fX2_minutesOfActs at hf
  refine lv_iconst (v := 0) hx hb dX2_minutesOfActs_0 rfl ?_
  refine lv_istore_n (lv' := [(3, .int (0 : Int32)), (0, .ref (ad q0)), (1, .int x1), (2, .int x2)]) hx hb dX2_minutesOfActs_1 rfl hl (by decide) rfl (fun ls hl => ?_)
  refine lv_iconst (v := 0) hx hb dX2_minutesOfActs_2 rfl ?_
  refine lv_istore (lv' := [(4, .int (0 : Int32)), (3, .int (0 : Int32)), (0, .ref (ad q0)), (1, .int x1), (2, .int x2)]) hx hb dX2_minutesOfActs_3 hl (by decide) rfl (fun ls hl => ?_)
  obtain ⟨t_1, h_2, hf⟩ := sn_bd hf
  exact wX2_minutesOfActs_L5 C h0 h_2 (fun v e => by cases e; exact wX2_minutesOfActs_67 C h0 hf kr) _ _ _ hw (lv_sub hl [2, 3, 4, 1, 0] rfl)
theorem ctX2_minutesOfActs (l : Launch) {σ : sn_S} {q0 : Nat} {x1 : Int32} {x2 : Int32} (h0 : sn_isX2 q0) {o : Int32} (hf : fX2_minutesOfActs σ q0 x1 x2 = some o) : sn_M l yX2_minutesOfActs cX2_minutesOfActs 5 (some .int) rmX2_minutesOfActs layC (fun ad => [.ref (ad q0), .int x1, .int x2]) σ (some (fun _ => .int o)) σ :=
  sn_met (by decide) (fun _ => Nat.le_of_ble_eq_true rfl) (fun p e s m args below meth c ls D ct ad A C hw hl => wX2_minutesOfActs_in C h0 hf (fun H locs ls pc hw ok hd => sn_iret C hw hd) _ _ _ hw hl)
-- J7_fill_53178
abbrev rmJ7_fill_53178 : Room := { frames := 0, cells := 0, slots := 0, locals := 0 }
def BJ7_fill_53178_20 (σ : sn_S) (q0 : Nat) (n0 : Nat) : Option (sn_S) :=
  (some σ)
def BJ7_fill_53178_5 (σ : sn_S) (q0 : Nat) (n0 : Nat) (x1 : Int32) (x2 : Int32) (x3 : Int32) : Option ((sn_S × Int32) ⊕ (sn_S)) :=
  (if x3 ≤ x2 then
  (some (.inr (σ)))
  else
  (sn_gd (sn_in x2 n0) (sn_lt (sn_pI σ q0 x2.toNatClampNeg x1) fun σ_3 => (sn_lt (x2 + 1) fun y_5 => (some (.inl (σ_3, y_5)))))))
def LJ7_fill_53178_5 (q0 : Nat) (n0 : Nat) (x1 : Int32) (x3 : Int32) (s : sn_S × Int32) : Option ((sn_S × Int32) ⊕ (sn_S)) := BJ7_fill_53178_5 s.1 q0 n0 x1 s.2 x3
def fJ7_fill_53178 (σ : sn_S) (q0 : Nat) (n0 : Nat) (x1 : Int32) : Option sn_S :=
  (sn_lt (Int32.ofNat n0) fun y_1 => ((sn_it (LJ7_fill_53178_5 q0 n0 x1 y_1) 5000 (σ, (0 : Int32))).bind fun t_3 => (BJ7_fill_53178_20 t_3 q0 n0)))
theorem wJ7_fill_53178_20 (C : sn_C p s m args meth c RJ7 cJ7_fill_53178 4 none D ct ad lay A) {σ : sn_S} {q0 : Nat} {n0 : Nat} (h0 : lay[q0]? = some (.inl (0, n0, 0, []))) {o : sn_S} (hf : BJ7_fill_53178_20 σ q0 n0 = some o) (kr : sn_Kr p l e rmJ7_fill_53178 s m args below meth c Q D ct ad lay A cJ7_fill_53178 .return_ (true) o []) : sn_At p l e rmJ7_fill_53178 s m args below meth c Q D ct ad lay A 4 σ 20 [] [] := by
  intro H locs ls hw hl
  have hx := C.1
  have hb := C.2.1
  unfold BJ7_fill_53178_20 at hf
  cases hf
  exact kr _ _ _ _ hw rfl dJ7_fill_53178_20
theorem wJ7_fill_53178_5 (C : sn_C p s m args meth c RJ7 cJ7_fill_53178 4 none D ct ad lay A) {σ : sn_S} {q0 : Nat} {n0 : Nat} {x1 : Int32} {x2 : Int32} {x3 : Int32} (h0 : lay[q0]? = some (.inl (0, n0, 0, []))) {o : (sn_S × Int32) ⊕ (sn_S)} (hf : BJ7_fill_53178_5 σ q0 n0 x1 x2 x3 = some o) (kc : ∀ v, o = .inl v → sn_At p l e rmJ7_fill_53178 s m args below meth c Q D ct ad lay A 4 v.1 5 [(0, .ref (ad q0)), (1, .int x1), (2, .int v.2), (3, .int x3)] []) (kx : ∀ v, o = .inr v → sn_At p l e rmJ7_fill_53178 s m args below meth c Q D ct ad lay A 4 v 20 [] []) : sn_At p l e rmJ7_fill_53178 s m args below meth c Q D ct ad lay A 4 σ 5 [(0, .ref (ad q0)), (1, .int x1), (2, .int x2), (3, .int x3)] [] := by
  intro H locs ls hw hl
  have hx := C.1
  have hb := C.2.1
  unfold BJ7_fill_53178_5 at hf
  refine lv_iload_n hx hb dJ7_fill_53178_5 rfl (lv_at hl 2 rfl) ?_
  refine lv_iload_n hx hb dJ7_fill_53178_6 rfl (lv_at hl 3 rfl) ?_
  refine lv_icmp_ge (tgt := 20) hx hb dJ7_fill_53178_7 (by decide) (fun c_1 => ?_) (fun c_1 => ?_)
  · have hf := sn_if c_1 hf
    cases hf
    exact kx _ rfl _ _ _ hw (lv_sub hl [] rfl)
  · have hf := sn_el c_1 hf
    refine lv_aload_n hx hb dJ7_fill_53178_10 rfl (lv_at hl 0 rfl) ?_
    refine lv_iload_n hx hb dJ7_fill_53178_11 rfl (lv_at hl 2 rfl) ?_
    refine lv_iload_n hx hb dJ7_fill_53178_12 rfl (lv_at hl 1 rfl) ?_
    obtain ⟨g_2, hf⟩ := sn_gdE hf
    refine sn_iast C hw h0 g_2 dJ7_fill_53178_13 (fun H locs hw => ?_)
    obtain ⟨σ_3, e_4, hf⟩ := sn_ltE hf
    rw [← e_4] at hw
    obtain ⟨y_5, e_6, hf⟩ := sn_ltE hf
    refine lv_iinc (v := y_5) (lv' := [(2, .int y_5), (0, .ref (ad q0)), (1, .int x1), (3, .int x3)]) hx hb dJ7_fill_53178_14 hl (k := 2) rfl (by rw [e_6]; rfl) (by decide) rfl (fun ls hl => ?_)
    refine lv_goto (tgt := 5) hx hb dJ7_fill_53178_17 (by decide) ?_
    cases hf
    exact kc _ rfl _ _ _ hw (lv_sub hl [1, 2, 0, 3] rfl)
theorem wJ7_fill_53178_L5 (C : sn_C p s m args meth c RJ7 cJ7_fill_53178 4 none D ct ad lay A) {q0 : Nat} {n0 : Nat} {x1 : Int32} {x3 : Int32}  (h0 : lay[q0]? = some (.inl (0, n0, 0, []))) {z : sn_S × Int32} {t : sn_S} (h : sn_it (LJ7_fill_53178_5 q0 n0 x1 x3) 5000 z = some t) (kx : ∀ v, t = v → sn_At p l e rmJ7_fill_53178 s m args below meth c Q D ct ad lay A 4 v 20 [] []) : sn_At p l e rmJ7_fill_53178 s m args below meth c Q D ct ad lay A 4 z.1 5 [(0, .ref (ad q0)), (1, .int x1), (2, .int z.2), (3, .int x3)] [] :=
  sn_loop (f := LJ7_fill_53178_5 q0 n0 x1 x3) (G := fun z => sn_At p l e rmJ7_fill_53178 s m args below meth c Q D ct ad lay A 4 z.1 5 [(0, .ref (ad q0)), (1, .int x1), (2, .int z.2), (3, .int x3)] []) (E := fun t => (∀ v, t = v → sn_At p l e rmJ7_fill_53178 s m args below meth c Q D ct ad lay A 4 v 20 [] []) ∧ True) (fun z o hf k1 k2 => wJ7_fill_53178_5 C h0 hf (fun v e => k1 v e) (fun v e => (k2 _ e).1 v rfl)) 5000 z t h ⟨kx, trivial⟩
theorem wJ7_fill_53178_in (C : sn_C p s m args meth c RJ7 cJ7_fill_53178 4 none D ct ad lay A) {σ : sn_S} {q0 : Nat} {n0 : Nat} {x1 : Int32} (h0 : lay[q0]? = some (.inl (0, n0, 0, []))) {o : sn_S} (hf : fJ7_fill_53178 σ q0 n0 x1 = some o) (kr : sn_Kr p l e rmJ7_fill_53178 s m args below meth c Q D ct ad lay A cJ7_fill_53178 .return_ (true) o []) : sn_At p l e rmJ7_fill_53178 s m args below meth c Q D ct ad lay A 4 σ 0 [(0, .ref (ad q0)), (1, .int x1)] [] := by
  intro H locs ls hw hl
  have hx := C.1
  have hb := C.2.1
  unfold fJ7_fill_53178 at hf
  refine lv_iconst (v := 0) hx hb dJ7_fill_53178_0 rfl ?_
  refine lv_istore_n (lv' := [(2, .int (0 : Int32)), (0, .ref (ad q0)), (1, .int x1)]) hx hb dJ7_fill_53178_1 rfl hl (by decide) rfl (fun ls hl => ?_)
  refine lv_aload_n hx hb dJ7_fill_53178_2 rfl (lv_at hl 1 rfl) ?_
  refine sn_alen C hw h0 rfl rfl dJ7_fill_53178_3 ?_
  obtain ⟨y_1, e_2, hf⟩ := sn_ltE hf
  refine lv_topi (fun y_1_ e_2_ => ?_)
  obtain rfl : y_1 = y_1_ := e_2.trans e_2_.symm
  refine lv_istore_n (lv' := [(3, .int y_1), (2, .int (0 : Int32)), (0, .ref (ad q0)), (1, .int x1)]) hx hb dJ7_fill_53178_4 rfl hl (by decide) rfl (fun ls hl => ?_)
  obtain ⟨t_3, h_4, hf⟩ := sn_bd hf
  exact wJ7_fill_53178_L5 C h0 h_4 (fun v e => by cases e; exact wJ7_fill_53178_20 C h0 hf kr) _ _ _ hw (lv_sub hl [2, 3, 1, 0] rfl)
theorem ctJ7_fill_53178 (l : Launch) {σ : sn_S} {q0 : Nat} {n0 : Nat} {x1 : Int32} (h0 : lay[q0]? = some (.inl (0, n0, 0, []))) {o : sn_S} (hf : fJ7_fill_53178 σ q0 n0 x1 = some o) : sn_M l yJ7_fill_53178 cJ7_fill_53178 4 none rmJ7_fill_53178 lay (fun ad => [.ref (ad q0), .int x1]) σ none o :=
  sn_met (by decide) (fun _ => Nat.le_of_ble_eq_true rfl) (fun p e s m args below meth c ls D ct ad A C hw hl => wJ7_fill_53178_in C h0 hf (fun H locs ls pc hw ok hd => sn_vret C hw hd) _ _ _ hw hl)
-- X0_tellFrom
abbrev rmX0_tellFrom : Room := { frames := 1, cells := 0, slots := 0, locals := 48 }
def BX0_tellFrom_182 (σ : sn_S) (q0 : Nat) (q1 : Nat) : Option (sn_S) :=
  (some σ)
def BX0_tellFrom_139 (σ : sn_S) (q0 : Nat) (q1 : Nat) (x2 : Int32) : Option ((sn_S × Int32) ⊕ (sn_S)) :=
  (sn_gd (sn_in (6 : Int32) 11) (if (sn_I σ (q1 + 1) (6 : Int32).toNatClampNeg) ≤ x2 then
  (some (.inr (σ)))
  else
  (sn_gd (sn_in (((2 : Int32) * x2) + (1 : Int32)) 10) (sn_gd (sn_in (sn_I σ (q1 + 3) (((2 : Int32) * x2) + (1 : Int32)).toNatClampNeg) 30) (sn_gd (sn_in ((2 : Int32) * x2) 10) (sn_gd (sn_in (sn_I σ (q1 + 3) (((2 : Int32) * x2) + (1 : Int32)).toNatClampNeg) 30) (sn_lt (sn_pI σ (q0 + 1) (sn_I σ (q1 + 3) (((2 : Int32) * x2) + (1 : Int32)).toNatClampNeg).toNatClampNeg ((sn_I σ (q0 + 1) (sn_I σ (q1 + 3) (((2 : Int32) * x2) + (1 : Int32)).toNatClampNeg).toNatClampNeg) + (sn_I σ (q1 + 3) ((2 : Int32) * x2).toNatClampNeg))) fun σ_7 => (sn_lt (x2 + 1) fun y_9 => (some (.inl (σ_7, y_9)))))))))))
def LX0_tellFrom_139 (q0 : Nat) (q1 : Nat) (s : sn_S × Int32) : Option ((sn_S × Int32) ⊕ (sn_S)) := BX0_tellFrom_139 s.1 q0 q1 s.2
def BX0_tellFrom_124 (σ : sn_S) (q0 : Nat) (q1 : Nat) : Option (sn_S) :=
  (sn_gd (sn_in (1 : Int32) 11) ((fJ7_fill_53178 σ (q0 + 1) 30 (sn_I σ (q1 + 1) (1 : Int32).toNatClampNeg)).bind fun t_2 => ((sn_it (LX0_tellFrom_139 q0 q1) 5000 (t_2, (0 : Int32))).bind fun t_4 => (BX0_tellFrom_182 t_4 q0 q1))))
def BX0_tellFrom_56 (σ : sn_S) (q0 : Nat) (q1 : Nat) (x2 : Int32) : Option ((sn_S × Int32) ⊕ (sn_S)) :=
  (if (sn_I σ q0 1) ≤ x2 then
  (some (.inr (σ)))
  else
  (sn_gd (sn_in ((2 : Int32) * x2) 12) (sn_gd (sn_in x2 6) (sn_lt (sn_pI σ (q0 + 2) x2.toNatClampNeg (sn_I σ (q1 + 2) ((2 : Int32) * x2).toNatClampNeg)) fun σ_4 => (sn_gd (sn_in (((2 : Int32) * x2) + (1 : Int32)) 12) (sn_gd (sn_in x2 6) (sn_lt (sn_pI σ_4 (q0 + 3) x2.toNatClampNeg (sn_I σ_4 (q1 + 2) (((2 : Int32) * x2) + (1 : Int32)).toNatClampNeg)) fun σ_8 => ((fX2_minutesOfActs σ_8 q1 (0 : Int32) x2).bind fun t_10 => (sn_gd (sn_in x2 6) (sn_lt (sn_pI σ_8 (q0 + 4) x2.toNatClampNeg t_10) fun σ_13 => ((fX2_minutesOfActs σ_13 q1 (1 : Int32) x2).bind fun t_15 => (sn_gd (sn_in x2 6) (sn_lt (sn_pI σ_13 (q0 + 5) x2.toNatClampNeg t_15) fun σ_18 => (sn_lt (x2 + 1) fun y_20 => (some (.inl (σ_18, y_20)))))))))))))))))
def LX0_tellFrom_56 (q0 : Nat) (q1 : Nat) (s : sn_S × Int32) : Option ((sn_S × Int32) ⊕ (sn_S)) := BX0_tellFrom_56 s.1 q0 q1 s.2
def fX0_tellFrom (σ : sn_S) (q0 : Nat) (q1 : Nat) : Option sn_S :=
  (sn_gd (sn_in (0 : Int32) 11) (sn_lt (sn_pI σ q0 0 (sn_I σ (q1 + 1) (0 : Int32).toNatClampNeg)) fun σ_2 => (sn_gd (sn_in (5 : Int32) 11) (sn_lt (sn_pI σ_2 q0 1 (sn_I σ_2 (q1 + 1) (5 : Int32).toNatClampNeg)) fun σ_5 => (sn_gd (sn_in (7 : Int32) 11) (sn_lt (sn_pI σ_5 q0 2 (sn_I σ_5 (q1 + 1) (7 : Int32).toNatClampNeg)) fun σ_8 => (sn_lt (sn_pI σ_8 q0 3 (-1 : Int32)) fun σ_10 => (sn_gd (sn_cpok (0 : Int32) (0 : Int32) (Int32.ofNat 16) 16 16) (sn_lt (sn_wI σ_10 (q0 + 6) (va_cpy (sn_I σ_10 (q1 + 4)) (sn_I σ_10 (q0 + 6)) (0 : Int32).toNatClampNeg (0 : Int32).toNatClampNeg (Int32.ofNat 16).toNatClampNeg)) fun σ_13 => ((sn_it (LX0_tellFrom_56 q0 q1) 5000 (σ_13, (0 : Int32))).bind fun t_15 => (BX0_tellFrom_124 t_15 q0 q1)))))))))))
theorem wX0_tellFrom_182 (C : sn_C p s m args meth c RX0 cX0_tellFrom 3 none D ct ad layC A) {σ : sn_S} {q0 : Nat} {q1 : Nat} (h0 : sn_isX0 q0) (h1 : sn_isX2 q1) {o : sn_S} (hf : BX0_tellFrom_182 σ q0 q1 = some o) (kr : sn_Kr p l e rmX0_tellFrom s m args below meth c Q D ct ad layC A cX0_tellFrom .return_ (true) o []) : sn_At p l e rmX0_tellFrom s m args below meth c Q D ct ad layC A 3 σ 182 [] [] := by
  intro H locs ls hw hl
  have hx := C.1
  have hb := C.2.1
  unfold BX0_tellFrom_182 at hf
  cases hf
  exact kr _ _ _ _ hw rfl dX0_tellFrom_182
theorem wX0_tellFrom_139 (C : sn_C p s m args meth c RX0 cX0_tellFrom 3 none D ct ad layC A) {σ : sn_S} {q0 : Nat} {q1 : Nat} {x2 : Int32} (h0 : sn_isX0 q0) (h1 : sn_isX2 q1) {o : (sn_S × Int32) ⊕ (sn_S)} (hf : BX0_tellFrom_139 σ q0 q1 x2 = some o) (kc : ∀ v, o = .inl v → sn_At p l e rmX0_tellFrom s m args below meth c Q D ct ad layC A 3 v.1 139 [(0, .ref (ad q0)), (1, .ref (ad q1)), (2, .int v.2)] []) (kx : ∀ v, o = .inr v → sn_At p l e rmX0_tellFrom s m args below meth c Q D ct ad layC A 3 v 182 [] []) : sn_At p l e rmX0_tellFrom s m args below meth c Q D ct ad layC A 3 σ 139 [(0, .ref (ad q0)), (1, .ref (ad q1)), (2, .int x2)] [] := by
  intro H locs ls hw hl
  have hx := C.1
  have hb := C.2.1
  unfold BX0_tellFrom_139 at hf
  refine lv_iload_n hx hb dX0_tellFrom_139 rfl (lv_at hl 2 rfl) ?_
  refine lv_aload_n hx hb dX0_tellFrom_140 rfl (lv_at hl 1 rfl) ?_
  refine sn_getC (r := (q1 + 1)) C hw fd_RX0_46 (sn_look h1 (k := 0) rfl) rfl dX0_tellFrom_141 ?_
  refine lv_bipush (v := 6) hx hb dX0_tellFrom_144 (by decide) ?_
  obtain ⟨g_1, hf⟩ := sn_gdE hf
  refine sn_iald C hw (sn_look h1 (k := 1) rfl) g_1 dX0_tellFrom_146 ?_
  refine lv_icmp_ge (tgt := 182) hx hb dX0_tellFrom_147 (by decide) (fun c_2 => ?_) (fun c_2 => ?_)
  · have hf := sn_if c_2 hf
    cases hf
    exact kx _ rfl _ _ _ hw (lv_sub hl [] rfl)
  · have hf := sn_el c_2 hf
    refine lv_aload_n hx hb dX0_tellFrom_150 rfl (lv_at hl 0 rfl) ?_
    refine sn_getC (r := (q0 + 1)) C hw fd_RX0_15 (sn_look h0 (k := 0) rfl) rfl dX0_tellFrom_151 ?_
    refine lv_aload_n hx hb dX0_tellFrom_154 rfl (lv_at hl 1 rfl) ?_
    refine sn_getC (r := (q1 + 3)) C hw fd_RX0_80 (sn_look h1 (k := 0) rfl) rfl dX0_tellFrom_155 ?_
    refine lv_iconst (v := 2) hx hb dX0_tellFrom_158 rfl ?_
    refine lv_iload_n hx hb dX0_tellFrom_159 rfl (lv_at hl 2 rfl) ?_
    refine lv_imul hx hb dX0_tellFrom_160 ?_
    refine lv_iconst (v := 1) hx hb dX0_tellFrom_161 rfl ?_
    refine lv_iadd hx hb dX0_tellFrom_162 ?_
    obtain ⟨g_3, hf⟩ := sn_gdE hf
    refine sn_iald C hw (sn_look h1 (k := 3) rfl) g_3 dX0_tellFrom_163 ?_
    refine lv_dup2_11 hx hb dX0_tellFrom_164 rfl rfl ?_
    obtain ⟨g_4, hf⟩ := sn_gdE hf
    refine sn_iald C hw (sn_look h0 (k := 1) rfl) g_4 dX0_tellFrom_165 ?_
    refine lv_aload_n hx hb dX0_tellFrom_166 rfl (lv_at hl 1 rfl) ?_
    refine sn_getC (r := (q1 + 3)) C hw fd_RX0_80 (sn_look h1 (k := 0) rfl) rfl dX0_tellFrom_167 ?_
    refine lv_iconst (v := 2) hx hb dX0_tellFrom_170 rfl ?_
    refine lv_iload_n hx hb dX0_tellFrom_171 rfl (lv_at hl 2 rfl) ?_
    refine lv_imul hx hb dX0_tellFrom_172 ?_
    obtain ⟨g_5, hf⟩ := sn_gdE hf
    refine sn_iald C hw (sn_look h1 (k := 3) rfl) g_5 dX0_tellFrom_173 ?_
    refine lv_iadd hx hb dX0_tellFrom_174 ?_
    obtain ⟨g_6, hf⟩ := sn_gdE hf
    refine sn_iast C hw (sn_look h0 (k := 1) rfl) g_6 dX0_tellFrom_175 (fun H locs hw => ?_)
    obtain ⟨σ_7, e_8, hf⟩ := sn_ltE hf
    rw [← e_8] at hw
    obtain ⟨y_9, e_10, hf⟩ := sn_ltE hf
    refine lv_iinc (v := y_9) (lv' := [(2, .int y_9), (0, .ref (ad q0)), (1, .ref (ad q1))]) hx hb dX0_tellFrom_176 hl (k := 2) rfl (by rw [e_10]; rfl) (by decide) rfl (fun ls hl => ?_)
    refine lv_goto (tgt := 139) hx hb dX0_tellFrom_179 (by decide) ?_
    cases hf
    exact kc _ rfl _ _ _ hw (lv_sub hl [1, 2, 0] rfl)
theorem wX0_tellFrom_L139 (C : sn_C p s m args meth c RX0 cX0_tellFrom 3 none D ct ad layC A) {q0 : Nat} {q1 : Nat}  (h0 : sn_isX0 q0) (h1 : sn_isX2 q1) {z : sn_S × Int32} {t : sn_S} (h : sn_it (LX0_tellFrom_139 q0 q1) 5000 z = some t) (kx : ∀ v, t = v → sn_At p l e rmX0_tellFrom s m args below meth c Q D ct ad layC A 3 v 182 [] []) : sn_At p l e rmX0_tellFrom s m args below meth c Q D ct ad layC A 3 z.1 139 [(0, .ref (ad q0)), (1, .ref (ad q1)), (2, .int z.2)] [] :=
  sn_loop (f := LX0_tellFrom_139 q0 q1) (G := fun z => sn_At p l e rmX0_tellFrom s m args below meth c Q D ct ad layC A 3 z.1 139 [(0, .ref (ad q0)), (1, .ref (ad q1)), (2, .int z.2)] []) (E := fun t => (∀ v, t = v → sn_At p l e rmX0_tellFrom s m args below meth c Q D ct ad layC A 3 v 182 [] []) ∧ True) (fun z o hf k1 k2 => wX0_tellFrom_139 C h0 h1 hf (fun v e => k1 v e) (fun v e => (k2 _ e).1 v rfl)) 5000 z t h ⟨kx, trivial⟩
theorem wX0_tellFrom_124 (C : sn_C p s m args meth c RX0 cX0_tellFrom 3 none D ct ad layC A) {σ : sn_S} {q0 : Nat} {q1 : Nat} (h0 : sn_isX0 q0) (h1 : sn_isX2 q1) {o : sn_S} (hf : BX0_tellFrom_124 σ q0 q1 = some o) (kr : sn_Kr p l e rmX0_tellFrom s m args below meth c Q D ct ad layC A cX0_tellFrom .return_ (true) o []) : sn_At p l e rmX0_tellFrom s m args below meth c Q D ct ad layC A 3 σ 124 [(0, .ref (ad q0)), (1, .ref (ad q1))] [] := by
  intro H locs ls hw hl
  have hx := C.1
  have hb := C.2.1
  unfold BX0_tellFrom_124 at hf
  refine lv_aload_n hx hb dX0_tellFrom_124 rfl (lv_at hl 0 rfl) ?_
  refine sn_getC (r := (q0 + 1)) C hw fd_RX0_15 (sn_look h0 (k := 0) rfl) rfl dX0_tellFrom_125 ?_
  refine lv_aload_n hx hb dX0_tellFrom_128 rfl (lv_at hl 1 rfl) ?_
  refine sn_getC (r := (q1 + 1)) C hw fd_RX0_46 (sn_look h1 (k := 0) rfl) rfl dX0_tellFrom_129 ?_
  refine lv_iconst (v := 1) hx hb dX0_tellFrom_132 rfl ?_
  obtain ⟨g_1, hf⟩ := sn_gdE hf
  refine sn_iald C hw (sn_look h1 (k := 1) rfl) g_1 dX0_tellFrom_133 ?_
  obtain ⟨t_2, h_3, hf⟩ := sn_bd hf
  refine sn_callSv (rest := []) C hw (ctJ7_fill_53178 l (sn_look h0 (k := 1) rfl) h_3) kl_RX0_74 rfl rfl rfl (Nat.le_of_ble_eq_true rfl) dX0_tellFrom_134 hl.1 (fun H locs hw => ?_)
  refine lv_iconst (v := 0) hx hb dX0_tellFrom_137 rfl ?_
  refine lv_istore_n (lv' := [(2, .int (0 : Int32)), (0, .ref (ad q0)), (1, .ref (ad q1))]) hx hb dX0_tellFrom_138 rfl hl (by decide) rfl (fun ls hl => ?_)
  obtain ⟨t_4, h_5, hf⟩ := sn_bd hf
  exact wX0_tellFrom_L139 C h0 h1 h_5 (fun v e => by cases e; exact wX0_tellFrom_182 C h0 h1 hf kr) _ _ _ hw (lv_sub hl [1, 2, 0] rfl)
theorem wX0_tellFrom_56 (C : sn_C p s m args meth c RX0 cX0_tellFrom 3 none D ct ad layC A) {σ : sn_S} {q0 : Nat} {q1 : Nat} {x2 : Int32} (h0 : sn_isX0 q0) (h1 : sn_isX2 q1) {o : (sn_S × Int32) ⊕ (sn_S)} (hf : BX0_tellFrom_56 σ q0 q1 x2 = some o) (kc : ∀ v, o = .inl v → sn_At p l e rmX0_tellFrom s m args below meth c Q D ct ad layC A 3 v.1 56 [(0, .ref (ad q0)), (1, .ref (ad q1)), (2, .int v.2)] []) (kx : ∀ v, o = .inr v → sn_At p l e rmX0_tellFrom s m args below meth c Q D ct ad layC A 3 v 124 [(0, .ref (ad q0)), (1, .ref (ad q1))] []) : sn_At p l e rmX0_tellFrom s m args below meth c Q D ct ad layC A 3 σ 56 [(0, .ref (ad q0)), (1, .ref (ad q1)), (2, .int x2)] [] := by
  intro H locs ls hw hl
  have hx := C.1
  have hb := C.2.1
  unfold BX0_tellFrom_56 at hf
  refine lv_iload_n hx hb dX0_tellFrom_56 rfl (lv_at hl 2 rfl) ?_
  refine lv_aload_n hx hb dX0_tellFrom_57 rfl (lv_at hl 0 rfl) ?_
  refine sn_getI C hw fd_RX0_54 (sn_look h0 (k := 0) rfl) rfl dX0_tellFrom_58 ?_
  refine lv_icmp_ge (tgt := 124) hx hb dX0_tellFrom_61 (by decide) (fun c_1 => ?_) (fun c_1 => ?_)
  · have hf := sn_if c_1 hf
    cases hf
    exact kx _ rfl _ _ _ hw (lv_sub hl [0, 1] rfl)
  · have hf := sn_el c_1 hf
    refine lv_aload_n hx hb dX0_tellFrom_64 rfl (lv_at hl 0 rfl) ?_
    refine sn_getC (r := (q0 + 2)) C hw fd_RX0_19 (sn_look h0 (k := 0) rfl) rfl dX0_tellFrom_65 ?_
    refine lv_iload_n hx hb dX0_tellFrom_68 rfl (lv_at hl 2 rfl) ?_
    refine lv_aload_n hx hb dX0_tellFrom_69 rfl (lv_at hl 1 rfl) ?_
    refine sn_getC (r := (q1 + 2)) C hw fd_RX0_67 (sn_look h1 (k := 0) rfl) rfl dX0_tellFrom_70 ?_
    refine lv_iconst (v := 2) hx hb dX0_tellFrom_73 rfl ?_
    refine lv_iload_n hx hb dX0_tellFrom_74 rfl (lv_at hl 2 rfl) ?_
    refine lv_imul hx hb dX0_tellFrom_75 ?_
    obtain ⟨g_2, hf⟩ := sn_gdE hf
    refine sn_iald C hw (sn_look h1 (k := 2) rfl) g_2 dX0_tellFrom_76 ?_
    obtain ⟨g_3, hf⟩ := sn_gdE hf
    refine sn_iast C hw (sn_look h0 (k := 2) rfl) g_3 dX0_tellFrom_77 (fun H locs hw => ?_)
    obtain ⟨σ_4, e_5, hf⟩ := sn_ltE hf
    rw [← e_5] at hw
    refine lv_aload_n hx hb dX0_tellFrom_78 rfl (lv_at hl 0 rfl) ?_
    refine sn_getC (r := (q0 + 3)) C hw fd_RX0_22 (sn_look h0 (k := 0) rfl) rfl dX0_tellFrom_79 ?_
    refine lv_iload_n hx hb dX0_tellFrom_82 rfl (lv_at hl 2 rfl) ?_
    refine lv_aload_n hx hb dX0_tellFrom_83 rfl (lv_at hl 1 rfl) ?_
    refine sn_getC (r := (q1 + 2)) C hw fd_RX0_67 (sn_look h1 (k := 0) rfl) rfl dX0_tellFrom_84 ?_
    refine lv_iconst (v := 2) hx hb dX0_tellFrom_87 rfl ?_
    refine lv_iload_n hx hb dX0_tellFrom_88 rfl (lv_at hl 2 rfl) ?_
    refine lv_imul hx hb dX0_tellFrom_89 ?_
    refine lv_iconst (v := 1) hx hb dX0_tellFrom_90 rfl ?_
    refine lv_iadd hx hb dX0_tellFrom_91 ?_
    obtain ⟨g_6, hf⟩ := sn_gdE hf
    refine sn_iald C hw (sn_look h1 (k := 2) rfl) g_6 dX0_tellFrom_92 ?_
    obtain ⟨g_7, hf⟩ := sn_gdE hf
    refine sn_iast C hw (sn_look h0 (k := 3) rfl) g_7 dX0_tellFrom_93 (fun H locs hw => ?_)
    obtain ⟨σ_8, e_9, hf⟩ := sn_ltE hf
    rw [← e_9] at hw
    refine lv_aload_n hx hb dX0_tellFrom_94 rfl (lv_at hl 0 rfl) ?_
    refine sn_getC (r := (q0 + 4)) C hw fd_RX0_25 (sn_look h0 (k := 0) rfl) rfl dX0_tellFrom_95 ?_
    refine lv_iload_n hx hb dX0_tellFrom_98 rfl (lv_at hl 2 rfl) ?_
    refine lv_aload_n hx hb dX0_tellFrom_99 rfl (lv_at hl 1 rfl) ?_
    refine lv_iconst (v := 0) hx hb dX0_tellFrom_100 rfl ?_
    refine lv_iload_n hx hb dX0_tellFrom_101 rfl (lv_at hl 2 rfl) ?_
    obtain ⟨t_10, h_11, hf⟩ := sn_bd hf
    refine sn_callVi (rest := [.int x2, .ref (ad (q0 + 4))]) C hw (ctX2_minutesOfActs l h1 h_11) kl_RX0_70 (sn_look h1 (k := 0) rfl) rfl rfl rfl rfl (Nat.le_of_ble_eq_true rfl) dX0_tellFrom_102 hl.1 (fun H locs hw => ?_)
    obtain ⟨g_12, hf⟩ := sn_gdE hf
    refine sn_iast C hw (sn_look h0 (k := 4) rfl) g_12 dX0_tellFrom_105 (fun H locs hw => ?_)
    obtain ⟨σ_13, e_14, hf⟩ := sn_ltE hf
    rw [← e_14] at hw
    refine lv_aload_n hx hb dX0_tellFrom_106 rfl (lv_at hl 0 rfl) ?_
    refine sn_getC (r := (q0 + 5)) C hw fd_RX0_28 (sn_look h0 (k := 0) rfl) rfl dX0_tellFrom_107 ?_
    refine lv_iload_n hx hb dX0_tellFrom_110 rfl (lv_at hl 2 rfl) ?_
    refine lv_aload_n hx hb dX0_tellFrom_111 rfl (lv_at hl 1 rfl) ?_
    refine lv_iconst (v := 1) hx hb dX0_tellFrom_112 rfl ?_
    refine lv_iload_n hx hb dX0_tellFrom_113 rfl (lv_at hl 2 rfl) ?_
    obtain ⟨t_15, h_16, hf⟩ := sn_bd hf
    refine sn_callVi (rest := [.int x2, .ref (ad (q0 + 5))]) C hw (ctX2_minutesOfActs l h1 h_16) kl_RX0_70 (sn_look h1 (k := 0) rfl) rfl rfl rfl rfl (Nat.le_of_ble_eq_true rfl) dX0_tellFrom_114 hl.1 (fun H locs hw => ?_)
    obtain ⟨g_17, hf⟩ := sn_gdE hf
    refine sn_iast C hw (sn_look h0 (k := 5) rfl) g_17 dX0_tellFrom_117 (fun H locs hw => ?_)
    obtain ⟨σ_18, e_19, hf⟩ := sn_ltE hf
    rw [← e_19] at hw
    obtain ⟨y_20, e_21, hf⟩ := sn_ltE hf
    refine lv_iinc (v := y_20) (lv' := [(2, .int y_20), (0, .ref (ad q0)), (1, .ref (ad q1))]) hx hb dX0_tellFrom_118 hl (k := 2) rfl (by rw [e_21]; rfl) (by decide) rfl (fun ls hl => ?_)
    refine lv_goto (tgt := 56) hx hb dX0_tellFrom_121 (by decide) ?_
    cases hf
    exact kc _ rfl _ _ _ hw (lv_sub hl [1, 2, 0] rfl)
theorem wX0_tellFrom_L56 (C : sn_C p s m args meth c RX0 cX0_tellFrom 3 none D ct ad layC A) {q0 : Nat} {q1 : Nat}  (h0 : sn_isX0 q0) (h1 : sn_isX2 q1) {z : sn_S × Int32} {t : sn_S} (h : sn_it (LX0_tellFrom_56 q0 q1) 5000 z = some t) (kx : ∀ v, t = v → sn_At p l e rmX0_tellFrom s m args below meth c Q D ct ad layC A 3 v 124 [(0, .ref (ad q0)), (1, .ref (ad q1))] []) : sn_At p l e rmX0_tellFrom s m args below meth c Q D ct ad layC A 3 z.1 56 [(0, .ref (ad q0)), (1, .ref (ad q1)), (2, .int z.2)] [] :=
  sn_loop (f := LX0_tellFrom_56 q0 q1) (G := fun z => sn_At p l e rmX0_tellFrom s m args below meth c Q D ct ad layC A 3 z.1 56 [(0, .ref (ad q0)), (1, .ref (ad q1)), (2, .int z.2)] []) (E := fun t => (∀ v, t = v → sn_At p l e rmX0_tellFrom s m args below meth c Q D ct ad layC A 3 v 124 [(0, .ref (ad q0)), (1, .ref (ad q1))] []) ∧ True) (fun z o hf k1 k2 => wX0_tellFrom_56 C h0 h1 hf (fun v e => k1 v e) (fun v e => (k2 _ e).1 v rfl)) 5000 z t h ⟨kx, trivial⟩
theorem wX0_tellFrom_in (C : sn_C p s m args meth c RX0 cX0_tellFrom 3 none D ct ad layC A) {σ : sn_S} {q0 : Nat} {q1 : Nat} (h0 : sn_isX0 q0) (h1 : sn_isX2 q1) {o : sn_S} (hf : fX0_tellFrom σ q0 q1 = some o) (kr : sn_Kr p l e rmX0_tellFrom s m args below meth c Q D ct ad layC A cX0_tellFrom .return_ (true) o []) : sn_At p l e rmX0_tellFrom s m args below meth c Q D ct ad layC A 3 σ 0 [(0, .ref (ad q0)), (1, .ref (ad q1))] [] := by
  intro H locs ls hw hl
  have hx := C.1
  have hb := C.2.1
  unfold fX0_tellFrom at hf
  refine lv_aload_n hx hb dX0_tellFrom_0 rfl (lv_at hl 0 rfl) ?_
  refine lv_aload_n hx hb dX0_tellFrom_1 rfl (lv_at hl 1 rfl) ?_
  refine sn_getC (r := (q1 + 1)) C hw fd_RX0_46 (sn_look h1 (k := 0) rfl) rfl dX0_tellFrom_2 ?_
  refine lv_iconst (v := 0) hx hb dX0_tellFrom_5 rfl ?_
  obtain ⟨g_1, hf⟩ := sn_gdE hf
  refine sn_iald C hw (sn_look h1 (k := 1) rfl) g_1 dX0_tellFrom_6 ?_
  refine sn_putI C hw fp_RX0_51 (sn_look h0 (k := 0) rfl) rfl dX0_tellFrom_7 (fun H locs hw => ?_)
  obtain ⟨σ_2, e_3, hf⟩ := sn_ltE hf
  rw [← e_3] at hw
  refine lv_aload_n hx hb dX0_tellFrom_10 rfl (lv_at hl 0 rfl) ?_
  refine lv_aload_n hx hb dX0_tellFrom_11 rfl (lv_at hl 1 rfl) ?_
  refine sn_getC (r := (q1 + 1)) C hw fd_RX0_46 (sn_look h1 (k := 0) rfl) rfl dX0_tellFrom_12 ?_
  refine lv_iconst (v := 5) hx hb dX0_tellFrom_15 rfl ?_
  obtain ⟨g_4, hf⟩ := sn_gdE hf
  refine sn_iald C hw (sn_look h1 (k := 1) rfl) g_4 dX0_tellFrom_16 ?_
  refine sn_putI C hw fp_RX0_54 (sn_look h0 (k := 0) rfl) rfl dX0_tellFrom_17 (fun H locs hw => ?_)
  obtain ⟨σ_5, e_6, hf⟩ := sn_ltE hf
  rw [← e_6] at hw
  refine lv_aload_n hx hb dX0_tellFrom_20 rfl (lv_at hl 0 rfl) ?_
  refine lv_aload_n hx hb dX0_tellFrom_21 rfl (lv_at hl 1 rfl) ?_
  refine sn_getC (r := (q1 + 1)) C hw fd_RX0_46 (sn_look h1 (k := 0) rfl) rfl dX0_tellFrom_22 ?_
  refine lv_bipush (v := 7) hx hb dX0_tellFrom_25 (by decide) ?_
  obtain ⟨g_7, hf⟩ := sn_gdE hf
  refine sn_iald C hw (sn_look h1 (k := 1) rfl) g_7 dX0_tellFrom_27 ?_
  refine sn_putI C hw fp_RX0_57 (sn_look h0 (k := 0) rfl) rfl dX0_tellFrom_28 (fun H locs hw => ?_)
  obtain ⟨σ_8, e_9, hf⟩ := sn_ltE hf
  rw [← e_9] at hw
  refine lv_aload_n hx hb dX0_tellFrom_31 rfl (lv_at hl 0 rfl) ?_
  refine lv_iconst (v := (-1)) hx hb dX0_tellFrom_32 rfl ?_
  refine sn_putI C hw fp_RX0_9 (sn_look h0 (k := 0) rfl) rfl dX0_tellFrom_33 (fun H locs hw => ?_)
  obtain ⟨σ_10, e_11, hf⟩ := sn_ltE hf
  rw [← e_11] at hw
  refine lv_aload_n hx hb dX0_tellFrom_36 rfl (lv_at hl 1 rfl) ?_
  refine sn_getC (r := (q1 + 4)) C hw fd_RX0_60 (sn_look h1 (k := 0) rfl) rfl dX0_tellFrom_37 ?_
  refine lv_iconst (v := 0) hx hb dX0_tellFrom_40 rfl ?_
  refine lv_aload_n hx hb dX0_tellFrom_41 rfl (lv_at hl 0 rfl) ?_
  refine sn_getC (r := (q0 + 6)) C hw fd_RX0_31 (sn_look h0 (k := 0) rfl) rfl dX0_tellFrom_42 ?_
  refine lv_iconst (v := 0) hx hb dX0_tellFrom_45 rfl ?_
  refine lv_aload_n hx hb dX0_tellFrom_46 rfl (lv_at hl 0 rfl) ?_
  refine sn_getC (r := (q0 + 6)) C hw fd_RX0_31 (sn_look h0 (k := 0) rfl) rfl dX0_tellFrom_47 ?_
  refine sn_alen C hw (sn_look h0 (k := 6) rfl) rfl rfl dX0_tellFrom_50 ?_
  obtain ⟨g_12, hf⟩ := sn_gdE hf
  refine sn_cpyI (rest := []) C hw km_RX0_61 kna_copy kst_copy ki_System (sn_look h1 (k := 4) rfl) (sn_look h0 (k := 6) rfl) g_12 (Nat.le_of_ble_eq_true rfl) (Nat.le_of_ble_eq_true rfl) dX0_tellFrom_51 hl.1 (fun H locs hw => ?_)
  obtain ⟨σ_13, e_14, hf⟩ := sn_ltE hf
  rw [← e_14] at hw
  refine lv_iconst (v := 0) hx hb dX0_tellFrom_54 rfl ?_
  refine lv_istore_n (lv' := [(2, .int (0 : Int32)), (0, .ref (ad q0)), (1, .ref (ad q1))]) hx hb dX0_tellFrom_55 rfl hl (by decide) rfl (fun ls hl => ?_)
  obtain ⟨t_15, h_16, hf⟩ := sn_bd hf
  exact wX0_tellFrom_L56 C h0 h1 h_16 (fun v e => by cases e; exact wX0_tellFrom_124 C h0 h1 hf kr) _ _ _ hw (lv_sub hl [1, 2, 0] rfl)
theorem ctX0_tellFrom (l : Launch) {σ : sn_S} {q0 : Nat} {q1 : Nat} (h0 : sn_isX0 q0) (h1 : sn_isX2 q1) {o : sn_S} (hf : fX0_tellFrom σ q0 q1 = some o) : sn_M l yX0_tellFrom cX0_tellFrom 3 none rmX0_tellFrom layC (fun ad => [.ref (ad q0), .ref (ad q1)]) σ none o :=
  sn_met (by decide) (fun _ => Nat.le_of_ble_eq_true rfl) (fun p e s m args below meth c ls D ct ad A C hw hl => wX0_tellFrom_in C h0 h1 hf (fun H locs ls pc hw ok hd => sn_vret C hw hd) _ _ _ hw hl)
-- X0_copyFrom
abbrev rmX0_copyFrom : Room := { frames := 1, cells := 0, slots := 0, locals := 48 }
def fX0_copyFrom (σ : sn_S) (q0 : Nat) (q1 : Nat) : Option sn_S :=
  (sn_lt (sn_pI σ q0 0 (sn_I σ q1 0)) fun σ_1 => (sn_lt (sn_pI σ_1 q0 1 (sn_I σ_1 q1 1)) fun σ_3 => (sn_lt (sn_pI σ_3 q0 2 (sn_I σ_3 q1 2)) fun σ_5 => (sn_lt (sn_pI σ_5 q0 3 (sn_I σ_5 q1 3)) fun σ_7 => (sn_gd (sn_cpok (0 : Int32) (0 : Int32) (Int32.ofNat 30) 30 30) (sn_lt (sn_wI σ_7 (q0 + 1) (va_cpy (sn_I σ_7 (q1 + 1)) (sn_I σ_7 (q0 + 1)) (0 : Int32).toNatClampNeg (0 : Int32).toNatClampNeg (Int32.ofNat 30).toNatClampNeg)) fun σ_10 => (sn_gd (sn_cpok (0 : Int32) (0 : Int32) (Int32.ofNat 6) 6 6) (sn_lt (sn_wI σ_10 (q0 + 2) (va_cpy (sn_I σ_10 (q1 + 2)) (sn_I σ_10 (q0 + 2)) (0 : Int32).toNatClampNeg (0 : Int32).toNatClampNeg (Int32.ofNat 6).toNatClampNeg)) fun σ_13 => (sn_gd (sn_cpok (0 : Int32) (0 : Int32) (Int32.ofNat 6) 6 6) (sn_lt (sn_wI σ_13 (q0 + 3) (va_cpy (sn_I σ_13 (q1 + 3)) (sn_I σ_13 (q0 + 3)) (0 : Int32).toNatClampNeg (0 : Int32).toNatClampNeg (Int32.ofNat 6).toNatClampNeg)) fun σ_16 => (sn_gd (sn_cpok (0 : Int32) (0 : Int32) (Int32.ofNat 6) 6 6) (sn_lt (sn_wI σ_16 (q0 + 4) (va_cpy (sn_I σ_16 (q1 + 4)) (sn_I σ_16 (q0 + 4)) (0 : Int32).toNatClampNeg (0 : Int32).toNatClampNeg (Int32.ofNat 6).toNatClampNeg)) fun σ_19 => (sn_gd (sn_cpok (0 : Int32) (0 : Int32) (Int32.ofNat 6) 6 6) (sn_lt (sn_wI σ_19 (q0 + 5) (va_cpy (sn_I σ_19 (q1 + 5)) (sn_I σ_19 (q0 + 5)) (0 : Int32).toNatClampNeg (0 : Int32).toNatClampNeg (Int32.ofNat 6).toNatClampNeg)) fun σ_22 => (sn_gd (sn_cpok (0 : Int32) (0 : Int32) (Int32.ofNat 16) 16 16) (sn_lt (sn_wI σ_22 (q0 + 6) (va_cpy (sn_I σ_22 (q1 + 6)) (sn_I σ_22 (q0 + 6)) (0 : Int32).toNatClampNeg (0 : Int32).toNatClampNeg (Int32.ofNat 16).toNatClampNeg)) fun σ_25 => (sn_gd (sn_cpok (0 : Int32) (0 : Int32) (Int32.ofNat 180) 180 180) (sn_lt (sn_wI σ_25 (q0 + 7) (va_cpy (sn_I σ_25 (q1 + 7)) (sn_I σ_25 (q0 + 7)) (0 : Int32).toNatClampNeg (0 : Int32).toNatClampNeg (Int32.ofNat 180).toNatClampNeg)) fun σ_28 => (sn_gd (sn_cpok (0 : Int32) (0 : Int32) (Int32.ofNat 180) 180 180) (sn_lt (sn_wI σ_28 (q0 + 8) (va_cpy (sn_I σ_28 (q1 + 8)) (sn_I σ_28 (q0 + 8)) (0 : Int32).toNatClampNeg (0 : Int32).toNatClampNeg (Int32.ofNat 180).toNatClampNeg)) fun σ_31 => (sn_gd (sn_cpok (0 : Int32) (0 : Int32) (Int32.ofNat 30) 30 30) (sn_lt (sn_wI σ_31 (q0 + 9) (va_cpy (sn_I σ_31 (q1 + 9)) (sn_I σ_31 (q0 + 9)) (0 : Int32).toNatClampNeg (0 : Int32).toNatClampNeg (Int32.ofNat 30).toNatClampNeg)) fun σ_34 => (sn_gd (sn_cpok (0 : Int32) (0 : Int32) (Int32.ofNat 6) 6 6) (sn_lt (sn_wI σ_34 (q0 + 10) (va_cpy (sn_I σ_34 (q1 + 10)) (sn_I σ_34 (q0 + 10)) (0 : Int32).toNatClampNeg (0 : Int32).toNatClampNeg (Int32.ofNat 6).toNatClampNeg)) fun σ_37 => (some σ_37)))))))))))))))))))))))))
theorem wX0_copyFrom_in (C : sn_C p s m args meth c RX0 cX0_copyFrom 2 none D ct ad layC A) {σ : sn_S} {q0 : Nat} {q1 : Nat} (h0 : sn_isX0 q0) (h1 : sn_isX0 q1) {o : sn_S} (hf : fX0_copyFrom σ q0 q1 = some o) (kr : sn_Kr p l e rmX0_copyFrom s m args below meth c Q D ct ad layC A cX0_copyFrom .return_ (true) o []) : sn_At p l e rmX0_copyFrom s m args below meth c Q D ct ad layC A 2 σ 0 [(0, .ref (ad q0)), (1, .ref (ad q1))] [] := by
  intro H locs ls hw hl
  have hx := C.1
  have hb := C.2.1
  unfold fX0_copyFrom at hf
  refine lv_aload_n hx hb dX0_copyFrom_0 rfl (lv_at hl 0 rfl) ?_
  refine lv_aload_n hx hb dX0_copyFrom_1 rfl (lv_at hl 1 rfl) ?_
  refine sn_getI C hw fd_RX0_51 (sn_look h1 (k := 0) rfl) rfl dX0_copyFrom_2 ?_
  refine sn_putI C hw fp_RX0_51 (sn_look h0 (k := 0) rfl) rfl dX0_copyFrom_5 (fun H locs hw => ?_)
  obtain ⟨σ_1, e_2, hf⟩ := sn_ltE hf
  rw [← e_2] at hw
  refine lv_aload_n hx hb dX0_copyFrom_8 rfl (lv_at hl 0 rfl) ?_
  refine lv_aload_n hx hb dX0_copyFrom_9 rfl (lv_at hl 1 rfl) ?_
  refine sn_getI C hw fd_RX0_54 (sn_look h1 (k := 0) rfl) rfl dX0_copyFrom_10 ?_
  refine sn_putI C hw fp_RX0_54 (sn_look h0 (k := 0) rfl) rfl dX0_copyFrom_13 (fun H locs hw => ?_)
  obtain ⟨σ_3, e_4, hf⟩ := sn_ltE hf
  rw [← e_4] at hw
  refine lv_aload_n hx hb dX0_copyFrom_16 rfl (lv_at hl 0 rfl) ?_
  refine lv_aload_n hx hb dX0_copyFrom_17 rfl (lv_at hl 1 rfl) ?_
  refine sn_getI C hw fd_RX0_57 (sn_look h1 (k := 0) rfl) rfl dX0_copyFrom_18 ?_
  refine sn_putI C hw fp_RX0_57 (sn_look h0 (k := 0) rfl) rfl dX0_copyFrom_21 (fun H locs hw => ?_)
  obtain ⟨σ_5, e_6, hf⟩ := sn_ltE hf
  rw [← e_6] at hw
  refine lv_aload_n hx hb dX0_copyFrom_24 rfl (lv_at hl 0 rfl) ?_
  refine lv_aload_n hx hb dX0_copyFrom_25 rfl (lv_at hl 1 rfl) ?_
  refine sn_getI C hw fd_RX0_9 (sn_look h1 (k := 0) rfl) rfl dX0_copyFrom_26 ?_
  refine sn_putI C hw fp_RX0_9 (sn_look h0 (k := 0) rfl) rfl dX0_copyFrom_29 (fun H locs hw => ?_)
  obtain ⟨σ_7, e_8, hf⟩ := sn_ltE hf
  rw [← e_8] at hw
  refine lv_aload_n hx hb dX0_copyFrom_32 rfl (lv_at hl 1 rfl) ?_
  refine sn_getC (r := (q1 + 1)) C hw fd_RX0_15 (sn_look h1 (k := 0) rfl) rfl dX0_copyFrom_33 ?_
  refine lv_iconst (v := 0) hx hb dX0_copyFrom_36 rfl ?_
  refine lv_aload_n hx hb dX0_copyFrom_37 rfl (lv_at hl 0 rfl) ?_
  refine sn_getC (r := (q0 + 1)) C hw fd_RX0_15 (sn_look h0 (k := 0) rfl) rfl dX0_copyFrom_38 ?_
  refine lv_iconst (v := 0) hx hb dX0_copyFrom_41 rfl ?_
  refine lv_aload_n hx hb dX0_copyFrom_42 rfl (lv_at hl 0 rfl) ?_
  refine sn_getC (r := (q0 + 1)) C hw fd_RX0_15 (sn_look h0 (k := 0) rfl) rfl dX0_copyFrom_43 ?_
  refine sn_alen C hw (sn_look h0 (k := 1) rfl) rfl rfl dX0_copyFrom_46 ?_
  obtain ⟨g_9, hf⟩ := sn_gdE hf
  refine sn_cpyI (rest := []) C hw km_RX0_61 kna_copy kst_copy ki_System (sn_look h1 (k := 1) rfl) (sn_look h0 (k := 1) rfl) g_9 (Nat.le_of_ble_eq_true rfl) (Nat.le_of_ble_eq_true rfl) dX0_copyFrom_47 hl.1 (fun H locs hw => ?_)
  obtain ⟨σ_10, e_11, hf⟩ := sn_ltE hf
  rw [← e_11] at hw
  refine lv_aload_n hx hb dX0_copyFrom_50 rfl (lv_at hl 1 rfl) ?_
  refine sn_getC (r := (q1 + 2)) C hw fd_RX0_19 (sn_look h1 (k := 0) rfl) rfl dX0_copyFrom_51 ?_
  refine lv_iconst (v := 0) hx hb dX0_copyFrom_54 rfl ?_
  refine lv_aload_n hx hb dX0_copyFrom_55 rfl (lv_at hl 0 rfl) ?_
  refine sn_getC (r := (q0 + 2)) C hw fd_RX0_19 (sn_look h0 (k := 0) rfl) rfl dX0_copyFrom_56 ?_
  refine lv_iconst (v := 0) hx hb dX0_copyFrom_59 rfl ?_
  refine lv_aload_n hx hb dX0_copyFrom_60 rfl (lv_at hl 0 rfl) ?_
  refine sn_getC (r := (q0 + 2)) C hw fd_RX0_19 (sn_look h0 (k := 0) rfl) rfl dX0_copyFrom_61 ?_
  refine sn_alen C hw (sn_look h0 (k := 2) rfl) rfl rfl dX0_copyFrom_64 ?_
  obtain ⟨g_12, hf⟩ := sn_gdE hf
  refine sn_cpyI (rest := []) C hw km_RX0_61 kna_copy kst_copy ki_System (sn_look h1 (k := 2) rfl) (sn_look h0 (k := 2) rfl) g_12 (Nat.le_of_ble_eq_true rfl) (Nat.le_of_ble_eq_true rfl) dX0_copyFrom_65 hl.1 (fun H locs hw => ?_)
  obtain ⟨σ_13, e_14, hf⟩ := sn_ltE hf
  rw [← e_14] at hw
  refine lv_aload_n hx hb dX0_copyFrom_68 rfl (lv_at hl 1 rfl) ?_
  refine sn_getC (r := (q1 + 3)) C hw fd_RX0_22 (sn_look h1 (k := 0) rfl) rfl dX0_copyFrom_69 ?_
  refine lv_iconst (v := 0) hx hb dX0_copyFrom_72 rfl ?_
  refine lv_aload_n hx hb dX0_copyFrom_73 rfl (lv_at hl 0 rfl) ?_
  refine sn_getC (r := (q0 + 3)) C hw fd_RX0_22 (sn_look h0 (k := 0) rfl) rfl dX0_copyFrom_74 ?_
  refine lv_iconst (v := 0) hx hb dX0_copyFrom_77 rfl ?_
  refine lv_aload_n hx hb dX0_copyFrom_78 rfl (lv_at hl 0 rfl) ?_
  refine sn_getC (r := (q0 + 3)) C hw fd_RX0_22 (sn_look h0 (k := 0) rfl) rfl dX0_copyFrom_79 ?_
  refine sn_alen C hw (sn_look h0 (k := 3) rfl) rfl rfl dX0_copyFrom_82 ?_
  obtain ⟨g_15, hf⟩ := sn_gdE hf
  refine sn_cpyI (rest := []) C hw km_RX0_61 kna_copy kst_copy ki_System (sn_look h1 (k := 3) rfl) (sn_look h0 (k := 3) rfl) g_15 (Nat.le_of_ble_eq_true rfl) (Nat.le_of_ble_eq_true rfl) dX0_copyFrom_83 hl.1 (fun H locs hw => ?_)
  obtain ⟨σ_16, e_17, hf⟩ := sn_ltE hf
  rw [← e_17] at hw
  refine lv_aload_n hx hb dX0_copyFrom_86 rfl (lv_at hl 1 rfl) ?_
  refine sn_getC (r := (q1 + 4)) C hw fd_RX0_25 (sn_look h1 (k := 0) rfl) rfl dX0_copyFrom_87 ?_
  refine lv_iconst (v := 0) hx hb dX0_copyFrom_90 rfl ?_
  refine lv_aload_n hx hb dX0_copyFrom_91 rfl (lv_at hl 0 rfl) ?_
  refine sn_getC (r := (q0 + 4)) C hw fd_RX0_25 (sn_look h0 (k := 0) rfl) rfl dX0_copyFrom_92 ?_
  refine lv_iconst (v := 0) hx hb dX0_copyFrom_95 rfl ?_
  refine lv_aload_n hx hb dX0_copyFrom_96 rfl (lv_at hl 0 rfl) ?_
  refine sn_getC (r := (q0 + 4)) C hw fd_RX0_25 (sn_look h0 (k := 0) rfl) rfl dX0_copyFrom_97 ?_
  refine sn_alen C hw (sn_look h0 (k := 4) rfl) rfl rfl dX0_copyFrom_100 ?_
  obtain ⟨g_18, hf⟩ := sn_gdE hf
  refine sn_cpyI (rest := []) C hw km_RX0_61 kna_copy kst_copy ki_System (sn_look h1 (k := 4) rfl) (sn_look h0 (k := 4) rfl) g_18 (Nat.le_of_ble_eq_true rfl) (Nat.le_of_ble_eq_true rfl) dX0_copyFrom_101 hl.1 (fun H locs hw => ?_)
  obtain ⟨σ_19, e_20, hf⟩ := sn_ltE hf
  rw [← e_20] at hw
  refine lv_aload_n hx hb dX0_copyFrom_104 rfl (lv_at hl 1 rfl) ?_
  refine sn_getC (r := (q1 + 5)) C hw fd_RX0_28 (sn_look h1 (k := 0) rfl) rfl dX0_copyFrom_105 ?_
  refine lv_iconst (v := 0) hx hb dX0_copyFrom_108 rfl ?_
  refine lv_aload_n hx hb dX0_copyFrom_109 rfl (lv_at hl 0 rfl) ?_
  refine sn_getC (r := (q0 + 5)) C hw fd_RX0_28 (sn_look h0 (k := 0) rfl) rfl dX0_copyFrom_110 ?_
  refine lv_iconst (v := 0) hx hb dX0_copyFrom_113 rfl ?_
  refine lv_aload_n hx hb dX0_copyFrom_114 rfl (lv_at hl 0 rfl) ?_
  refine sn_getC (r := (q0 + 5)) C hw fd_RX0_28 (sn_look h0 (k := 0) rfl) rfl dX0_copyFrom_115 ?_
  refine sn_alen C hw (sn_look h0 (k := 5) rfl) rfl rfl dX0_copyFrom_118 ?_
  obtain ⟨g_21, hf⟩ := sn_gdE hf
  refine sn_cpyI (rest := []) C hw km_RX0_61 kna_copy kst_copy ki_System (sn_look h1 (k := 5) rfl) (sn_look h0 (k := 5) rfl) g_21 (Nat.le_of_ble_eq_true rfl) (Nat.le_of_ble_eq_true rfl) dX0_copyFrom_119 hl.1 (fun H locs hw => ?_)
  obtain ⟨σ_22, e_23, hf⟩ := sn_ltE hf
  rw [← e_23] at hw
  refine lv_aload_n hx hb dX0_copyFrom_122 rfl (lv_at hl 1 rfl) ?_
  refine sn_getC (r := (q1 + 6)) C hw fd_RX0_31 (sn_look h1 (k := 0) rfl) rfl dX0_copyFrom_123 ?_
  refine lv_iconst (v := 0) hx hb dX0_copyFrom_126 rfl ?_
  refine lv_aload_n hx hb dX0_copyFrom_127 rfl (lv_at hl 0 rfl) ?_
  refine sn_getC (r := (q0 + 6)) C hw fd_RX0_31 (sn_look h0 (k := 0) rfl) rfl dX0_copyFrom_128 ?_
  refine lv_iconst (v := 0) hx hb dX0_copyFrom_131 rfl ?_
  refine lv_aload_n hx hb dX0_copyFrom_132 rfl (lv_at hl 0 rfl) ?_
  refine sn_getC (r := (q0 + 6)) C hw fd_RX0_31 (sn_look h0 (k := 0) rfl) rfl dX0_copyFrom_133 ?_
  refine sn_alen C hw (sn_look h0 (k := 6) rfl) rfl rfl dX0_copyFrom_136 ?_
  obtain ⟨g_24, hf⟩ := sn_gdE hf
  refine sn_cpyI (rest := []) C hw km_RX0_61 kna_copy kst_copy ki_System (sn_look h1 (k := 6) rfl) (sn_look h0 (k := 6) rfl) g_24 (Nat.le_of_ble_eq_true rfl) (Nat.le_of_ble_eq_true rfl) dX0_copyFrom_137 hl.1 (fun H locs hw => ?_)
  obtain ⟨σ_25, e_26, hf⟩ := sn_ltE hf
  rw [← e_26] at hw
  refine lv_aload_n hx hb dX0_copyFrom_140 rfl (lv_at hl 1 rfl) ?_
  refine sn_getC (r := (q1 + 7)) C hw fd_RX0_34 (sn_look h1 (k := 0) rfl) rfl dX0_copyFrom_141 ?_
  refine lv_iconst (v := 0) hx hb dX0_copyFrom_144 rfl ?_
  refine lv_aload_n hx hb dX0_copyFrom_145 rfl (lv_at hl 0 rfl) ?_
  refine sn_getC (r := (q0 + 7)) C hw fd_RX0_34 (sn_look h0 (k := 0) rfl) rfl dX0_copyFrom_146 ?_
  refine lv_iconst (v := 0) hx hb dX0_copyFrom_149 rfl ?_
  refine lv_aload_n hx hb dX0_copyFrom_150 rfl (lv_at hl 0 rfl) ?_
  refine sn_getC (r := (q0 + 7)) C hw fd_RX0_34 (sn_look h0 (k := 0) rfl) rfl dX0_copyFrom_151 ?_
  refine sn_alen C hw (sn_look h0 (k := 7) rfl) rfl rfl dX0_copyFrom_154 ?_
  obtain ⟨g_27, hf⟩ := sn_gdE hf
  refine sn_cpyI (rest := []) C hw km_RX0_61 kna_copy kst_copy ki_System (sn_look h1 (k := 7) rfl) (sn_look h0 (k := 7) rfl) g_27 (Nat.le_of_ble_eq_true rfl) (Nat.le_of_ble_eq_true rfl) dX0_copyFrom_155 hl.1 (fun H locs hw => ?_)
  obtain ⟨σ_28, e_29, hf⟩ := sn_ltE hf
  rw [← e_29] at hw
  refine lv_aload_n hx hb dX0_copyFrom_158 rfl (lv_at hl 1 rfl) ?_
  refine sn_getC (r := (q1 + 8)) C hw fd_RX0_37 (sn_look h1 (k := 0) rfl) rfl dX0_copyFrom_159 ?_
  refine lv_iconst (v := 0) hx hb dX0_copyFrom_162 rfl ?_
  refine lv_aload_n hx hb dX0_copyFrom_163 rfl (lv_at hl 0 rfl) ?_
  refine sn_getC (r := (q0 + 8)) C hw fd_RX0_37 (sn_look h0 (k := 0) rfl) rfl dX0_copyFrom_164 ?_
  refine lv_iconst (v := 0) hx hb dX0_copyFrom_167 rfl ?_
  refine lv_aload_n hx hb dX0_copyFrom_168 rfl (lv_at hl 0 rfl) ?_
  refine sn_getC (r := (q0 + 8)) C hw fd_RX0_37 (sn_look h0 (k := 0) rfl) rfl dX0_copyFrom_169 ?_
  refine sn_alen C hw (sn_look h0 (k := 8) rfl) rfl rfl dX0_copyFrom_172 ?_
  obtain ⟨g_30, hf⟩ := sn_gdE hf
  refine sn_cpyI (rest := []) C hw km_RX0_61 kna_copy kst_copy ki_System (sn_look h1 (k := 8) rfl) (sn_look h0 (k := 8) rfl) g_30 (Nat.le_of_ble_eq_true rfl) (Nat.le_of_ble_eq_true rfl) dX0_copyFrom_173 hl.1 (fun H locs hw => ?_)
  obtain ⟨σ_31, e_32, hf⟩ := sn_ltE hf
  rw [← e_32] at hw
  refine lv_aload_n hx hb dX0_copyFrom_176 rfl (lv_at hl 1 rfl) ?_
  refine sn_getC (r := (q1 + 9)) C hw fd_RX0_40 (sn_look h1 (k := 0) rfl) rfl dX0_copyFrom_177 ?_
  refine lv_iconst (v := 0) hx hb dX0_copyFrom_180 rfl ?_
  refine lv_aload_n hx hb dX0_copyFrom_181 rfl (lv_at hl 0 rfl) ?_
  refine sn_getC (r := (q0 + 9)) C hw fd_RX0_40 (sn_look h0 (k := 0) rfl) rfl dX0_copyFrom_182 ?_
  refine lv_iconst (v := 0) hx hb dX0_copyFrom_185 rfl ?_
  refine lv_aload_n hx hb dX0_copyFrom_186 rfl (lv_at hl 0 rfl) ?_
  refine sn_getC (r := (q0 + 9)) C hw fd_RX0_40 (sn_look h0 (k := 0) rfl) rfl dX0_copyFrom_187 ?_
  refine sn_alen C hw (sn_look h0 (k := 9) rfl) rfl rfl dX0_copyFrom_190 ?_
  obtain ⟨g_33, hf⟩ := sn_gdE hf
  refine sn_cpyI (rest := []) C hw km_RX0_61 kna_copy kst_copy ki_System (sn_look h1 (k := 9) rfl) (sn_look h0 (k := 9) rfl) g_33 (Nat.le_of_ble_eq_true rfl) (Nat.le_of_ble_eq_true rfl) dX0_copyFrom_191 hl.1 (fun H locs hw => ?_)
  obtain ⟨σ_34, e_35, hf⟩ := sn_ltE hf
  rw [← e_35] at hw
  refine lv_aload_n hx hb dX0_copyFrom_194 rfl (lv_at hl 1 rfl) ?_
  refine sn_getC (r := (q1 + 10)) C hw fd_RX0_43 (sn_look h1 (k := 0) rfl) rfl dX0_copyFrom_195 ?_
  refine lv_iconst (v := 0) hx hb dX0_copyFrom_198 rfl ?_
  refine lv_aload_n hx hb dX0_copyFrom_199 rfl (lv_at hl 0 rfl) ?_
  refine sn_getC (r := (q0 + 10)) C hw fd_RX0_43 (sn_look h0 (k := 0) rfl) rfl dX0_copyFrom_200 ?_
  refine lv_iconst (v := 0) hx hb dX0_copyFrom_203 rfl ?_
  refine lv_aload_n hx hb dX0_copyFrom_204 rfl (lv_at hl 0 rfl) ?_
  refine sn_getC (r := (q0 + 10)) C hw fd_RX0_43 (sn_look h0 (k := 0) rfl) rfl dX0_copyFrom_205 ?_
  refine sn_alen C hw (sn_look h0 (k := 10) rfl) rfl rfl dX0_copyFrom_208 ?_
  obtain ⟨g_36, hf⟩ := sn_gdE hf
  refine sn_cpyI (rest := []) C hw km_RX0_61 kna_copy kst_copy ki_System (sn_look h1 (k := 10) rfl) (sn_look h0 (k := 10) rfl) g_36 (Nat.le_of_ble_eq_true rfl) (Nat.le_of_ble_eq_true rfl) dX0_copyFrom_209 hl.1 (fun H locs hw => ?_)
  obtain ⟨σ_37, e_38, hf⟩ := sn_ltE hf
  rw [← e_38] at hw
  cases hf
  exact kr _ _ _ _ hw rfl dX0_copyFrom_212
theorem ctX0_copyFrom (l : Launch) {σ : sn_S} {q0 : Nat} {q1 : Nat} (h0 : sn_isX0 q0) (h1 : sn_isX0 q1) {o : sn_S} (hf : fX0_copyFrom σ q0 q1 = some o) : sn_M l yX0_copyFrom cX0_copyFrom 2 none rmX0_copyFrom layC (fun ad => [.ref (ad q0), .ref (ad q1)]) σ none o :=
  sn_met (by decide) (fun _ => Nat.le_of_ble_eq_true rfl) (fun p e s m args below meth c ls D ct ad A C hw hl => wX0_copyFrom_in C h0 h1 hf (fun H locs ls pc hw ok hd => sn_vret C hw hd) _ _ _ hw hl)
-- X8_firstMinutes
abbrev rmX8_firstMinutes : Room := { frames := 0, cells := 0, slots := 0, locals := 0 }
def fX8_firstMinutes (x0 : Int32) : Option Int32 :=
  (some (((1 : Int32) <<< (x0 &&& 31)) - (1 : Int32)))
theorem wX8_firstMinutes_in (C : sn_C p s m args meth c RX8 cX8_firstMinutes 1 (some .int) D ct ad layC A) {σ : sn_S} {x0 : Int32}  {o : Int32} (hf : fX8_firstMinutes x0 = some o) (kr : sn_Kr p l e rmX8_firstMinutes s m args below meth c Q D ct ad layC A cX8_firstMinutes .ireturn (true) σ [.int o]) : sn_At p l e rmX8_firstMinutes s m args below meth c Q D ct ad layC A 1 σ 0 [(0, .int x0)] [] := by
  intro H locs ls hw hl
  have hx := C.1
  have hb := C.2.1
  unfold fX8_firstMinutes at hf
  refine lv_iconst (v := 1) hx hb dX8_firstMinutes_0 rfl ?_
  refine lv_iload_n hx hb dX8_firstMinutes_1 rfl (lv_at hl 0 rfl) ?_
  refine lv_ishl hx hb dX8_firstMinutes_2 ?_
  refine lv_iconst (v := 1) hx hb dX8_firstMinutes_3 rfl ?_
  refine lv_isub hx hb dX8_firstMinutes_4 ?_
  cases hf
  exact kr _ _ _ _ hw rfl dX8_firstMinutes_5
theorem ctX8_firstMinutes (l : Launch) {σ : sn_S} {x0 : Int32}  {o : Int32} (hf : fX8_firstMinutes x0 = some o) : sn_M l yX8_firstMinutes cX8_firstMinutes 1 (some .int) rmX8_firstMinutes layC (fun ad => [.int x0]) σ (some (fun _ => .int o)) σ :=
  sn_met (by decide) (fun _ => Nat.le_of_ble_eq_true rfl) (fun p e s m args below meth c ls D ct ad A C hw hl => wX8_firstMinutes_in C  hf (fun H locs ls pc hw ok hd => sn_iret C hw hd) _ _ _ hw hl)
-- X8_hasBit
abbrev rmX8_hasBit : Room := { frames := 0, cells := 0, slots := 0, locals := 0 }
def fX8_hasBit (x0 : Int32) (x1 : Int32) : Option Int32 :=
  (if ((x0 >>> (x1 &&& 31)) &&& (1 : Int32)) = (1 : Int32) then
  (sn_gd (sn_b01 (1 : Int32)) (some (1 : Int32)))
  else
  (sn_gd (sn_b01 (0 : Int32)) (some (0 : Int32))))
theorem wX8_hasBit_in (C : sn_C p s m args meth c RX8 cX8_hasBit 2 (some .boolean) D ct ad layC A) {σ : sn_S} {x0 : Int32} {x1 : Int32}  {o : Int32} (hf : fX8_hasBit x0 x1 = some o) (kr : sn_Kr p l e rmX8_hasBit s m args below meth c Q D ct ad layC A cX8_hasBit .ireturn (sn_b01 o) σ [.int o]) : sn_At p l e rmX8_hasBit s m args below meth c Q D ct ad layC A 2 σ 0 [(0, .int x0), (1, .int x1)] [] := by
  intro H locs ls hw hl
  have hx := C.1
  have hb := C.2.1
  unfold fX8_hasBit at hf
  refine lv_iload_n hx hb dX8_hasBit_0 rfl (lv_at hl 0 rfl) ?_
  refine lv_iload_n hx hb dX8_hasBit_1 rfl (lv_at hl 1 rfl) ?_
  refine lv_ishr hx hb dX8_hasBit_2 ?_
  refine lv_iconst (v := 1) hx hb dX8_hasBit_3 rfl ?_
  refine lv_iand hx hb dX8_hasBit_4 ?_
  refine lv_iconst (v := 1) hx hb dX8_hasBit_5 rfl ?_
  refine lv_icmp_ne (tgt := 13) hx hb dX8_hasBit_6 (by decide) (fun c_1 => ?_) (fun c_1 => ?_)
  · have hf := sn_el c_1 hf
    refine lv_iconst (v := 0) hx hb dX8_hasBit_13 rfl ?_
    obtain ⟨g_2, hf⟩ := sn_gdE hf
    cases hf
    exact kr _ _ _ _ hw g_2 dX8_hasBit_14
  · have hf := sn_if c_1 hf
    refine lv_iconst (v := 1) hx hb dX8_hasBit_9 rfl ?_
    refine lv_goto (tgt := 14) hx hb dX8_hasBit_10 (by decide) ?_
    obtain ⟨g_3, hf⟩ := sn_gdE hf
    cases hf
    exact kr _ _ _ _ hw g_3 dX8_hasBit_14
theorem ctX8_hasBit (l : Launch) {σ : sn_S} {x0 : Int32} {x1 : Int32}  {o : Int32} (hf : fX8_hasBit x0 x1 = some o) : sn_M l yX8_hasBit cX8_hasBit 2 (some .boolean) rmX8_hasBit layC (fun ad => [.int x0, .int x1]) σ (some (fun _ => .int o)) σ :=
  sn_met (by decide) (fun _ => Nat.le_of_ble_eq_true rfl) (fun p e s m args below meth c ls D ct ad A C hw hl => wX8_hasBit_in C  hf (fun H locs ls pc hw ok hd => sn_zret C hw ok hd) _ _ _ hw hl)
-- X0_tickleByNets
abbrev rmX0_tickleByNets : Room := { frames := 1, cells := 0, slots := 0, locals := 21 }
def BX0_tickleByNets_155 (σ : sn_S) (q0 : Nat) : Option (sn_S) :=
  (some σ)
def BX0_tickleByNets_149 (σ : sn_S) (q0 : Nat) (x2 : Int32) (x3 : Int32) (x4 : Int32) : Option ((sn_S × Int32) ⊕ (sn_S)) :=
  (sn_lt (x4 + 1) fun y_1 => (some (.inl (σ, y_1))))
def BX0_tickleByNets_147 (σ : sn_S) (q0 : Nat) (x2 : Int32) (x3 : Int32) (x4 : Int32) (t1 : Int32) (t2 : Int32) (t3 : Int32) : Option ((sn_S × Int32) ⊕ (sn_S)) :=
  (sn_gd (sn_in t1 180) (sn_lt (sn_pI σ (q0 + 8) t1.toNatClampNeg (t2 + t3)) fun σ_2 => (BX0_tickleByNets_149 σ_2 q0 x2 x3 x4)))
def BX0_tickleByNets_121 (σ : sn_S) (q0 : Nat) (x2 : Int32) (x3 : Int32) (x4 : Int32) (x5 : Int32) (x6 : Int32) (t1 : Int32) (t2 : Int32) (t3 : Int32) : Option ((sn_S × Int32) ⊕ (sn_S)) :=
  (sn_gd (sn_in t1 180) (sn_lt (sn_pI σ (q0 + 8) t1.toNatClampNeg (t2 + t3)) fun σ_2 => (sn_gd (sn_in (x2 + x6) 180) ((fX8_hasBit x3 x5).bind fun t_5 => (if t_5 = 0 then
  (BX0_tickleByNets_147 σ_2 q0 x2 x3 x4 (x2 + x6) (sn_I σ_2 (q0 + 8) (x2 + x6).toNatClampNeg) (0 : Int32))
  else
  (BX0_tickleByNets_147 σ_2 q0 x2 x3 x4 (x2 + x6) (sn_I σ_2 (q0 + 8) (x2 + x6).toNatClampNeg) (5 : Int32)))))))
def BX0_tickleByNets_55 (σ : sn_S) (q0 : Nat) (x2 : Int32) (x3 : Int32) (x4 : Int32) : Option ((sn_S × Int32) ⊕ (sn_S)) :=
  (if (sn_I σ q0 2) ≤ x4 then
  (some (.inr (σ)))
  else
  (if x4 = (sn_I σ q0 3) then
  (BX0_tickleByNets_149 σ q0 x2 x3 x4)
  else
  (sn_gd (sn_in ((2 : Int32) * x4) 16) (sn_lt (sn_I σ (q0 + 6) ((2 : Int32) * x4).toNatClampNeg) fun y_4 => (sn_gd (sn_in (((2 : Int32) * x4) + (1 : Int32)) 16) (sn_lt (sn_I σ (q0 + 6) (((2 : Int32) * x4) + (1 : Int32)).toNatClampNeg) fun y_7 => (sn_gd (sn_in (x2 + y_4) 180) ((fX8_hasBit x3 y_7).bind fun t_10 => (if t_10 = 0 then
  (BX0_tickleByNets_121 σ q0 x2 x3 x4 y_4 y_7 (x2 + y_4) (sn_I σ (q0 + 8) (x2 + y_4).toNatClampNeg) (0 : Int32))
  else
  (BX0_tickleByNets_121 σ q0 x2 x3 x4 y_4 y_7 (x2 + y_4) (sn_I σ (q0 + 8) (x2 + y_4).toNatClampNeg) (5 : Int32)))))))))))
def LX0_tickleByNets_55 (q0 : Nat) (x2 : Int32) (x3 : Int32) (s : sn_S × Int32) : Option ((sn_S × Int32) ⊕ (sn_S)) := BX0_tickleByNets_55 s.1 q0 x2 x3 s.2
def BX0_tickleByNets_46 (σ : sn_S) (q0 : Nat) (x2 : Int32) (t0 : Int32) : Option (sn_S) :=
  (if t0 = 0 then
  (some σ)
  else
  ((sn_it (LX0_tickleByNets_55 q0 x2 t0) 5000 (σ, (0 : Int32))).bind fun t_2 => (BX0_tickleByNets_155 t_2 q0)))
def BX0_tickleByNets_30 (σ : sn_S) (q0 : Nat) (x1 : Int32) (x2 : Int32) : Option (sn_S) :=
  (if x1 = 0 then
  (BX0_tickleByNets_46 σ q0 x2 (0 : Int32))
  else
  (sn_gd (sn_in (x1 - (1 : Int32)) 30) (BX0_tickleByNets_46 σ q0 x2 (sn_I σ (q0 + 9) (x1 - (1 : Int32)).toNatClampNeg))))
def BX0_tickleByNets_7 (σ : sn_S) (q0 : Nat) (x1 : Int32) (x2 : Int32) (x3 : Int32) : Option ((sn_S × Int32) ⊕ (sn_S)) :=
  (if (sn_I σ q0 1) ≤ x3 then
  (some (.inr (σ)))
  else
  (sn_gd (sn_in (x2 + x3) 180) (sn_lt (sn_pI σ (q0 + 8) (x2 + x3).toNatClampNeg (0 : Int32)) fun σ_3 => (sn_lt (x3 + 1) fun y_5 => (some (.inl (σ_3, y_5)))))))
def LX0_tickleByNets_7 (q0 : Nat) (x1 : Int32) (x2 : Int32) (s : sn_S × Int32) : Option ((sn_S × Int32) ⊕ (sn_S)) := BX0_tickleByNets_7 s.1 q0 x1 x2 s.2
def fX0_tickleByNets (σ : sn_S) (q0 : Nat) (x1 : Int32) : Option sn_S :=
  (sn_lt ((6 : Int32) * x1) fun y_1 => ((sn_it (LX0_tickleByNets_7 q0 x1 y_1) 5000 (σ, (0 : Int32))).bind fun t_3 => (BX0_tickleByNets_30 t_3 q0 x1 y_1)))
theorem wX0_tickleByNets_155 (C : sn_C p s m args meth c RX0 cX0_tickleByNets 7 none D ct ad layC A) {σ : sn_S} {q0 : Nat} (h0 : sn_isX0 q0) {o : sn_S} (hf : BX0_tickleByNets_155 σ q0 = some o) (kr : sn_Kr p l e rmX0_tickleByNets s m args below meth c Q D ct ad layC A cX0_tickleByNets .return_ (true) o []) : sn_At p l e rmX0_tickleByNets s m args below meth c Q D ct ad layC A 7 σ 155 [] [] := by
  intro H locs ls hw hl
  have hx := C.1
  have hb := C.2.1
  unfold BX0_tickleByNets_155 at hf
  cases hf
  exact kr _ _ _ _ hw rfl dX0_tickleByNets_155
theorem wX0_tickleByNets_149 (C : sn_C p s m args meth c RX0 cX0_tickleByNets 7 none D ct ad layC A) {σ : sn_S} {q0 : Nat} {x2 : Int32} {x3 : Int32} {x4 : Int32} (h0 : sn_isX0 q0) {o : (sn_S × Int32) ⊕ (sn_S)} (hf : BX0_tickleByNets_149 σ q0 x2 x3 x4 = some o) (kc : ∀ v, o = .inl v → sn_At p l e rmX0_tickleByNets s m args below meth c Q D ct ad layC A 7 v.1 55 [(0, .ref (ad q0)), (2, .int x2), (3, .int x3), (4, .int v.2)] []) (kx : ∀ v, o = .inr v → sn_At p l e rmX0_tickleByNets s m args below meth c Q D ct ad layC A 7 v 155 [] []) : sn_At p l e rmX0_tickleByNets s m args below meth c Q D ct ad layC A 7 σ 149 [(0, .ref (ad q0)), (2, .int x2), (3, .int x3), (4, .int x4)] [] := by
  intro H locs ls hw hl
  have hx := C.1
  have hb := C.2.1
  unfold BX0_tickleByNets_149 at hf
  obtain ⟨y_1, e_2, hf⟩ := sn_ltE hf
  refine lv_iinc (v := y_1) (lv' := [(4, .int y_1), (0, .ref (ad q0)), (2, .int x2), (3, .int x3)]) hx hb dX0_tickleByNets_149 hl (k := 3) rfl (by rw [e_2]; rfl) (by decide) rfl (fun ls hl => ?_)
  refine lv_goto (tgt := 55) hx hb dX0_tickleByNets_152 (by decide) ?_
  cases hf
  exact kc _ rfl _ _ _ hw (lv_sub hl [1, 2, 3, 0] rfl)
theorem wX0_tickleByNets_147 (C : sn_C p s m args meth c RX0 cX0_tickleByNets 7 none D ct ad layC A) {σ : sn_S} {q0 : Nat} {x2 : Int32} {x3 : Int32} {x4 : Int32} {t1 : Int32} {t2 : Int32} {t3 : Int32} (h0 : sn_isX0 q0) {o : (sn_S × Int32) ⊕ (sn_S)} (hf : BX0_tickleByNets_147 σ q0 x2 x3 x4 t1 t2 t3 = some o) (kc : ∀ v, o = .inl v → sn_At p l e rmX0_tickleByNets s m args below meth c Q D ct ad layC A 7 v.1 55 [(0, .ref (ad q0)), (2, .int x2), (3, .int x3), (4, .int v.2)] []) (kx : ∀ v, o = .inr v → sn_At p l e rmX0_tickleByNets s m args below meth c Q D ct ad layC A 7 v 155 [] []) : sn_At p l e rmX0_tickleByNets s m args below meth c Q D ct ad layC A 7 σ 147 [(0, .ref (ad q0)), (2, .int x2), (3, .int x3), (4, .int x4)] [.int t3, .int t2, .int t1, .ref (ad (q0 + 8))] := by
  intro H locs ls hw hl
  have hx := C.1
  have hb := C.2.1
  unfold BX0_tickleByNets_147 at hf
  refine lv_iadd hx hb dX0_tickleByNets_147 ?_
  obtain ⟨g_1, hf⟩ := sn_gdE hf
  refine sn_iast C hw (sn_look h0 (k := 8) rfl) g_1 dX0_tickleByNets_148 (fun H locs hw => ?_)
  obtain ⟨σ_2, e_3, hf⟩ := sn_ltE hf
  rw [← e_3] at hw
  exact wX0_tickleByNets_149 C h0 hf kc kx _ _ _ hw (lv_sub hl [0, 1, 2, 3] rfl)
theorem wX0_tickleByNets_121 (C : sn_C p s m args meth c RX0 cX0_tickleByNets 7 none D ct ad layC A) {σ : sn_S} {q0 : Nat} {x2 : Int32} {x3 : Int32} {x4 : Int32} {x5 : Int32} {x6 : Int32} {t1 : Int32} {t2 : Int32} {t3 : Int32} (h0 : sn_isX0 q0) {o : (sn_S × Int32) ⊕ (sn_S)} (hf : BX0_tickleByNets_121 σ q0 x2 x3 x4 x5 x6 t1 t2 t3 = some o) (kc : ∀ v, o = .inl v → sn_At p l e rmX0_tickleByNets s m args below meth c Q D ct ad layC A 7 v.1 55 [(0, .ref (ad q0)), (2, .int x2), (3, .int x3), (4, .int v.2)] []) (kx : ∀ v, o = .inr v → sn_At p l e rmX0_tickleByNets s m args below meth c Q D ct ad layC A 7 v 155 [] []) : sn_At p l e rmX0_tickleByNets s m args below meth c Q D ct ad layC A 7 σ 121 [(0, .ref (ad q0)), (2, .int x2), (3, .int x3), (4, .int x4), (5, .int x5), (6, .int x6)] [.int t3, .int t2, .int t1, .ref (ad (q0 + 8))] := by
  intro H locs ls hw hl
  have hx := C.1
  have hb := C.2.1
  unfold BX0_tickleByNets_121 at hf
  refine lv_iadd hx hb dX0_tickleByNets_121 ?_
  obtain ⟨g_1, hf⟩ := sn_gdE hf
  refine sn_iast C hw (sn_look h0 (k := 8) rfl) g_1 dX0_tickleByNets_122 (fun H locs hw => ?_)
  obtain ⟨σ_2, e_3, hf⟩ := sn_ltE hf
  rw [← e_3] at hw
  refine lv_aload_n hx hb dX0_tickleByNets_123 rfl (lv_at hl 0 rfl) ?_
  refine sn_getC (r := (q0 + 8)) C hw fd_RX0_37 (sn_look h0 (k := 0) rfl) rfl dX0_tickleByNets_124 ?_
  refine lv_iload_n hx hb dX0_tickleByNets_127 rfl (lv_at hl 1 rfl) ?_
  refine lv_iload hx hb dX0_tickleByNets_128 (lv_at hl 5 rfl) ?_
  refine lv_iadd hx hb dX0_tickleByNets_130 ?_
  refine lv_dup2_11 hx hb dX0_tickleByNets_131 rfl rfl ?_
  obtain ⟨g_4, hf⟩ := sn_gdE hf
  refine sn_iald C hw (sn_look h0 (k := 8) rfl) g_4 dX0_tickleByNets_132 ?_
  refine lv_iload_n hx hb dX0_tickleByNets_133 rfl (lv_at hl 2 rfl) ?_
  refine lv_iload hx hb dX0_tickleByNets_134 (lv_at hl 4 rfl) ?_
  obtain ⟨t_5, h_6, hf⟩ := sn_bd hf
  refine sn_callNi (rest := [.int (sn_I σ_2 (q0 + 8) (x2 + x6).toNatClampNeg), .int (x2 + x6), .ref (ad (q0 + 8))]) C hw (ctX8_hasBit l  h_6) kl_RX0_98 rfl rfl rfl (Nat.le_of_ble_eq_true rfl) dX0_tickleByNets_136 hl.1 (fun H locs hw => ?_)
  refine lv_if_eq (tgt := 146) hx hb dX0_tickleByNets_139 (by decide) (fun c_7 => ?_) (fun c_7 => ?_)
  · have hf := sn_if c_7 hf
    refine lv_iconst (v := 0) hx hb dX0_tickleByNets_146 rfl ?_
    exact wX0_tickleByNets_147 C h0 hf kc kx _ _ _ hw (lv_sub hl [0, 1, 2, 3] rfl)
  · have hf := sn_el c_7 hf
    refine lv_iconst (v := 5) hx hb dX0_tickleByNets_142 rfl ?_
    refine lv_goto (tgt := 147) hx hb dX0_tickleByNets_143 (by decide) ?_
    exact wX0_tickleByNets_147 C h0 hf kc kx _ _ _ hw (lv_sub hl [0, 1, 2, 3] rfl)
theorem wX0_tickleByNets_55 (C : sn_C p s m args meth c RX0 cX0_tickleByNets 7 none D ct ad layC A) {σ : sn_S} {q0 : Nat} {x2 : Int32} {x3 : Int32} {x4 : Int32} (h0 : sn_isX0 q0) {o : (sn_S × Int32) ⊕ (sn_S)} (hf : BX0_tickleByNets_55 σ q0 x2 x3 x4 = some o) (kc : ∀ v, o = .inl v → sn_At p l e rmX0_tickleByNets s m args below meth c Q D ct ad layC A 7 v.1 55 [(0, .ref (ad q0)), (2, .int x2), (3, .int x3), (4, .int v.2)] []) (kx : ∀ v, o = .inr v → sn_At p l e rmX0_tickleByNets s m args below meth c Q D ct ad layC A 7 v 155 [] []) : sn_At p l e rmX0_tickleByNets s m args below meth c Q D ct ad layC A 7 σ 55 [(0, .ref (ad q0)), (2, .int x2), (3, .int x3), (4, .int x4)] [] := by
  intro H locs ls hw hl
  have hx := C.1
  have hb := C.2.1
  unfold BX0_tickleByNets_55 at hf
  refine lv_iload hx hb dX0_tickleByNets_55 (lv_at hl 3 rfl) ?_
  refine lv_aload_n hx hb dX0_tickleByNets_57 rfl (lv_at hl 0 rfl) ?_
  refine sn_getI C hw fd_RX0_57 (sn_look h0 (k := 0) rfl) rfl dX0_tickleByNets_58 ?_
  refine lv_icmp_ge (tgt := 155) hx hb dX0_tickleByNets_61 (by decide) (fun c_1 => ?_) (fun c_1 => ?_)
  · have hf := sn_if c_1 hf
    cases hf
    exact kx _ rfl _ _ _ hw (lv_sub hl [] rfl)
  · have hf := sn_el c_1 hf
    refine lv_iload hx hb dX0_tickleByNets_64 (lv_at hl 3 rfl) ?_
    refine lv_aload_n hx hb dX0_tickleByNets_66 rfl (lv_at hl 0 rfl) ?_
    refine sn_getI C hw fd_RX0_9 (sn_look h0 (k := 0) rfl) rfl dX0_tickleByNets_67 ?_
    refine lv_icmp_eq (tgt := 149) hx hb dX0_tickleByNets_70 (by decide) (fun c_2 => ?_) (fun c_2 => ?_)
    · have hf := sn_if c_2 hf
      exact wX0_tickleByNets_149 C h0 hf kc kx _ _ _ hw (lv_sub hl [0, 1, 2, 3] rfl)
    · have hf := sn_el c_2 hf
      refine lv_aload_n hx hb dX0_tickleByNets_73 rfl (lv_at hl 0 rfl) ?_
      refine sn_getC (r := (q0 + 6)) C hw fd_RX0_31 (sn_look h0 (k := 0) rfl) rfl dX0_tickleByNets_74 ?_
      refine lv_iconst (v := 2) hx hb dX0_tickleByNets_77 rfl ?_
      refine lv_iload hx hb dX0_tickleByNets_78 (lv_at hl 3 rfl) ?_
      refine lv_imul hx hb dX0_tickleByNets_80 ?_
      obtain ⟨g_3, hf⟩ := sn_gdE hf
      refine sn_iald C hw (sn_look h0 (k := 6) rfl) g_3 dX0_tickleByNets_81 ?_
      obtain ⟨y_4, e_5, hf⟩ := sn_ltE hf
      refine lv_topi (fun y_4_ e_5_ => ?_)
      obtain rfl : y_4 = y_4_ := e_5.trans e_5_.symm
      refine lv_istore (lv' := [(5, .int y_4), (0, .ref (ad q0)), (2, .int x2), (3, .int x3), (4, .int x4)]) hx hb dX0_tickleByNets_82 hl (by decide) rfl (fun ls hl => ?_)
      refine lv_aload_n hx hb dX0_tickleByNets_84 rfl (lv_at hl 1 rfl) ?_
      refine sn_getC (r := (q0 + 6)) C hw fd_RX0_31 (sn_look h0 (k := 0) rfl) rfl dX0_tickleByNets_85 ?_
      refine lv_iconst (v := 2) hx hb dX0_tickleByNets_88 rfl ?_
      refine lv_iload hx hb dX0_tickleByNets_89 (lv_at hl 4 rfl) ?_
      refine lv_imul hx hb dX0_tickleByNets_91 ?_
      refine lv_iconst (v := 1) hx hb dX0_tickleByNets_92 rfl ?_
      refine lv_iadd hx hb dX0_tickleByNets_93 ?_
      obtain ⟨g_6, hf⟩ := sn_gdE hf
      refine sn_iald C hw (sn_look h0 (k := 6) rfl) g_6 dX0_tickleByNets_94 ?_
      obtain ⟨y_7, e_8, hf⟩ := sn_ltE hf
      refine lv_topi (fun y_7_ e_8_ => ?_)
      obtain rfl : y_7 = y_7_ := e_8.trans e_8_.symm
      refine lv_istore (lv' := [(6, .int y_7), (5, .int y_4), (0, .ref (ad q0)), (2, .int x2), (3, .int x3), (4, .int x4)]) hx hb dX0_tickleByNets_95 hl (by decide) rfl (fun ls hl => ?_)
      refine lv_aload_n hx hb dX0_tickleByNets_97 rfl (lv_at hl 2 rfl) ?_
      refine sn_getC (r := (q0 + 8)) C hw fd_RX0_37 (sn_look h0 (k := 0) rfl) rfl dX0_tickleByNets_98 ?_
      refine lv_iload_n hx hb dX0_tickleByNets_101 rfl (lv_at hl 3 rfl) ?_
      refine lv_iload hx hb dX0_tickleByNets_102 (lv_at hl 1 rfl) ?_
      refine lv_iadd hx hb dX0_tickleByNets_104 ?_
      refine lv_dup2_11 hx hb dX0_tickleByNets_105 rfl rfl ?_
      obtain ⟨g_9, hf⟩ := sn_gdE hf
      refine sn_iald C hw (sn_look h0 (k := 8) rfl) g_9 dX0_tickleByNets_106 ?_
      refine lv_iload_n hx hb dX0_tickleByNets_107 rfl (lv_at hl 4 rfl) ?_
      refine lv_iload hx hb dX0_tickleByNets_108 (lv_at hl 0 rfl) ?_
      obtain ⟨t_10, h_11, hf⟩ := sn_bd hf
      refine sn_callNi (rest := [.int (sn_I σ (q0 + 8) (x2 + y_4).toNatClampNeg), .int (x2 + y_4), .ref (ad (q0 + 8))]) C hw (ctX8_hasBit l  h_11) kl_RX0_98 rfl rfl rfl (Nat.le_of_ble_eq_true rfl) dX0_tickleByNets_110 hl.1 (fun H locs hw => ?_)
      refine lv_if_eq (tgt := 120) hx hb dX0_tickleByNets_113 (by decide) (fun c_12 => ?_) (fun c_12 => ?_)
      · have hf := sn_if c_12 hf
        refine lv_iconst (v := 0) hx hb dX0_tickleByNets_120 rfl ?_
        exact wX0_tickleByNets_121 C h0 hf kc kx _ _ _ hw (lv_sub hl [2, 3, 4, 5, 1, 0] rfl)
      · have hf := sn_el c_12 hf
        refine lv_iconst (v := 5) hx hb dX0_tickleByNets_116 rfl ?_
        refine lv_goto (tgt := 121) hx hb dX0_tickleByNets_117 (by decide) ?_
        exact wX0_tickleByNets_121 C h0 hf kc kx _ _ _ hw (lv_sub hl [2, 3, 4, 5, 1, 0] rfl)
theorem wX0_tickleByNets_L55 (C : sn_C p s m args meth c RX0 cX0_tickleByNets 7 none D ct ad layC A) {q0 : Nat} {x2 : Int32} {x3 : Int32}  (h0 : sn_isX0 q0) {z : sn_S × Int32} {t : sn_S} (h : sn_it (LX0_tickleByNets_55 q0 x2 x3) 5000 z = some t) (kx : ∀ v, t = v → sn_At p l e rmX0_tickleByNets s m args below meth c Q D ct ad layC A 7 v 155 [] []) : sn_At p l e rmX0_tickleByNets s m args below meth c Q D ct ad layC A 7 z.1 55 [(0, .ref (ad q0)), (2, .int x2), (3, .int x3), (4, .int z.2)] [] :=
  sn_loop (f := LX0_tickleByNets_55 q0 x2 x3) (G := fun z => sn_At p l e rmX0_tickleByNets s m args below meth c Q D ct ad layC A 7 z.1 55 [(0, .ref (ad q0)), (2, .int x2), (3, .int x3), (4, .int z.2)] []) (E := fun t => (∀ v, t = v → sn_At p l e rmX0_tickleByNets s m args below meth c Q D ct ad layC A 7 v 155 [] []) ∧ True) (fun z o hf k1 k2 => wX0_tickleByNets_55 C h0 hf (fun v e => k1 v e) (fun v e => (k2 _ e).1 v rfl)) 5000 z t h ⟨kx, trivial⟩
theorem wX0_tickleByNets_46 (C : sn_C p s m args meth c RX0 cX0_tickleByNets 7 none D ct ad layC A) {σ : sn_S} {q0 : Nat} {x2 : Int32} {t0 : Int32} (h0 : sn_isX0 q0) {o : sn_S} (hf : BX0_tickleByNets_46 σ q0 x2 t0 = some o) (kr : sn_Kr p l e rmX0_tickleByNets s m args below meth c Q D ct ad layC A cX0_tickleByNets .return_ (true) o []) : sn_At p l e rmX0_tickleByNets s m args below meth c Q D ct ad layC A 7 σ 46 [(0, .ref (ad q0)), (2, .int x2)] [.int t0] := by
  intro H locs ls hw hl
  have hx := C.1
  have hb := C.2.1
  unfold BX0_tickleByNets_46 at hf
  refine lv_istore_n (lv' := [(3, .int t0), (0, .ref (ad q0)), (2, .int x2)]) hx hb dX0_tickleByNets_46 rfl hl (by decide) rfl (fun ls hl => ?_)
  refine lv_iload_n hx hb dX0_tickleByNets_47 rfl (lv_at hl 0 rfl) ?_
  refine lv_if_ne (tgt := 52) hx hb dX0_tickleByNets_48 (by decide) (fun c_1 => ?_) (fun c_1 => ?_)
  · have hf := sn_el c_1 hf
    refine lv_iconst (v := 0) hx hb dX0_tickleByNets_52 rfl ?_
    refine lv_istore (lv' := [(4, .int (0 : Int32)), (3, .int t0), (0, .ref (ad q0)), (2, .int x2)]) hx hb dX0_tickleByNets_53 hl (by decide) rfl (fun ls hl => ?_)
    obtain ⟨t_2, h_3, hf⟩ := sn_bd hf
    exact wX0_tickleByNets_L55 C h0 h_3 (fun v e => by cases e; exact wX0_tickleByNets_155 C h0 hf kr) _ _ _ hw (lv_sub hl [2, 3, 1, 0] rfl)
  · have hf := sn_if c_1 hf
    cases hf
    exact kr _ _ _ _ hw rfl dX0_tickleByNets_51
theorem wX0_tickleByNets_30 (C : sn_C p s m args meth c RX0 cX0_tickleByNets 7 none D ct ad layC A) {σ : sn_S} {q0 : Nat} {x1 : Int32} {x2 : Int32} (h0 : sn_isX0 q0) {o : sn_S} (hf : BX0_tickleByNets_30 σ q0 x1 x2 = some o) (kr : sn_Kr p l e rmX0_tickleByNets s m args below meth c Q D ct ad layC A cX0_tickleByNets .return_ (true) o []) : sn_At p l e rmX0_tickleByNets s m args below meth c Q D ct ad layC A 7 σ 30 [(0, .ref (ad q0)), (1, .int x1), (2, .int x2)] [] := by
  intro H locs ls hw hl
  have hx := C.1
  have hb := C.2.1
  unfold BX0_tickleByNets_30 at hf
  refine lv_iload_n hx hb dX0_tickleByNets_30 rfl (lv_at hl 1 rfl) ?_
  refine lv_if_ne (tgt := 38) hx hb dX0_tickleByNets_31 (by decide) (fun c_1 => ?_) (fun c_1 => ?_)
  · have hf := sn_el c_1 hf
    refine lv_aload_n hx hb dX0_tickleByNets_38 rfl (lv_at hl 0 rfl) ?_
    refine sn_getC (r := (q0 + 9)) C hw fd_RX0_40 (sn_look h0 (k := 0) rfl) rfl dX0_tickleByNets_39 ?_
    refine lv_iload_n hx hb dX0_tickleByNets_42 rfl (lv_at hl 1 rfl) ?_
    refine lv_iconst (v := 1) hx hb dX0_tickleByNets_43 rfl ?_
    refine lv_isub hx hb dX0_tickleByNets_44 ?_
    obtain ⟨g_2, hf⟩ := sn_gdE hf
    refine sn_iald C hw (sn_look h0 (k := 9) rfl) g_2 dX0_tickleByNets_45 ?_
    exact wX0_tickleByNets_46 C h0 hf kr _ _ _ hw (lv_sub hl [0, 2] rfl)
  · have hf := sn_if c_1 hf
    refine lv_iconst (v := 0) hx hb dX0_tickleByNets_34 rfl ?_
    refine lv_goto (tgt := 46) hx hb dX0_tickleByNets_35 (by decide) ?_
    exact wX0_tickleByNets_46 C h0 hf kr _ _ _ hw (lv_sub hl [0, 2] rfl)
theorem wX0_tickleByNets_7 (C : sn_C p s m args meth c RX0 cX0_tickleByNets 7 none D ct ad layC A) {σ : sn_S} {q0 : Nat} {x1 : Int32} {x2 : Int32} {x3 : Int32} (h0 : sn_isX0 q0) {o : (sn_S × Int32) ⊕ (sn_S)} (hf : BX0_tickleByNets_7 σ q0 x1 x2 x3 = some o) (kc : ∀ v, o = .inl v → sn_At p l e rmX0_tickleByNets s m args below meth c Q D ct ad layC A 7 v.1 7 [(0, .ref (ad q0)), (1, .int x1), (2, .int x2), (3, .int v.2)] []) (kx : ∀ v, o = .inr v → sn_At p l e rmX0_tickleByNets s m args below meth c Q D ct ad layC A 7 v 30 [(0, .ref (ad q0)), (1, .int x1), (2, .int x2)] []) : sn_At p l e rmX0_tickleByNets s m args below meth c Q D ct ad layC A 7 σ 7 [(0, .ref (ad q0)), (1, .int x1), (2, .int x2), (3, .int x3)] [] := by
  intro H locs ls hw hl
  have hx := C.1
  have hb := C.2.1
  unfold BX0_tickleByNets_7 at hf
  refine lv_iload_n hx hb dX0_tickleByNets_7 rfl (lv_at hl 3 rfl) ?_
  refine lv_aload_n hx hb dX0_tickleByNets_8 rfl (lv_at hl 0 rfl) ?_
  refine sn_getI C hw fd_RX0_54 (sn_look h0 (k := 0) rfl) rfl dX0_tickleByNets_9 ?_
  refine lv_icmp_ge (tgt := 30) hx hb dX0_tickleByNets_12 (by decide) (fun c_1 => ?_) (fun c_1 => ?_)
  · have hf := sn_if c_1 hf
    cases hf
    exact kx _ rfl _ _ _ hw (lv_sub hl [0, 1, 2] rfl)
  · have hf := sn_el c_1 hf
    refine lv_aload_n hx hb dX0_tickleByNets_15 rfl (lv_at hl 0 rfl) ?_
    refine sn_getC (r := (q0 + 8)) C hw fd_RX0_37 (sn_look h0 (k := 0) rfl) rfl dX0_tickleByNets_16 ?_
    refine lv_iload_n hx hb dX0_tickleByNets_19 rfl (lv_at hl 2 rfl) ?_
    refine lv_iload_n hx hb dX0_tickleByNets_20 rfl (lv_at hl 3 rfl) ?_
    refine lv_iadd hx hb dX0_tickleByNets_21 ?_
    refine lv_iconst (v := 0) hx hb dX0_tickleByNets_22 rfl ?_
    obtain ⟨g_2, hf⟩ := sn_gdE hf
    refine sn_iast C hw (sn_look h0 (k := 8) rfl) g_2 dX0_tickleByNets_23 (fun H locs hw => ?_)
    obtain ⟨σ_3, e_4, hf⟩ := sn_ltE hf
    rw [← e_4] at hw
    obtain ⟨y_5, e_6, hf⟩ := sn_ltE hf
    refine lv_iinc (v := y_5) (lv' := [(3, .int y_5), (0, .ref (ad q0)), (1, .int x1), (2, .int x2)]) hx hb dX0_tickleByNets_24 hl (k := 3) rfl (by rw [e_6]; rfl) (by decide) rfl (fun ls hl => ?_)
    refine lv_goto (tgt := 7) hx hb dX0_tickleByNets_27 (by decide) ?_
    cases hf
    exact kc _ rfl _ _ _ hw (lv_sub hl [1, 2, 3, 0] rfl)
theorem wX0_tickleByNets_L7 (C : sn_C p s m args meth c RX0 cX0_tickleByNets 7 none D ct ad layC A) {q0 : Nat} {x1 : Int32} {x2 : Int32}  (h0 : sn_isX0 q0) {z : sn_S × Int32} {t : sn_S} (h : sn_it (LX0_tickleByNets_7 q0 x1 x2) 5000 z = some t) (kx : ∀ v, t = v → sn_At p l e rmX0_tickleByNets s m args below meth c Q D ct ad layC A 7 v 30 [(0, .ref (ad q0)), (1, .int x1), (2, .int x2)] []) : sn_At p l e rmX0_tickleByNets s m args below meth c Q D ct ad layC A 7 z.1 7 [(0, .ref (ad q0)), (1, .int x1), (2, .int x2), (3, .int z.2)] [] :=
  sn_loop (f := LX0_tickleByNets_7 q0 x1 x2) (G := fun z => sn_At p l e rmX0_tickleByNets s m args below meth c Q D ct ad layC A 7 z.1 7 [(0, .ref (ad q0)), (1, .int x1), (2, .int x2), (3, .int z.2)] []) (E := fun t => (∀ v, t = v → sn_At p l e rmX0_tickleByNets s m args below meth c Q D ct ad layC A 7 v 30 [(0, .ref (ad q0)), (1, .int x1), (2, .int x2)] []) ∧ True) (fun z o hf k1 k2 => wX0_tickleByNets_7 C h0 hf (fun v e => k1 v e) (fun v e => (k2 _ e).1 v rfl)) 5000 z t h ⟨kx, trivial⟩
theorem wX0_tickleByNets_in (C : sn_C p s m args meth c RX0 cX0_tickleByNets 7 none D ct ad layC A) {σ : sn_S} {q0 : Nat} {x1 : Int32} (h0 : sn_isX0 q0) {o : sn_S} (hf : fX0_tickleByNets σ q0 x1 = some o) (kr : sn_Kr p l e rmX0_tickleByNets s m args below meth c Q D ct ad layC A cX0_tickleByNets .return_ (true) o []) : sn_At p l e rmX0_tickleByNets s m args below meth c Q D ct ad layC A 7 σ 0 [(0, .ref (ad q0)), (1, .int x1)] [] := by
  intro H locs ls hw hl
  have hx := C.1
  have hb := C.2.1
  unfold fX0_tickleByNets at hf
  refine lv_bipush (v := 6) hx hb dX0_tickleByNets_0 (by decide) ?_
  refine lv_iload_n hx hb dX0_tickleByNets_2 rfl (lv_at hl 1 rfl) ?_
  refine lv_imul hx hb dX0_tickleByNets_3 ?_
  obtain ⟨y_1, e_2, hf⟩ := sn_ltE hf
  refine lv_topi (fun y_1_ e_2_ => ?_)
  obtain rfl : y_1 = y_1_ := e_2.trans e_2_.symm
  refine lv_istore_n (lv' := [(2, .int y_1), (0, .ref (ad q0)), (1, .int x1)]) hx hb dX0_tickleByNets_4 rfl hl (by decide) rfl (fun ls hl => ?_)
  refine lv_iconst (v := 0) hx hb dX0_tickleByNets_5 rfl ?_
  refine lv_istore_n (lv' := [(3, .int (0 : Int32)), (2, .int y_1), (0, .ref (ad q0)), (1, .int x1)]) hx hb dX0_tickleByNets_6 rfl hl (by decide) rfl (fun ls hl => ?_)
  obtain ⟨t_3, h_4, hf⟩ := sn_bd hf
  exact wX0_tickleByNets_L7 C h0 h_4 (fun v e => by cases e; exact wX0_tickleByNets_30 C h0 hf kr) _ _ _ hw (lv_sub hl [2, 3, 1, 0] rfl)
theorem ctX0_tickleByNets (l : Launch) {σ : sn_S} {q0 : Nat} {x1 : Int32} (h0 : sn_isX0 q0) {o : sn_S} (hf : fX0_tickleByNets σ q0 x1 = some o) : sn_M l yX0_tickleByNets cX0_tickleByNets 7 none rmX0_tickleByNets layC (fun ad => [.ref (ad q0), .int x1]) σ none o :=
  sn_met (by decide) (fun _ => Nat.le_of_ble_eq_true rfl) (fun p e s m args below meth c ls D ct ad A C hw hl => wX0_tickleByNets_in C h0 hf (fun H locs ls pc hw ok hd => sn_vret C hw hd) _ _ _ hw hl)
-- X0_cameAt
abbrev rmX0_cameAt : Room := { frames := 0, cells := 0, slots := 0, locals := 0 }
def fX0_cameAt (σ : sn_S) (q0 : Nat) (x1 : Int32) (x2 : Int32) : Option Int32 :=
  (sn_gd (sn_in (((6 : Int32) * x2) + x1) 180) (some (sn_I σ (q0 + 8) (((6 : Int32) * x2) + x1).toNatClampNeg)))
theorem wX0_cameAt_in (C : sn_C p s m args meth c RX0 cX0_cameAt 3 (some .int) D ct ad layC A) {σ : sn_S} {q0 : Nat} {x1 : Int32} {x2 : Int32} (h0 : sn_isX0 q0) {o : Int32} (hf : fX0_cameAt σ q0 x1 x2 = some o) (kr : sn_Kr p l e rmX0_cameAt s m args below meth c Q D ct ad layC A cX0_cameAt .ireturn (true) σ [.int o]) : sn_At p l e rmX0_cameAt s m args below meth c Q D ct ad layC A 3 σ 0 [(0, .ref (ad q0)), (1, .int x1), (2, .int x2)] [] := by
  intro H locs ls hw hl
  have hx := C.1
  have hb := C.2.1
  unfold fX0_cameAt at hf
  refine lv_aload_n hx hb dX0_cameAt_0 rfl (lv_at hl 0 rfl) ?_
  refine sn_getC (r := (q0 + 8)) C hw fd_RX0_37 (sn_look h0 (k := 0) rfl) rfl dX0_cameAt_1 ?_
  refine lv_bipush (v := 6) hx hb dX0_cameAt_4 (by decide) ?_
  refine lv_iload_n hx hb dX0_cameAt_6 rfl (lv_at hl 2 rfl) ?_
  refine lv_imul hx hb dX0_cameAt_7 ?_
  refine lv_iload_n hx hb dX0_cameAt_8 rfl (lv_at hl 1 rfl) ?_
  refine lv_iadd hx hb dX0_cameAt_9 ?_
  obtain ⟨g_1, hf⟩ := sn_gdE hf
  refine sn_iald C hw (sn_look h0 (k := 8) rfl) g_1 dX0_cameAt_10 ?_
  cases hf
  exact kr _ _ _ _ hw rfl dX0_cameAt_11
theorem ctX0_cameAt (l : Launch) {σ : sn_S} {q0 : Nat} {x1 : Int32} {x2 : Int32} (h0 : sn_isX0 q0) {o : Int32} (hf : fX0_cameAt σ q0 x1 x2 = some o) : sn_M l yX0_cameAt cX0_cameAt 3 (some .int) rmX0_cameAt layC (fun ad => [.ref (ad q0), .int x1, .int x2]) σ (some (fun _ => .int o)) σ :=
  sn_met (by decide) (fun _ => Nat.le_of_ble_eq_true rfl) (fun p e s m args below meth c ls D ct ad A C hw hl => wX0_cameAt_in C h0 hf (fun H locs ls pc hw ok hd => sn_iret C hw hd) _ _ _ hw hl)
-- X0_comesTo
abbrev rmX0_comesTo : Room := { frames := 1, cells := 0, slots := 0, locals := 22 }
def BX0_comesTo_19 (σ : sn_S) (q0 : Nat) (x1 : Int32) (x2 : Int32) (t0 : Int32) : Option (Int32) :=
  (sn_gd (sn_in x1 6) (sn_gd (sn_in x2 30) ((fX0_cameAt σ q0 x1 x2).bind fun t_3 => (some ((((sn_I σ (q0 + 2) x1.toNatClampNeg) * (sn_I σ (q0 + 1) x2.toNatClampNeg)) + t_3) + t0)))))
def fX0_comesTo (σ : sn_S) (q0 : Nat) (x1 : Int32) (x2 : Int32) : Option Int32 :=
  (sn_gd (sn_in x1 6) ((fX8_hasBit (sn_I σ (q0 + 5) x1.toNatClampNeg) x2).bind fun t_2 => (if t_2 = 0 then
  (BX0_comesTo_19 σ q0 x1 x2 (0 : Int32))
  else
  (BX0_comesTo_19 σ q0 x1 x2 (40 : Int32)))))
theorem wX0_comesTo_19 (C : sn_C p s m args meth c RX0 cX0_comesTo 4 (some .int) D ct ad layC A) {σ : sn_S} {q0 : Nat} {x1 : Int32} {x2 : Int32} {t0 : Int32} (h0 : sn_isX0 q0) {o : Int32} (hf : BX0_comesTo_19 σ q0 x1 x2 t0 = some o) (kr : sn_Kr p l e rmX0_comesTo s m args below meth c Q D ct ad layC A cX0_comesTo .ireturn (true) σ [.int o]) : sn_At p l e rmX0_comesTo s m args below meth c Q D ct ad layC A 4 σ 19 [(0, .ref (ad q0)), (1, .int x1), (2, .int x2)] [.int t0] := by
  intro H locs ls hw hl
  have hx := C.1
  have hb := C.2.1
  unfold BX0_comesTo_19 at hf
  refine lv_istore_n (lv' := [(3, .int t0), (0, .ref (ad q0)), (1, .int x1), (2, .int x2)]) hx hb dX0_comesTo_19 rfl hl (by decide) rfl (fun ls hl => ?_)
  refine lv_aload_n hx hb dX0_comesTo_20 rfl (lv_at hl 1 rfl) ?_
  refine sn_getC (r := (q0 + 2)) C hw fd_RX0_19 (sn_look h0 (k := 0) rfl) rfl dX0_comesTo_21 ?_
  refine lv_iload_n hx hb dX0_comesTo_24 rfl (lv_at hl 2 rfl) ?_
  obtain ⟨g_1, hf⟩ := sn_gdE hf
  refine sn_iald C hw (sn_look h0 (k := 2) rfl) g_1 dX0_comesTo_25 ?_
  refine lv_aload_n hx hb dX0_comesTo_26 rfl (lv_at hl 1 rfl) ?_
  refine sn_getC (r := (q0 + 1)) C hw fd_RX0_15 (sn_look h0 (k := 0) rfl) rfl dX0_comesTo_27 ?_
  refine lv_iload_n hx hb dX0_comesTo_30 rfl (lv_at hl 3 rfl) ?_
  obtain ⟨g_2, hf⟩ := sn_gdE hf
  refine sn_iald C hw (sn_look h0 (k := 1) rfl) g_2 dX0_comesTo_31 ?_
  refine lv_imul hx hb dX0_comesTo_32 ?_
  refine lv_aload_n hx hb dX0_comesTo_33 rfl (lv_at hl 1 rfl) ?_
  refine lv_iload_n hx hb dX0_comesTo_34 rfl (lv_at hl 2 rfl) ?_
  refine lv_iload_n hx hb dX0_comesTo_35 rfl (lv_at hl 3 rfl) ?_
  obtain ⟨t_3, h_4, hf⟩ := sn_bd hf
  refine sn_callVi (rest := [.int ((sn_I σ (q0 + 2) x1.toNatClampNeg) * (sn_I σ (q0 + 1) x2.toNatClampNeg))]) C hw (ctX0_cameAt l h0 h_4) kl_RX0_105 (sn_look h0 (k := 0) rfl) rfl rfl rfl rfl (Nat.le_of_ble_eq_true rfl) dX0_comesTo_36 hl.1 (fun H locs hw => ?_)
  refine lv_iadd hx hb dX0_comesTo_39 ?_
  refine lv_iload_n hx hb dX0_comesTo_40 rfl (lv_at hl 0 rfl) ?_
  refine lv_iadd hx hb dX0_comesTo_41 ?_
  cases hf
  exact kr _ _ _ _ hw rfl dX0_comesTo_42
theorem wX0_comesTo_in (C : sn_C p s m args meth c RX0 cX0_comesTo 4 (some .int) D ct ad layC A) {σ : sn_S} {q0 : Nat} {x1 : Int32} {x2 : Int32} (h0 : sn_isX0 q0) {o : Int32} (hf : fX0_comesTo σ q0 x1 x2 = some o) (kr : sn_Kr p l e rmX0_comesTo s m args below meth c Q D ct ad layC A cX0_comesTo .ireturn (true) σ [.int o]) : sn_At p l e rmX0_comesTo s m args below meth c Q D ct ad layC A 4 σ 0 [(0, .ref (ad q0)), (1, .int x1), (2, .int x2)] [] := by
  intro H locs ls hw hl
  have hx := C.1
  have hb := C.2.1
  unfold fX0_comesTo at hf
  refine lv_aload_n hx hb dX0_comesTo_0 rfl (lv_at hl 0 rfl) ?_
  refine sn_getC (r := (q0 + 5)) C hw fd_RX0_28 (sn_look h0 (k := 0) rfl) rfl dX0_comesTo_1 ?_
  refine lv_iload_n hx hb dX0_comesTo_4 rfl (lv_at hl 1 rfl) ?_
  obtain ⟨g_1, hf⟩ := sn_gdE hf
  refine sn_iald C hw (sn_look h0 (k := 5) rfl) g_1 dX0_comesTo_5 ?_
  refine lv_iload_n hx hb dX0_comesTo_6 rfl (lv_at hl 2 rfl) ?_
  obtain ⟨t_2, h_3, hf⟩ := sn_bd hf
  refine sn_callNi (rest := []) C hw (ctX8_hasBit l  h_3) kl_RX0_98 rfl rfl rfl (Nat.le_of_ble_eq_true rfl) dX0_comesTo_7 hl.1 (fun H locs hw => ?_)
  refine lv_if_eq (tgt := 18) hx hb dX0_comesTo_10 (by decide) (fun c_4 => ?_) (fun c_4 => ?_)
  · have hf := sn_if c_4 hf
    refine lv_iconst (v := 0) hx hb dX0_comesTo_18 rfl ?_
    exact wX0_comesTo_19 C h0 hf kr _ _ _ hw (lv_sub hl [0, 1, 2] rfl)
  · have hf := sn_el c_4 hf
    refine lv_bipush (v := 40) hx hb dX0_comesTo_13 (by decide) ?_
    refine lv_goto (tgt := 19) hx hb dX0_comesTo_15 (by decide) ?_
    exact wX0_comesTo_19 C h0 hf kr _ _ _ hw (lv_sub hl [0, 1, 2] rfl)
theorem ctX0_comesTo (l : Launch) {σ : sn_S} {q0 : Nat} {x1 : Int32} {x2 : Int32} (h0 : sn_isX0 q0) {o : Int32} (hf : fX0_comesTo σ q0 x1 x2 = some o) : sn_M l yX0_comesTo cX0_comesTo 4 (some .int) rmX0_comesTo layC (fun ad => [.ref (ad q0), .int x1, .int x2]) σ (some (fun _ => .int o)) σ :=
  sn_met (by decide) (fun _ => Nat.le_of_ble_eq_true rfl) (fun p e s m args below meth c ls D ct ad A C hw hl => wX0_comesTo_in C h0 hf (fun H locs ls pc hw ok hd => sn_iret C hw hd) _ _ _ hw hl)
-- X0_liveMinute
abbrev rmX0_liveMinute : Room := { frames := 2, cells := 0, slots := 0, locals := 45 }
def BX0_liveMinute_115 (σ : sn_S) (q0 : Nat) (x1 : Int32) (x3 : Int32) : Option (sn_S) :=
  (sn_gd (sn_in x1 30) (sn_lt (sn_pI σ (q0 + 9) x1.toNatClampNeg x3) fun σ_2 => (some σ_2)))
def BX0_liveMinute_98 (σ : sn_S) (q0 : Nat) (x1 : Int32) (x2 : Int32) (x3 : Int32) (x4 : Int32) (x5 : Int32) : Option ((sn_S × Int32 × Int32) ⊕ (sn_S × Int32)) :=
  (sn_gd (sn_in (x2 + x4) 180) (sn_lt (sn_pI σ (q0 + 7) (x2 + x4).toNatClampNeg x5) fun σ_2 => (sn_lt (x4 + 1) fun y_4 => (some (.inl (σ_2, x3, y_4))))))
def BX0_liveMinute_46 (σ : sn_S) (q0 : Nat) (x1 : Int32) (x2 : Int32) (x3 : Int32) (x4 : Int32) (t0 : Int32) (t1 : Int32) : Option ((sn_S × Int32 × Int32) ⊕ (sn_S × Int32)) :=
  (sn_lt (t0 + t1) fun y_1 => (sn_gd (sn_in x4 6) (if y_1 < (sn_I σ (q0 + 3) x4.toNatClampNeg) then
  (BX0_liveMinute_98 σ q0 x1 x2 x3 x4 y_1)
  else
  (sn_gd (sn_in x4 6) ((fX8_hasBit (sn_I σ (q0 + 4) x4.toNatClampNeg) x1).bind fun t_6 => (if t_6 = 0 then
  (sn_lt (x3 ||| ((1 : Int32) <<< (x4 &&& 31))) fun y_9 => (sn_gd (sn_in x4 6) (sn_gd (sn_in x4 6) (sn_lt (sn_pI σ (q0 + 10) x4.toNatClampNeg ((sn_I σ (q0 + 10) x4.toNatClampNeg) ||| ((1 : Int32) <<< (x1 &&& 31)))) fun σ_13 => (BX0_liveMinute_98 σ_13 q0 x1 x2 y_9 x4 (0 : Int32))))))
  else
  (BX0_liveMinute_98 σ q0 x1 x2 x3 x4 y_1)))))))
def BX0_liveMinute_10 (σ : sn_S) (q0 : Nat) (x1 : Int32) (x2 : Int32) (x3 : Int32) (x4 : Int32) : Option ((sn_S × Int32 × Int32) ⊕ (sn_S × Int32)) :=
  (if (sn_I σ q0 1) ≤ x4 then
  (some (.inr (σ, x3)))
  else
  ((fX0_comesTo σ q0 x4 x1).bind fun t_2 => (if x1 = 0 then
  (BX0_liveMinute_46 σ q0 x1 x2 x3 x4 t_2 (0 : Int32))
  else
  (sn_gd (sn_in ((x2 - (6 : Int32)) + x4) 180) (BX0_liveMinute_46 σ q0 x1 x2 x3 x4 t_2 (sn_I σ (q0 + 7) ((x2 - (6 : Int32)) + x4).toNatClampNeg))))))
def LX0_liveMinute_10 (q0 : Nat) (x1 : Int32) (x2 : Int32) (s : sn_S × Int32 × Int32) : Option ((sn_S × Int32 × Int32) ⊕ (sn_S × Int32)) := BX0_liveMinute_10 s.1 q0 x1 x2 s.2.1 s.2.2
def fX0_liveMinute (σ : sn_S) (q0 : Nat) (x1 : Int32) : Option sn_S :=
  (sn_lt ((6 : Int32) * x1) fun y_1 => ((sn_it (LX0_liveMinute_10 q0 x1 y_1) 5000 (σ, (0 : Int32), (0 : Int32))).bind fun t_3 => (BX0_liveMinute_115 t_3.1 q0 x1 t_3.2)))
theorem wX0_liveMinute_115 (C : sn_C p s m args meth c RX0 cX0_liveMinute 6 none D ct ad layC A) {σ : sn_S} {q0 : Nat} {x1 : Int32} {x3 : Int32} (h0 : sn_isX0 q0) {o : sn_S} (hf : BX0_liveMinute_115 σ q0 x1 x3 = some o) (kr : sn_Kr p l e rmX0_liveMinute s m args below meth c Q D ct ad layC A cX0_liveMinute .return_ (true) o []) : sn_At p l e rmX0_liveMinute s m args below meth c Q D ct ad layC A 6 σ 115 [(0, .ref (ad q0)), (1, .int x1), (3, .int x3)] [] := by
  intro H locs ls hw hl
  have hx := C.1
  have hb := C.2.1
  unfold BX0_liveMinute_115 at hf
  refine lv_aload_n hx hb dX0_liveMinute_115 rfl (lv_at hl 0 rfl) ?_
  refine sn_getC (r := (q0 + 9)) C hw fd_RX0_40 (sn_look h0 (k := 0) rfl) rfl dX0_liveMinute_116 ?_
  refine lv_iload_n hx hb dX0_liveMinute_119 rfl (lv_at hl 1 rfl) ?_
  refine lv_iload_n hx hb dX0_liveMinute_120 rfl (lv_at hl 2 rfl) ?_
  obtain ⟨g_1, hf⟩ := sn_gdE hf
  refine sn_iast C hw (sn_look h0 (k := 9) rfl) g_1 dX0_liveMinute_121 (fun H locs hw => ?_)
  obtain ⟨σ_2, e_3, hf⟩ := sn_ltE hf
  rw [← e_3] at hw
  cases hf
  exact kr _ _ _ _ hw rfl dX0_liveMinute_122
theorem wX0_liveMinute_98 (C : sn_C p s m args meth c RX0 cX0_liveMinute 6 none D ct ad layC A) {σ : sn_S} {q0 : Nat} {x1 : Int32} {x2 : Int32} {x3 : Int32} {x4 : Int32} {x5 : Int32} (h0 : sn_isX0 q0) {o : (sn_S × Int32 × Int32) ⊕ (sn_S × Int32)} (hf : BX0_liveMinute_98 σ q0 x1 x2 x3 x4 x5 = some o) (kc : ∀ v, o = .inl v → sn_At p l e rmX0_liveMinute s m args below meth c Q D ct ad layC A 6 v.1 10 [(0, .ref (ad q0)), (1, .int x1), (2, .int x2), (3, .int v.2.1), (4, .int v.2.2)] []) (kx : ∀ v, o = .inr v → sn_At p l e rmX0_liveMinute s m args below meth c Q D ct ad layC A 6 v.1 115 [(0, .ref (ad q0)), (1, .int x1), (3, .int v.2)] []) : sn_At p l e rmX0_liveMinute s m args below meth c Q D ct ad layC A 6 σ 98 [(0, .ref (ad q0)), (1, .int x1), (2, .int x2), (3, .int x3), (4, .int x4), (5, .int x5)] [] := by
  intro H locs ls hw hl
  have hx := C.1
  have hb := C.2.1
  unfold BX0_liveMinute_98 at hf
  refine lv_aload_n hx hb dX0_liveMinute_98 rfl (lv_at hl 0 rfl) ?_
  refine sn_getC (r := (q0 + 7)) C hw fd_RX0_34 (sn_look h0 (k := 0) rfl) rfl dX0_liveMinute_99 ?_
  refine lv_iload_n hx hb dX0_liveMinute_102 rfl (lv_at hl 2 rfl) ?_
  refine lv_iload hx hb dX0_liveMinute_103 (lv_at hl 4 rfl) ?_
  refine lv_iadd hx hb dX0_liveMinute_105 ?_
  refine lv_iload hx hb dX0_liveMinute_106 (lv_at hl 5 rfl) ?_
  obtain ⟨g_1, hf⟩ := sn_gdE hf
  refine sn_iast C hw (sn_look h0 (k := 7) rfl) g_1 dX0_liveMinute_108 (fun H locs hw => ?_)
  obtain ⟨σ_2, e_3, hf⟩ := sn_ltE hf
  rw [← e_3] at hw
  obtain ⟨y_4, e_5, hf⟩ := sn_ltE hf
  refine lv_iinc (v := y_4) (lv' := [(4, .int y_4), (0, .ref (ad q0)), (1, .int x1), (2, .int x2), (3, .int x3), (5, .int x5)]) hx hb dX0_liveMinute_109 hl (k := 4) rfl (by rw [e_5]; rfl) (by decide) rfl (fun ls hl => ?_)
  refine lv_goto (tgt := 10) hx hb dX0_liveMinute_112 (by decide) ?_
  cases hf
  exact kc _ rfl _ _ _ hw (lv_sub hl [1, 2, 3, 4, 0] rfl)
theorem wX0_liveMinute_46 (C : sn_C p s m args meth c RX0 cX0_liveMinute 6 none D ct ad layC A) {σ : sn_S} {q0 : Nat} {x1 : Int32} {x2 : Int32} {x3 : Int32} {x4 : Int32} {t0 : Int32} {t1 : Int32} (h0 : sn_isX0 q0) {o : (sn_S × Int32 × Int32) ⊕ (sn_S × Int32)} (hf : BX0_liveMinute_46 σ q0 x1 x2 x3 x4 t0 t1 = some o) (kc : ∀ v, o = .inl v → sn_At p l e rmX0_liveMinute s m args below meth c Q D ct ad layC A 6 v.1 10 [(0, .ref (ad q0)), (1, .int x1), (2, .int x2), (3, .int v.2.1), (4, .int v.2.2)] []) (kx : ∀ v, o = .inr v → sn_At p l e rmX0_liveMinute s m args below meth c Q D ct ad layC A 6 v.1 115 [(0, .ref (ad q0)), (1, .int x1), (3, .int v.2)] []) : sn_At p l e rmX0_liveMinute s m args below meth c Q D ct ad layC A 6 σ 46 [(0, .ref (ad q0)), (1, .int x1), (2, .int x2), (3, .int x3), (4, .int x4)] [.int t1, .int t0] := by
  intro H locs ls hw hl
  have hx := C.1
  have hb := C.2.1
  unfold BX0_liveMinute_46 at hf
  refine lv_iadd hx hb dX0_liveMinute_46 ?_
  obtain ⟨y_1, e_2, hf⟩ := sn_ltE hf
  refine lv_topi (fun y_1_ e_2_ => ?_)
  obtain rfl : y_1 = y_1_ := e_2.trans e_2_.symm
  refine lv_istore (lv' := [(5, .int y_1), (0, .ref (ad q0)), (1, .int x1), (2, .int x2), (3, .int x3), (4, .int x4)]) hx hb dX0_liveMinute_47 hl (by decide) rfl (fun ls hl => ?_)
  refine lv_iload hx hb dX0_liveMinute_49 (lv_at hl 0 rfl) ?_
  refine lv_aload_n hx hb dX0_liveMinute_51 rfl (lv_at hl 1 rfl) ?_
  refine sn_getC (r := (q0 + 3)) C hw fd_RX0_22 (sn_look h0 (k := 0) rfl) rfl dX0_liveMinute_52 ?_
  refine lv_iload hx hb dX0_liveMinute_55 (lv_at hl 5 rfl) ?_
  obtain ⟨g_3, hf⟩ := sn_gdE hf
  refine sn_iald C hw (sn_look h0 (k := 3) rfl) g_3 dX0_liveMinute_57 ?_
  refine lv_icmp_lt (tgt := 98) hx hb dX0_liveMinute_58 (by decide) (fun c_4 => ?_) (fun c_4 => ?_)
  · have hf := sn_if c_4 hf
    exact wX0_liveMinute_98 C h0 hf kc kx _ _ _ hw (lv_sub hl [1, 2, 3, 4, 5, 0] rfl)
  · have hf := sn_el c_4 hf
    refine lv_aload_n hx hb dX0_liveMinute_61 rfl (lv_at hl 1 rfl) ?_
    refine sn_getC (r := (q0 + 4)) C hw fd_RX0_25 (sn_look h0 (k := 0) rfl) rfl dX0_liveMinute_62 ?_
    refine lv_iload hx hb dX0_liveMinute_65 (lv_at hl 5 rfl) ?_
    obtain ⟨g_5, hf⟩ := sn_gdE hf
    refine sn_iald C hw (sn_look h0 (k := 4) rfl) g_5 dX0_liveMinute_67 ?_
    refine lv_iload_n hx hb dX0_liveMinute_68 rfl (lv_at hl 2 rfl) ?_
    obtain ⟨t_6, h_7, hf⟩ := sn_bd hf
    refine sn_callNi (rest := []) C hw (ctX8_hasBit l  h_7) kl_RX0_98 rfl rfl rfl (Nat.le_of_ble_eq_true rfl) dX0_liveMinute_69 hl.1 (fun H locs hw => ?_)
    refine lv_if_ne (tgt := 98) hx hb dX0_liveMinute_72 (by decide) (fun c_8 => ?_) (fun c_8 => ?_)
    · have hf := sn_el c_8 hf
      exact wX0_liveMinute_98 C h0 hf kc kx _ _ _ hw (lv_sub hl [1, 2, 3, 4, 5, 0] rfl)
    · have hf := sn_if c_8 hf
      refine lv_iload_n hx hb dX0_liveMinute_75 rfl (lv_at hl 4 rfl) ?_
      refine lv_iconst (v := 1) hx hb dX0_liveMinute_76 rfl ?_
      refine lv_iload hx hb dX0_liveMinute_77 (lv_at hl 5 rfl) ?_
      refine lv_ishl hx hb dX0_liveMinute_79 ?_
      refine lv_ior hx hb dX0_liveMinute_80 ?_
      obtain ⟨y_9, e_10, hf⟩ := sn_ltE hf
      refine lv_topi (fun y_9_ e_10_ => ?_)
      obtain rfl : y_9 = y_9_ := e_10.trans e_10_.symm
      refine lv_istore_n (lv' := [(3, .int y_9), (5, .int y_1), (0, .ref (ad q0)), (1, .int x1), (2, .int x2), (4, .int x4)]) hx hb dX0_liveMinute_81 rfl hl (by decide) rfl (fun ls hl => ?_)
      refine lv_aload_n hx hb dX0_liveMinute_82 rfl (lv_at hl 2 rfl) ?_
      refine sn_getC (r := (q0 + 10)) C hw fd_RX0_43 (sn_look h0 (k := 0) rfl) rfl dX0_liveMinute_83 ?_
      refine lv_iload hx hb dX0_liveMinute_86 (lv_at hl 5 rfl) ?_
      refine lv_dup2_11 hx hb dX0_liveMinute_88 rfl rfl ?_
      obtain ⟨g_11, hf⟩ := sn_gdE hf
      refine sn_iald C hw (sn_look h0 (k := 10) rfl) g_11 dX0_liveMinute_89 ?_
      refine lv_iconst (v := 1) hx hb dX0_liveMinute_90 rfl ?_
      refine lv_iload_n hx hb dX0_liveMinute_91 rfl (lv_at hl 3 rfl) ?_
      refine lv_ishl hx hb dX0_liveMinute_92 ?_
      refine lv_ior hx hb dX0_liveMinute_93 ?_
      obtain ⟨g_12, hf⟩ := sn_gdE hf
      refine sn_iast C hw (sn_look h0 (k := 10) rfl) g_12 dX0_liveMinute_94 (fun H locs hw => ?_)
      obtain ⟨σ_13, e_14, hf⟩ := sn_ltE hf
      rw [← e_14] at hw
      refine lv_iconst (v := 0) hx hb dX0_liveMinute_95 rfl ?_
      refine lv_istore (lv' := [(5, .int (0 : Int32)), (3, .int y_9), (0, .ref (ad q0)), (1, .int x1), (2, .int x2), (4, .int x4)]) hx hb dX0_liveMinute_96 hl (by decide) rfl (fun ls hl => ?_)
      exact wX0_liveMinute_98 C h0 hf kc kx _ _ _ hw (lv_sub hl [2, 3, 4, 1, 5, 0] rfl)
theorem wX0_liveMinute_10 (C : sn_C p s m args meth c RX0 cX0_liveMinute 6 none D ct ad layC A) {σ : sn_S} {q0 : Nat} {x1 : Int32} {x2 : Int32} {x3 : Int32} {x4 : Int32} (h0 : sn_isX0 q0) {o : (sn_S × Int32 × Int32) ⊕ (sn_S × Int32)} (hf : BX0_liveMinute_10 σ q0 x1 x2 x3 x4 = some o) (kc : ∀ v, o = .inl v → sn_At p l e rmX0_liveMinute s m args below meth c Q D ct ad layC A 6 v.1 10 [(0, .ref (ad q0)), (1, .int x1), (2, .int x2), (3, .int v.2.1), (4, .int v.2.2)] []) (kx : ∀ v, o = .inr v → sn_At p l e rmX0_liveMinute s m args below meth c Q D ct ad layC A 6 v.1 115 [(0, .ref (ad q0)), (1, .int x1), (3, .int v.2)] []) : sn_At p l e rmX0_liveMinute s m args below meth c Q D ct ad layC A 6 σ 10 [(0, .ref (ad q0)), (1, .int x1), (2, .int x2), (3, .int x3), (4, .int x4)] [] := by
  intro H locs ls hw hl
  have hx := C.1
  have hb := C.2.1
  unfold BX0_liveMinute_10 at hf
  refine lv_iload hx hb dX0_liveMinute_10 (lv_at hl 4 rfl) ?_
  refine lv_aload_n hx hb dX0_liveMinute_12 rfl (lv_at hl 0 rfl) ?_
  refine sn_getI C hw fd_RX0_54 (sn_look h0 (k := 0) rfl) rfl dX0_liveMinute_13 ?_
  refine lv_icmp_ge (tgt := 115) hx hb dX0_liveMinute_16 (by decide) (fun c_1 => ?_) (fun c_1 => ?_)
  · have hf := sn_if c_1 hf
    cases hf
    exact kx _ rfl _ _ _ hw (lv_sub hl [0, 1, 3] rfl)
  · have hf := sn_el c_1 hf
    refine lv_aload_n hx hb dX0_liveMinute_19 rfl (lv_at hl 0 rfl) ?_
    refine lv_iload hx hb dX0_liveMinute_20 (lv_at hl 4 rfl) ?_
    refine lv_iload_n hx hb dX0_liveMinute_22 rfl (lv_at hl 1 rfl) ?_
    obtain ⟨t_2, h_3, hf⟩ := sn_bd hf
    refine sn_callVi (rest := []) C hw (ctX0_comesTo l h0 h_3) kl_RX0_102 (sn_look h0 (k := 0) rfl) rfl rfl rfl rfl (Nat.le_of_ble_eq_true rfl) dX0_liveMinute_23 hl.1 (fun H locs hw => ?_)
    refine lv_iload_n hx hb dX0_liveMinute_26 rfl (lv_at hl 1 rfl) ?_
    refine lv_if_ne (tgt := 34) hx hb dX0_liveMinute_27 (by decide) (fun c_4 => ?_) (fun c_4 => ?_)
    · have hf := sn_el c_4 hf
      refine lv_aload_n hx hb dX0_liveMinute_34 rfl (lv_at hl 0 rfl) ?_
      refine sn_getC (r := (q0 + 7)) C hw fd_RX0_34 (sn_look h0 (k := 0) rfl) rfl dX0_liveMinute_35 ?_
      refine lv_iload_n hx hb dX0_liveMinute_38 rfl (lv_at hl 2 rfl) ?_
      refine lv_bipush (v := 6) hx hb dX0_liveMinute_39 (by decide) ?_
      refine lv_isub hx hb dX0_liveMinute_41 ?_
      refine lv_iload hx hb dX0_liveMinute_42 (lv_at hl 4 rfl) ?_
      refine lv_iadd hx hb dX0_liveMinute_44 ?_
      obtain ⟨g_5, hf⟩ := sn_gdE hf
      refine sn_iald C hw (sn_look h0 (k := 7) rfl) g_5 dX0_liveMinute_45 ?_
      exact wX0_liveMinute_46 C h0 hf kc kx _ _ _ hw (lv_sub hl [0, 1, 2, 3, 4] rfl)
    · have hf := sn_if c_4 hf
      refine lv_iconst (v := 0) hx hb dX0_liveMinute_30 rfl ?_
      refine lv_goto (tgt := 46) hx hb dX0_liveMinute_31 (by decide) ?_
      exact wX0_liveMinute_46 C h0 hf kc kx _ _ _ hw (lv_sub hl [0, 1, 2, 3, 4] rfl)
theorem wX0_liveMinute_L10 (C : sn_C p s m args meth c RX0 cX0_liveMinute 6 none D ct ad layC A) {q0 : Nat} {x1 : Int32} {x2 : Int32}  (h0 : sn_isX0 q0) {z : sn_S × Int32 × Int32} {t : sn_S × Int32} (h : sn_it (LX0_liveMinute_10 q0 x1 x2) 5000 z = some t) (kx : ∀ v, t = v → sn_At p l e rmX0_liveMinute s m args below meth c Q D ct ad layC A 6 v.1 115 [(0, .ref (ad q0)), (1, .int x1), (3, .int v.2)] []) : sn_At p l e rmX0_liveMinute s m args below meth c Q D ct ad layC A 6 z.1 10 [(0, .ref (ad q0)), (1, .int x1), (2, .int x2), (3, .int z.2.1), (4, .int z.2.2)] [] :=
  sn_loop (f := LX0_liveMinute_10 q0 x1 x2) (G := fun z => sn_At p l e rmX0_liveMinute s m args below meth c Q D ct ad layC A 6 z.1 10 [(0, .ref (ad q0)), (1, .int x1), (2, .int x2), (3, .int z.2.1), (4, .int z.2.2)] []) (E := fun t => (∀ v, t = v → sn_At p l e rmX0_liveMinute s m args below meth c Q D ct ad layC A 6 v.1 115 [(0, .ref (ad q0)), (1, .int x1), (3, .int v.2)] []) ∧ True) (fun z o hf k1 k2 => wX0_liveMinute_10 C h0 hf (fun v e => k1 v e) (fun v e => (k2 _ e).1 v rfl)) 5000 z t h ⟨kx, trivial⟩
theorem wX0_liveMinute_in (C : sn_C p s m args meth c RX0 cX0_liveMinute 6 none D ct ad layC A) {σ : sn_S} {q0 : Nat} {x1 : Int32} (h0 : sn_isX0 q0) {o : sn_S} (hf : fX0_liveMinute σ q0 x1 = some o) (kr : sn_Kr p l e rmX0_liveMinute s m args below meth c Q D ct ad layC A cX0_liveMinute .return_ (true) o []) : sn_At p l e rmX0_liveMinute s m args below meth c Q D ct ad layC A 6 σ 0 [(0, .ref (ad q0)), (1, .int x1)] [] := by
  intro H locs ls hw hl
  have hx := C.1
  have hb := C.2.1
  unfold fX0_liveMinute at hf
  refine lv_bipush (v := 6) hx hb dX0_liveMinute_0 (by decide) ?_
  refine lv_iload_n hx hb dX0_liveMinute_2 rfl (lv_at hl 1 rfl) ?_
  refine lv_imul hx hb dX0_liveMinute_3 ?_
  obtain ⟨y_1, e_2, hf⟩ := sn_ltE hf
  refine lv_topi (fun y_1_ e_2_ => ?_)
  obtain rfl : y_1 = y_1_ := e_2.trans e_2_.symm
  refine lv_istore_n (lv' := [(2, .int y_1), (0, .ref (ad q0)), (1, .int x1)]) hx hb dX0_liveMinute_4 rfl hl (by decide) rfl (fun ls hl => ?_)
  refine lv_iconst (v := 0) hx hb dX0_liveMinute_5 rfl ?_
  refine lv_istore_n (lv' := [(3, .int (0 : Int32)), (2, .int y_1), (0, .ref (ad q0)), (1, .int x1)]) hx hb dX0_liveMinute_6 rfl hl (by decide) rfl (fun ls hl => ?_)
  refine lv_iconst (v := 0) hx hb dX0_liveMinute_7 rfl ?_
  refine lv_istore (lv' := [(4, .int (0 : Int32)), (3, .int (0 : Int32)), (2, .int y_1), (0, .ref (ad q0)), (1, .int x1)]) hx hb dX0_liveMinute_8 hl (by decide) rfl (fun ls hl => ?_)
  obtain ⟨t_3, h_4, hf⟩ := sn_bd hf
  exact wX0_liveMinute_L10 C h0 h_4 (fun v e => by cases e; exact wX0_liveMinute_115 C h0 hf kr) _ _ _ hw (lv_sub hl [3, 4, 2, 1, 0] rfl)
theorem ctX0_liveMinute (l : Launch) {σ : sn_S} {q0 : Nat} {x1 : Int32} (h0 : sn_isX0 q0) {o : sn_S} (hf : fX0_liveMinute σ q0 x1 = some o) : sn_M l yX0_liveMinute cX0_liveMinute 6 none rmX0_liveMinute layC (fun ad => [.ref (ad q0), .int x1]) σ none o :=
  sn_met (by decide) (fun _ => Nat.le_of_ble_eq_true rfl) (fun p e s m args below meth c ls D ct ad A C hw hl => wX0_liveMinute_in C h0 hf (fun H locs ls pc hw ok hd => sn_vret C hw hd) _ _ _ hw hl)
-- X0_live
abbrev rmX0_live : Room := { frames := 3, cells := 0, slots := 0, locals := 70 }
def BX0_live_60 (σ : sn_S) (q0 : Nat) : Option (sn_S) :=
  (some σ)
def BX0_live_31 (σ : sn_S) (q0 : Nat) (x2 : Int32) (x3 : Int32) : Option ((sn_S × Int32) ⊕ (sn_S)) :=
  (if x2 ≤ x3 then
  (some (.inr (σ)))
  else
  (if (sn_I σ q0 0) ≤ x3 then
  (some (.inr (σ)))
  else
  ((fX0_tickleByNets σ q0 x3).bind fun t_3 => ((fX0_liveMinute t_3 q0 x3).bind fun t_5 => (sn_lt (x3 + 1) fun y_7 => (some (.inl (t_5, y_7))))))))
def LX0_live_31 (q0 : Nat) (x2 : Int32) (s : sn_S × Int32) : Option ((sn_S × Int32) ⊕ (sn_S)) := BX0_live_31 s.1 q0 x2 s.2
def BX0_live_29 (σ : sn_S) (q0 : Nat) (x1 : Int32) (x2 : Int32) : Option (sn_S) :=
  ((sn_it (LX0_live_31 q0 x2) 5000 (σ, x1)).bind fun t_1 => (BX0_live_60 t_1 q0))
def BX0_live_2 (σ : sn_S) (q0 : Nat) (x1 : Int32) (x2 : Int32) (x3 : Int32) : Option ((sn_S × Int32) ⊕ (sn_S)) :=
  (if (sn_I σ q0 1) ≤ x3 then
  (some (.inr (σ)))
  else
  (sn_gd (sn_in x3 6) ((fX8_firstMinutes x1).bind fun t_3 => (sn_gd (sn_in x3 6) (sn_lt (sn_pI σ (q0 + 10) x3.toNatClampNeg ((sn_I σ (q0 + 10) x3.toNatClampNeg) &&& t_3)) fun σ_6 => (sn_lt (x3 + 1) fun y_8 => (some (.inl (σ_6, y_8)))))))))
def LX0_live_2 (q0 : Nat) (x1 : Int32) (x2 : Int32) (s : sn_S × Int32) : Option ((sn_S × Int32) ⊕ (sn_S)) := BX0_live_2 s.1 q0 x1 x2 s.2
def fX0_live (σ : sn_S) (q0 : Nat) (x1 : Int32) (x2 : Int32) : Option sn_S :=
  ((sn_it (LX0_live_2 q0 x1 x2) 5000 (σ, (0 : Int32))).bind fun t_1 => (BX0_live_29 t_1 q0 x1 x2))
theorem wX0_live_60 (C : sn_C p s m args meth c RX0 cX0_live 4 none D ct ad layC A) {σ : sn_S} {q0 : Nat} (h0 : sn_isX0 q0) {o : sn_S} (hf : BX0_live_60 σ q0 = some o) (kr : sn_Kr p l e rmX0_live s m args below meth c Q D ct ad layC A cX0_live .return_ (true) o []) : sn_At p l e rmX0_live s m args below meth c Q D ct ad layC A 4 σ 60 [] [] := by
  intro H locs ls hw hl
  have hx := C.1
  have hb := C.2.1
  unfold BX0_live_60 at hf
  cases hf
  exact kr _ _ _ _ hw rfl dX0_live_60
theorem wX0_live_31 (C : sn_C p s m args meth c RX0 cX0_live 4 none D ct ad layC A) {σ : sn_S} {q0 : Nat} {x2 : Int32} {x3 : Int32} (h0 : sn_isX0 q0) {o : (sn_S × Int32) ⊕ (sn_S)} (hf : BX0_live_31 σ q0 x2 x3 = some o) (kc : ∀ v, o = .inl v → sn_At p l e rmX0_live s m args below meth c Q D ct ad layC A 4 v.1 31 [(0, .ref (ad q0)), (2, .int x2), (3, .int v.2)] []) (kx : ∀ v, o = .inr v → sn_At p l e rmX0_live s m args below meth c Q D ct ad layC A 4 v 60 [] []) : sn_At p l e rmX0_live s m args below meth c Q D ct ad layC A 4 σ 31 [(0, .ref (ad q0)), (2, .int x2), (3, .int x3)] [] := by
  intro H locs ls hw hl
  have hx := C.1
  have hb := C.2.1
  unfold BX0_live_31 at hf
  refine lv_iload_n hx hb dX0_live_31 rfl (lv_at hl 2 rfl) ?_
  refine lv_iload_n hx hb dX0_live_32 rfl (lv_at hl 1 rfl) ?_
  refine lv_icmp_ge (tgt := 60) hx hb dX0_live_33 (by decide) (fun c_1 => ?_) (fun c_1 => ?_)
  · have hf := sn_if c_1 hf
    cases hf
    exact kx _ rfl _ _ _ hw (lv_sub hl [] rfl)
  · have hf := sn_el c_1 hf
    refine lv_iload_n hx hb dX0_live_36 rfl (lv_at hl 2 rfl) ?_
    refine lv_aload_n hx hb dX0_live_37 rfl (lv_at hl 0 rfl) ?_
    refine sn_getI C hw fd_RX0_51 (sn_look h0 (k := 0) rfl) rfl dX0_live_38 ?_
    refine lv_icmp_ge (tgt := 60) hx hb dX0_live_41 (by decide) (fun c_2 => ?_) (fun c_2 => ?_)
    · have hf := sn_if c_2 hf
      cases hf
      exact kx _ rfl _ _ _ hw (lv_sub hl [] rfl)
    · have hf := sn_el c_2 hf
      refine lv_aload_n hx hb dX0_live_44 rfl (lv_at hl 0 rfl) ?_
      refine lv_iload_n hx hb dX0_live_45 rfl (lv_at hl 2 rfl) ?_
      obtain ⟨t_3, h_4, hf⟩ := sn_bd hf
      refine sn_callVv (rest := []) C hw (ctX0_tickleByNets l h0 h_4) kl_RX0_91 (sn_look h0 (k := 0) rfl) rfl rfl rfl rfl (Nat.le_of_ble_eq_true rfl) dX0_live_46 hl.1 (fun H locs hw => ?_)
      refine lv_aload_n hx hb dX0_live_49 rfl (lv_at hl 0 rfl) ?_
      refine lv_iload_n hx hb dX0_live_50 rfl (lv_at hl 2 rfl) ?_
      obtain ⟨t_5, h_6, hf⟩ := sn_bd hf
      refine sn_callVv (rest := []) C hw (ctX0_liveMinute l h0 h_6) kl_RX0_95 (sn_look h0 (k := 0) rfl) rfl rfl rfl rfl (Nat.le_of_ble_eq_true rfl) dX0_live_51 hl.1 (fun H locs hw => ?_)
      obtain ⟨y_7, e_8, hf⟩ := sn_ltE hf
      refine lv_iinc (v := y_7) (lv' := [(3, .int y_7), (0, .ref (ad q0)), (2, .int x2)]) hx hb dX0_live_54 hl (k := 2) rfl (by rw [e_8]; rfl) (by decide) rfl (fun ls hl => ?_)
      refine lv_goto (tgt := 31) hx hb dX0_live_57 (by decide) ?_
      cases hf
      exact kc _ rfl _ _ _ hw (lv_sub hl [1, 2, 0] rfl)
theorem wX0_live_L31 (C : sn_C p s m args meth c RX0 cX0_live 4 none D ct ad layC A) {q0 : Nat} {x2 : Int32}  (h0 : sn_isX0 q0) {z : sn_S × Int32} {t : sn_S} (h : sn_it (LX0_live_31 q0 x2) 5000 z = some t) (kx : ∀ v, t = v → sn_At p l e rmX0_live s m args below meth c Q D ct ad layC A 4 v 60 [] []) : sn_At p l e rmX0_live s m args below meth c Q D ct ad layC A 4 z.1 31 [(0, .ref (ad q0)), (2, .int x2), (3, .int z.2)] [] :=
  sn_loop (f := LX0_live_31 q0 x2) (G := fun z => sn_At p l e rmX0_live s m args below meth c Q D ct ad layC A 4 z.1 31 [(0, .ref (ad q0)), (2, .int x2), (3, .int z.2)] []) (E := fun t => (∀ v, t = v → sn_At p l e rmX0_live s m args below meth c Q D ct ad layC A 4 v 60 [] []) ∧ True) (fun z o hf k1 k2 => wX0_live_31 C h0 hf (fun v e => k1 v e) (fun v e => (k2 _ e).1 v rfl)) 5000 z t h ⟨kx, trivial⟩
theorem wX0_live_29 (C : sn_C p s m args meth c RX0 cX0_live 4 none D ct ad layC A) {σ : sn_S} {q0 : Nat} {x1 : Int32} {x2 : Int32} (h0 : sn_isX0 q0) {o : sn_S} (hf : BX0_live_29 σ q0 x1 x2 = some o) (kr : sn_Kr p l e rmX0_live s m args below meth c Q D ct ad layC A cX0_live .return_ (true) o []) : sn_At p l e rmX0_live s m args below meth c Q D ct ad layC A 4 σ 29 [(0, .ref (ad q0)), (1, .int x1), (2, .int x2)] [] := by
  intro H locs ls hw hl
  have hx := C.1
  have hb := C.2.1
  unfold BX0_live_29 at hf
  refine lv_iload_n hx hb dX0_live_29 rfl (lv_at hl 1 rfl) ?_
  refine lv_istore_n (lv' := [(3, .int x1), (0, .ref (ad q0)), (1, .int x1), (2, .int x2)]) hx hb dX0_live_30 rfl hl (by decide) rfl (fun ls hl => ?_)
  obtain ⟨t_1, h_2, hf⟩ := sn_bd hf
  exact wX0_live_L31 C h0 h_2 (fun v e => by cases e; exact wX0_live_60 C h0 hf kr) _ _ _ hw (lv_sub hl [1, 3, 0] rfl)
theorem wX0_live_2 (C : sn_C p s m args meth c RX0 cX0_live 4 none D ct ad layC A) {σ : sn_S} {q0 : Nat} {x1 : Int32} {x2 : Int32} {x3 : Int32} (h0 : sn_isX0 q0) {o : (sn_S × Int32) ⊕ (sn_S)} (hf : BX0_live_2 σ q0 x1 x2 x3 = some o) (kc : ∀ v, o = .inl v → sn_At p l e rmX0_live s m args below meth c Q D ct ad layC A 4 v.1 2 [(0, .ref (ad q0)), (1, .int x1), (2, .int x2), (3, .int v.2)] []) (kx : ∀ v, o = .inr v → sn_At p l e rmX0_live s m args below meth c Q D ct ad layC A 4 v 29 [(0, .ref (ad q0)), (1, .int x1), (2, .int x2)] []) : sn_At p l e rmX0_live s m args below meth c Q D ct ad layC A 4 σ 2 [(0, .ref (ad q0)), (1, .int x1), (2, .int x2), (3, .int x3)] [] := by
  intro H locs ls hw hl
  have hx := C.1
  have hb := C.2.1
  unfold BX0_live_2 at hf
  refine lv_iload_n hx hb dX0_live_2 rfl (lv_at hl 3 rfl) ?_
  refine lv_aload_n hx hb dX0_live_3 rfl (lv_at hl 0 rfl) ?_
  refine sn_getI C hw fd_RX0_54 (sn_look h0 (k := 0) rfl) rfl dX0_live_4 ?_
  refine lv_icmp_ge (tgt := 29) hx hb dX0_live_7 (by decide) (fun c_1 => ?_) (fun c_1 => ?_)
  · have hf := sn_if c_1 hf
    cases hf
    exact kx _ rfl _ _ _ hw (lv_sub hl [0, 1, 2] rfl)
  · have hf := sn_el c_1 hf
    refine lv_aload_n hx hb dX0_live_10 rfl (lv_at hl 0 rfl) ?_
    refine sn_getC (r := (q0 + 10)) C hw fd_RX0_43 (sn_look h0 (k := 0) rfl) rfl dX0_live_11 ?_
    refine lv_iload_n hx hb dX0_live_14 rfl (lv_at hl 3 rfl) ?_
    refine lv_dup2_11 hx hb dX0_live_15 rfl rfl ?_
    obtain ⟨g_2, hf⟩ := sn_gdE hf
    refine sn_iald C hw (sn_look h0 (k := 10) rfl) g_2 dX0_live_16 ?_
    refine lv_iload_n hx hb dX0_live_17 rfl (lv_at hl 1 rfl) ?_
    obtain ⟨t_3, h_4, hf⟩ := sn_bd hf
    refine sn_callNi (rest := [.int (sn_I σ (q0 + 10) x3.toNatClampNeg), .int x3, .ref (ad (q0 + 10))]) C hw (ctX8_firstMinutes l  h_4) kl_RX0_87 rfl rfl rfl (Nat.le_of_ble_eq_true rfl) dX0_live_18 hl.1 (fun H locs hw => ?_)
    refine lv_iand hx hb dX0_live_21 ?_
    obtain ⟨g_5, hf⟩ := sn_gdE hf
    refine sn_iast C hw (sn_look h0 (k := 10) rfl) g_5 dX0_live_22 (fun H locs hw => ?_)
    obtain ⟨σ_6, e_7, hf⟩ := sn_ltE hf
    rw [← e_7] at hw
    obtain ⟨y_8, e_9, hf⟩ := sn_ltE hf
    refine lv_iinc (v := y_8) (lv' := [(3, .int y_8), (0, .ref (ad q0)), (1, .int x1), (2, .int x2)]) hx hb dX0_live_23 hl (k := 3) rfl (by rw [e_9]; rfl) (by decide) rfl (fun ls hl => ?_)
    refine lv_goto (tgt := 2) hx hb dX0_live_26 (by decide) ?_
    cases hf
    exact kc _ rfl _ _ _ hw (lv_sub hl [1, 2, 3, 0] rfl)
theorem wX0_live_L2 (C : sn_C p s m args meth c RX0 cX0_live 4 none D ct ad layC A) {q0 : Nat} {x1 : Int32} {x2 : Int32}  (h0 : sn_isX0 q0) {z : sn_S × Int32} {t : sn_S} (h : sn_it (LX0_live_2 q0 x1 x2) 5000 z = some t) (kx : ∀ v, t = v → sn_At p l e rmX0_live s m args below meth c Q D ct ad layC A 4 v 29 [(0, .ref (ad q0)), (1, .int x1), (2, .int x2)] []) : sn_At p l e rmX0_live s m args below meth c Q D ct ad layC A 4 z.1 2 [(0, .ref (ad q0)), (1, .int x1), (2, .int x2), (3, .int z.2)] [] :=
  sn_loop (f := LX0_live_2 q0 x1 x2) (G := fun z => sn_At p l e rmX0_live s m args below meth c Q D ct ad layC A 4 z.1 2 [(0, .ref (ad q0)), (1, .int x1), (2, .int x2), (3, .int z.2)] []) (E := fun t => (∀ v, t = v → sn_At p l e rmX0_live s m args below meth c Q D ct ad layC A 4 v 29 [(0, .ref (ad q0)), (1, .int x1), (2, .int x2)] []) ∧ True) (fun z o hf k1 k2 => wX0_live_2 C h0 hf (fun v e => k1 v e) (fun v e => (k2 _ e).1 v rfl)) 5000 z t h ⟨kx, trivial⟩
theorem wX0_live_in (C : sn_C p s m args meth c RX0 cX0_live 4 none D ct ad layC A) {σ : sn_S} {q0 : Nat} {x1 : Int32} {x2 : Int32} (h0 : sn_isX0 q0) {o : sn_S} (hf : fX0_live σ q0 x1 x2 = some o) (kr : sn_Kr p l e rmX0_live s m args below meth c Q D ct ad layC A cX0_live .return_ (true) o []) : sn_At p l e rmX0_live s m args below meth c Q D ct ad layC A 4 σ 0 [(0, .ref (ad q0)), (1, .int x1), (2, .int x2)] [] := by
  intro H locs ls hw hl
  have hx := C.1
  have hb := C.2.1
  unfold fX0_live at hf
  refine lv_iconst (v := 0) hx hb dX0_live_0 rfl ?_
  refine lv_istore_n (lv' := [(3, .int (0 : Int32)), (0, .ref (ad q0)), (1, .int x1), (2, .int x2)]) hx hb dX0_live_1 rfl hl (by decide) rfl (fun ls hl => ?_)
  obtain ⟨t_1, h_2, hf⟩ := sn_bd hf
  exact wX0_live_L2 C h0 h_2 (fun v e => by cases e; exact wX0_live_29 C h0 hf kr) _ _ _ hw (lv_sub hl [1, 2, 3, 0] rfl)
theorem ctX0_live (l : Launch) {σ : sn_S} {q0 : Nat} {x1 : Int32} {x2 : Int32} (h0 : sn_isX0 q0) {o : sn_S} (hf : fX0_live σ q0 x1 x2 = some o) : sn_M l yX0_live cX0_live 4 none rmX0_live layC (fun ad => [.ref (ad q0), .int x1, .int x2]) σ none o :=
  sn_met (by decide) (fun _ => Nat.le_of_ble_eq_true rfl) (fun p e s m args below meth c ls D ct ad A C hw hl => wX0_live_in C h0 hf (fun H locs ls pc hw ok hd => sn_vret C hw hd) _ _ _ hw hl)
end
